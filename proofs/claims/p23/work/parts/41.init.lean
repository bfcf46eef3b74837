theorem sT_ini2 {G : kG} {ra pa qa qb : Nat → Nat} {RA RB : Fn2} : fam 12 ra (fun _ => cI G 10 (fun _ => 0)) ++ fam 12 pa (fun _ => cI G 10 (fun _ => 0)) = sT G ra pa qa qb (fillF 0 0) (planF wIni wIni) 0 RA 0 RB := by
  rw [← fill_0, ← plan_ini]
  exact sT_ini
set_option maxHeartbeats 4000000 in
set_option maxRecDepth 100000 in
theorem s_init (l : Launch) (G : kG) (o : Nat)  : kM l G yX4_init wsX4_init2 ({ frames := 1, cells := 32, slots := 278, locals := 12 } : Room) [.ref o] [kO o 4 [.null, .null, .null, .null, .null, .null, .int (nI 0), .int (nI 0)]] (kQv G [kO o 4 [.null, .null, .null, .null, .null, .null, .int (nI 0), .int (nI 0)]] (fun (_ : (Nat × Nat × Nat × Nat × Nat × Nat × Nat × Nat) × ((Nat → Nat) × (Nat → Nat))) => True) (fun (u : (Nat × Nat × Nat × Nat × Nat × Nat × Nat × Nat) × ((Nat → Nat) × (Nat → Nat))) => ([kO o 4 [.ref u.1.1, .ref u.1.2.1, .ref u.1.2.2.1, .ref u.1.2.2.2.2.2.1, .ref u.1.2.2.2.2.2.2.1, .ref u.1.2.2.2.2.2.2.2, .int (nI 0), .int (nI 0)], kGd G u.1.1 12 (oA 12 u.2.1), kGd G u.1.2.1 12 (oA 12 u.2.2), kH G u.1.2.2.1 2 (oR u.1.2.2.2.1 u.1.2.2.2.2.1), kGd G u.1.2.2.2.1 (vT wIni) (oA (vT wIni) (fun _ => 0)), kGd G u.1.2.2.2.2.1 (vT wIni) (oA (vT wIni) (fun _ => 0)), kC G u.1.2.2.2.2.2.1 2 (nR (w2 (vS wIni) (vS wIni))), kC G u.1.2.2.2.2.2.2.1 2 (nR (w2 (vO wIni) (vO wIni))), kC G u.1.2.2.2.2.2.2.2 8 (nR bIni)] ++ sT G u.2.1 u.2.2 (fun _ => 0) (fun _ => 0) (rugF wIni wIni) (planF wIni wIni) (vT wIni) (runF wIni) (vT wIni) (runF wIni)))) := by
  refine k_ofW (cc := cX4_init) (maxL := 3) (rt := none) (by decide) rfl (Nat.le_of_ble_eq_true rfl) ?_
  intro p e s m args below meth c A ls Qs H locs hQ hAe hx hb hr hml hts hown hlocks hin hK hZ hP hD hS hA hl
  have hown : s.vm.findClass RX4 = some m.cls := hown
  have hl : lv_has ls 3 [(0, .ref o)] := hl
  have hq_0 : (Cond.methodLink RX4 1 objectInit).before args s = true := hts _ (by decide +kernel)
  have hq_1 : (Cond.instanceMethod objectInit).before args s = true := hts _ (by decide +kernel)
  have hq_2 : (Cond.code objectInit ⟨#[0xb1]⟩ 1 none).before args s = true := hts _ (by decide +kernel)
  have hq_3 : (Cond.classLink RX4 7 "[[I").before args s = true := hts _ (by decide +kernel)
  have hq_4 : (Cond.arrayClass .int).before args s = true := hts _ (by decide +kernel)
  have hq_5 : ∀ w ∈ wsX40, w ∈ wsX4_init2 := by decide +kernel
  have hq_6 : (Cond.fieldLink RX4 9 "KnotRugsLaw$Sim" "rug" "[[I").before args s = true := hts _ (by decide +kernel)
  have hq_7 : (Cond.fieldLink RX4 14 "KnotRugsLaw$Sim" "plan" "[[I").before args s = true := hts _ (by decide +kernel)
  have hq_8 : (Cond.classLink RX4 17 "[[[I").before args s = true := hts _ (by decide +kernel)
  have hq_9 : (Cond.fieldLink RX4 19 "KnotRugsLaw$Sim" "runs" "[[[I").before args s = true := hts _ (by decide +kernel)
  have hq_10 : (Cond.fieldLink RX4 22 "KnotRugsLaw$Sim" "speed" "[I").before args s = true := hts _ (by decide +kernel)
  have hq_11 : (Cond.fieldLink RX4 26 "KnotRugsLaw$Sim" "others" "[I").before args s = true := hts _ (by decide +kernel)
  have hq_12 : (Cond.fieldLink RX4 29 "KnotRugsLaw$Sim" "wool" "[I").before args s = true := hts _ (by decide +kernel)
  refine lv_aload_n hx hb dX4_init_0 rfl (lv_at hl 0 rfl) ?_
  refine W.objInit hx hb hown hq_0 hq_1 hq_2 rfl (by rw [hml]; exact hl.1) rfl dX4_init_1 (Nat.le_of_ble_eq_true rfl) (Nat.le_of_ble_eq_true rfl) ?_
  refine W.eq (g2 := F0 m 4 ls []) rfl ?_
  refine lv_aload_n hx hb dX4_init_4 rfl (lv_at hl 0 rfl) ?_
  refine lv_bipush (v := nI 12) hx hb dX4_init_5 (by decide) ?_
  refine lv_bipush (v := nI 10) hx hb dX4_init_7 (by decide) ?_
  refine k_mnaI hx hb hown hq_3 hq_4 hK hP hD hS hA (Nat.le_of_ble_eq_true rfl) (Nat.le_of_ble_eq_true rfl) dX4_init_9 (fun mg_9 mr_9 H hP hD hS => ?_)
  have hP : va_P G.1 vwCl ([kO o 4 [.null, .null, .null, .null, .null, .null, .int (nI 0), .int (nI 0)], kGd G mg_9 12 (oA 12 mr_9)] ++ fam 12 mr_9 (fun _ => cI G 10 (fun _ => 0))) H := hP
  have hD : va_D A ([kO o 4 [.null, .null, .null, .null, .null, .null, .int (nI 0), .int (nI 0)], kGd G mg_9 12 (oA 12 mr_9)] ++ fam 12 mr_9 (fun _ => cI G 10 (fun _ => 0))) := hD
  refine va_put (D := G.1) (ci := 4) (v := .ref mg_9) (ty := .array (.array .int)) (C := RX4) (T := TX4) (N := 8) hx hb hts hq_5 tyX4 tyX4_ok nmX4 hown hK.1 hP hD hS 0 rfl rfl 0 (by decide) hq_6 (fun _ h9 => h9) rfl (by decide +kernel) rfl rfl (Nat.le_of_ble_eq_true rfl) dX4_init_13 (fun H locs hP hD hS => ?_)
  have hP : va_P G.1 vwCl ([kO o 4 [.ref mg_9, .null, .null, .null, .null, .null, .int (nI 0), .int (nI 0)], kGd G mg_9 12 (oA 12 mr_9)] ++ fam 12 mr_9 (fun _ => cI G 10 (fun _ => 0))) H := hP
  have hD : va_D A ([kO o 4 [.ref mg_9, .null, .null, .null, .null, .null, .int (nI 0), .int (nI 0)], kGd G mg_9 12 (oA 12 mr_9)] ++ fam 12 mr_9 (fun _ => cI G 10 (fun _ => 0))) := hD
  refine lv_aload_n hx hb dX4_init_16 rfl (lv_at hl 0 rfl) ?_
  refine lv_bipush (v := nI 12) hx hb dX4_init_17 (by decide) ?_
  refine lv_bipush (v := nI 10) hx hb dX4_init_19 (by decide) ?_
  refine k_mnaI hx hb hown hq_3 hq_4 hK hP hD hS hA (Nat.le_of_ble_eq_true rfl) (Nat.le_of_ble_eq_true rfl) dX4_init_21 (fun mg_21 mr_21 H hP hD hS => ?_)
  have hP := kP_perm hP (k_layp (h := [kO o 4 [.ref mg_9, .null, .null, .null, .null, .null, .int (nI 0), .int (nI 0)], kGd G mg_9 12 (oA 12 mr_9)]) (t := fam 12 mr_9 (fun _ => cI G 10 (fun _ => 0))) (c := [kGd G mg_21 12 (oA 12 mr_21)]) (F := fam 12 mr_21 (fun _ => cI G 10 (fun _ => 0))))
  have hD := kD_perm hD (k_layp (h := [kO o 4 [.ref mg_9, .null, .null, .null, .null, .null, .int (nI 0), .int (nI 0)], kGd G mg_9 12 (oA 12 mr_9)]) (t := fam 12 mr_9 (fun _ => cI G 10 (fun _ => 0))) (c := [kGd G mg_21 12 (oA 12 mr_21)]) (F := fam 12 mr_21 (fun _ => cI G 10 (fun _ => 0))))
  have hP : va_P G.1 vwCl ([kO o 4 [.ref mg_9, .null, .null, .null, .null, .null, .int (nI 0), .int (nI 0)], kGd G mg_9 12 (oA 12 mr_9), kGd G mg_21 12 (oA 12 mr_21)] ++ (fam 12 mr_9 (fun _ => cI G 10 (fun _ => 0)) ++ fam 12 mr_21 (fun _ => cI G 10 (fun _ => 0)))) H := hP
  have hD : va_D A ([kO o 4 [.ref mg_9, .null, .null, .null, .null, .null, .int (nI 0), .int (nI 0)], kGd G mg_9 12 (oA 12 mr_9), kGd G mg_21 12 (oA 12 mr_21)] ++ (fam 12 mr_9 (fun _ => cI G 10 (fun _ => 0)) ++ fam 12 mr_21 (fun _ => cI G 10 (fun _ => 0)))) := hD
  refine va_put (D := G.1) (ci := 4) (v := .ref mg_21) (ty := .array (.array .int)) (C := RX4) (T := TX4) (N := 8) hx hb hts hq_5 tyX4 tyX4_ok nmX4 hown hK.1 hP hD hS 0 rfl rfl 1 (by decide) hq_7 (fun _ h9 => h9) rfl (by decide +kernel) rfl rfl (Nat.le_of_ble_eq_true rfl) dX4_init_25 (fun H locs hP hD hS => ?_)
  have hP : va_P G.1 vwCl ([kO o 4 [.ref mg_9, .ref mg_21, .null, .null, .null, .null, .int (nI 0), .int (nI 0)], kGd G mg_9 12 (oA 12 mr_9), kGd G mg_21 12 (oA 12 mr_21)] ++ (fam 12 mr_9 (fun _ => cI G 10 (fun _ => 0)) ++ fam 12 mr_21 (fun _ => cI G 10 (fun _ => 0)))) H := hP
  have hD : va_D A ([kO o 4 [.ref mg_9, .ref mg_21, .null, .null, .null, .null, .int (nI 0), .int (nI 0)], kGd G mg_9 12 (oA 12 mr_9), kGd G mg_21 12 (oA 12 mr_21)] ++ (fam 12 mr_9 (fun _ => cI G 10 (fun _ => 0)) ++ fam 12 mr_21 (fun _ => cI G 10 (fun _ => 0)))) := hD
  refine lv_aload_n hx hb dX4_init_28 rfl (lv_at hl 0 rfl) ?_
  refine lv_iconst (v := nI 2) hx hb dX4_init_29 (by decide) ?_
  refine lv_iconst (v := nI 0) hx hb dX4_init_30 (by decide) ?_
  refine k_mnaR hx hb hown hq_8 (ac_of hK.2.2.2.2.2.2.2.1) hK hP hD hS hA (Nat.le_of_ble_eq_true rfl) (Nat.le_of_ble_eq_true rfl) dX4_init_31 (fun mg_31 mx_31 my_31 H hP hD hS => ?_)
  rw [oA_0 (a := fun _ => 0)] at hP hD
  have hP := kP_perm hP (k_layq (h := [kO o 4 [.ref mg_9, .ref mg_21, .null, .null, .null, .null, .int (nI 0), .int (nI 0)], kGd G mg_9 12 (oA 12 mr_9), kGd G mg_21 12 (oA 12 mr_21)]) (t := (fam 12 mr_9 (fun _ => cI G 10 (fun _ => 0)) ++ fam 12 mr_21 (fun _ => cI G 10 (fun _ => 0)))) (c := [kH G mg_31 2 (oR mx_31 my_31)]) (F := [kGd G mx_31 0 (oA 0 (fun _ => 0)), kGd G my_31 0 (oA 0 (fun _ => 0))]))
  have hD := kD_perm hD (k_layq (h := [kO o 4 [.ref mg_9, .ref mg_21, .null, .null, .null, .null, .int (nI 0), .int (nI 0)], kGd G mg_9 12 (oA 12 mr_9), kGd G mg_21 12 (oA 12 mr_21)]) (t := (fam 12 mr_9 (fun _ => cI G 10 (fun _ => 0)) ++ fam 12 mr_21 (fun _ => cI G 10 (fun _ => 0)))) (c := [kH G mg_31 2 (oR mx_31 my_31)]) (F := [kGd G mx_31 0 (oA 0 (fun _ => 0)), kGd G my_31 0 (oA 0 (fun _ => 0))]))
  have hP : va_P G.1 vwCl ([kO o 4 [.ref mg_9, .ref mg_21, .null, .null, .null, .null, .int (nI 0), .int (nI 0)], kGd G mg_9 12 (oA 12 mr_9), kGd G mg_21 12 (oA 12 mr_21), kH G mg_31 2 (oR mx_31 my_31), kGd G mx_31 0 (oA 0 (fun _ => 0)), kGd G my_31 0 (oA 0 (fun _ => 0))] ++ (fam 12 mr_9 (fun _ => cI G 10 (fun _ => 0)) ++ fam 12 mr_21 (fun _ => cI G 10 (fun _ => 0)))) H := hP
  have hD : va_D A ([kO o 4 [.ref mg_9, .ref mg_21, .null, .null, .null, .null, .int (nI 0), .int (nI 0)], kGd G mg_9 12 (oA 12 mr_9), kGd G mg_21 12 (oA 12 mr_21), kH G mg_31 2 (oR mx_31 my_31), kGd G mx_31 0 (oA 0 (fun _ => 0)), kGd G my_31 0 (oA 0 (fun _ => 0))] ++ (fam 12 mr_9 (fun _ => cI G 10 (fun _ => 0)) ++ fam 12 mr_21 (fun _ => cI G 10 (fun _ => 0)))) := hD
  refine va_put (D := G.1) (ci := 4) (v := .ref mg_31) (ty := .array (.array (.array .int))) (C := RX4) (T := TX4) (N := 8) hx hb hts hq_5 tyX4 tyX4_ok nmX4 hown hK.1 hP hD hS 0 rfl rfl 2 (by decide) hq_9 (fun _ h9 => h9) rfl (by decide +kernel) rfl rfl (Nat.le_of_ble_eq_true rfl) dX4_init_35 (fun H locs hP hD hS => ?_)
  have hP : va_P G.1 vwCl ([kO o 4 [.ref mg_9, .ref mg_21, .ref mg_31, .null, .null, .null, .int (nI 0), .int (nI 0)], kGd G mg_9 12 (oA 12 mr_9), kGd G mg_21 12 (oA 12 mr_21), kH G mg_31 2 (oR mx_31 my_31), kGd G mx_31 0 (oA 0 (fun _ => 0)), kGd G my_31 0 (oA 0 (fun _ => 0))] ++ (fam 12 mr_9 (fun _ => cI G 10 (fun _ => 0)) ++ fam 12 mr_21 (fun _ => cI G 10 (fun _ => 0)))) H := hP
  have hD : va_D A ([kO o 4 [.ref mg_9, .ref mg_21, .ref mg_31, .null, .null, .null, .int (nI 0), .int (nI 0)], kGd G mg_9 12 (oA 12 mr_9), kGd G mg_21 12 (oA 12 mr_21), kH G mg_31 2 (oR mx_31 my_31), kGd G mx_31 0 (oA 0 (fun _ => 0)), kGd G my_31 0 (oA 0 (fun _ => 0))] ++ (fam 12 mr_9 (fun _ => cI G 10 (fun _ => 0)) ++ fam 12 mr_21 (fun _ => cI G 10 (fun _ => 0)))) := hD
  refine lv_aload_n hx hb dX4_init_38 rfl (lv_at hl 0 rfl) ?_
  refine lv_iconst (v := nI 2) hx hb dX4_init_39 (by decide) ?_
  refine k_newi hx hb hq_4 hK hP hD hS hA (N' := 2) (by decide) (by decide) (by decide) (Nat.le_of_ble_eq_true rfl) (Nat.le_of_ble_eq_true rfl) dX4_init_40 (fun g_40 H hP hD hS => ?_)
  rw [w2_z] at hP hD
  have hP := va_P.swap (a := [kO o 4 [.ref mg_9, .ref mg_21, .ref mg_31, .null, .null, .null, .int (nI 0), .int (nI 0)], kGd G mg_9 12 (oA 12 mr_9), kGd G mg_21 12 (oA 12 mr_21), kH G mg_31 2 (oR mx_31 my_31), kGd G mx_31 0 (oA 0 (fun _ => 0)), kGd G my_31 0 (oA 0 (fun _ => 0))]) (b := (fam 12 mr_9 (fun _ => cI G 10 (fun _ => 0)) ++ fam 12 mr_21 (fun _ => cI G 10 (fun _ => 0)))) (c := [kC G g_40 2 (nR (w2 0 0))]) hP
  have hD := va_D.swap (a := [kO o 4 [.ref mg_9, .ref mg_21, .ref mg_31, .null, .null, .null, .int (nI 0), .int (nI 0)], kGd G mg_9 12 (oA 12 mr_9), kGd G mg_21 12 (oA 12 mr_21), kH G mg_31 2 (oR mx_31 my_31), kGd G mx_31 0 (oA 0 (fun _ => 0)), kGd G my_31 0 (oA 0 (fun _ => 0))]) (b := (fam 12 mr_9 (fun _ => cI G 10 (fun _ => 0)) ++ fam 12 mr_21 (fun _ => cI G 10 (fun _ => 0)))) (c := [kC G g_40 2 (nR (w2 0 0))]) hD
  have hP : va_P G.1 vwCl ([kO o 4 [.ref mg_9, .ref mg_21, .ref mg_31, .null, .null, .null, .int (nI 0), .int (nI 0)], kGd G mg_9 12 (oA 12 mr_9), kGd G mg_21 12 (oA 12 mr_21), kH G mg_31 2 (oR mx_31 my_31), kGd G mx_31 0 (oA 0 (fun _ => 0)), kGd G my_31 0 (oA 0 (fun _ => 0)), kC G g_40 2 (nR (w2 0 0))] ++ (fam 12 mr_9 (fun _ => cI G 10 (fun _ => 0)) ++ fam 12 mr_21 (fun _ => cI G 10 (fun _ => 0)))) H := hP
  have hD : va_D A ([kO o 4 [.ref mg_9, .ref mg_21, .ref mg_31, .null, .null, .null, .int (nI 0), .int (nI 0)], kGd G mg_9 12 (oA 12 mr_9), kGd G mg_21 12 (oA 12 mr_21), kH G mg_31 2 (oR mx_31 my_31), kGd G mx_31 0 (oA 0 (fun _ => 0)), kGd G my_31 0 (oA 0 (fun _ => 0)), kC G g_40 2 (nR (w2 0 0))] ++ (fam 12 mr_9 (fun _ => cI G 10 (fun _ => 0)) ++ fam 12 mr_21 (fun _ => cI G 10 (fun _ => 0)))) := hD
  refine lv_dup hx hb dX4_init_42 rfl ?_
  refine lv_iconst (v := nI 0) hx hb dX4_init_43 (by decide) ?_
  refine lv_iconst (v := nI 1) hx hb dX4_init_44 (by decide) ?_
  have hi_1 : 0 < 2 := by omega
  refine va_iast (D := G.1) hx hb hK.1 hP hD hS 6 0 rfl rfl (vp_in_nI hi_1 (by omega)) dX4_init_45 (fun H locs hP hD hS => ?_)
  rw [nR_upd (f := (w2 0 0)) (k := 0) (v := 1) (by omega)] at hP hD
  rw [w2_0] at hP hD
  have hP : va_P G.1 vwCl ([kO o 4 [.ref mg_9, .ref mg_21, .ref mg_31, .null, .null, .null, .int (nI 0), .int (nI 0)], kGd G mg_9 12 (oA 12 mr_9), kGd G mg_21 12 (oA 12 mr_21), kH G mg_31 2 (oR mx_31 my_31), kGd G mx_31 0 (oA 0 (fun _ => 0)), kGd G my_31 0 (oA 0 (fun _ => 0)), kC G g_40 2 (nR (w2 1 0))] ++ (fam 12 mr_9 (fun _ => cI G 10 (fun _ => 0)) ++ fam 12 mr_21 (fun _ => cI G 10 (fun _ => 0)))) H := hP
  have hD : va_D A ([kO o 4 [.ref mg_9, .ref mg_21, .ref mg_31, .null, .null, .null, .int (nI 0), .int (nI 0)], kGd G mg_9 12 (oA 12 mr_9), kGd G mg_21 12 (oA 12 mr_21), kH G mg_31 2 (oR mx_31 my_31), kGd G mx_31 0 (oA 0 (fun _ => 0)), kGd G my_31 0 (oA 0 (fun _ => 0)), kC G g_40 2 (nR (w2 1 0))] ++ (fam 12 mr_9 (fun _ => cI G 10 (fun _ => 0)) ++ fam 12 mr_21 (fun _ => cI G 10 (fun _ => 0)))) := hD
  refine lv_dup hx hb dX4_init_46 rfl ?_
  refine lv_iconst (v := nI 1) hx hb dX4_init_47 (by decide) ?_
  refine lv_iconst (v := nI 1) hx hb dX4_init_48 (by decide) ?_
  have hi_2 : 1 < 2 := by omega
  refine va_iast (D := G.1) hx hb hK.1 hP hD hS 6 0 rfl rfl (vp_in_nI hi_2 (by omega)) dX4_init_49 (fun H locs hP hD hS => ?_)
  rw [nR_upd (f := (w2 1 0)) (k := 1) (v := 1) (by omega)] at hP hD
  rw [w2_1] at hP hD
  have hP : va_P G.1 vwCl ([kO o 4 [.ref mg_9, .ref mg_21, .ref mg_31, .null, .null, .null, .int (nI 0), .int (nI 0)], kGd G mg_9 12 (oA 12 mr_9), kGd G mg_21 12 (oA 12 mr_21), kH G mg_31 2 (oR mx_31 my_31), kGd G mx_31 0 (oA 0 (fun _ => 0)), kGd G my_31 0 (oA 0 (fun _ => 0)), kC G g_40 2 (nR (w2 1 1))] ++ (fam 12 mr_9 (fun _ => cI G 10 (fun _ => 0)) ++ fam 12 mr_21 (fun _ => cI G 10 (fun _ => 0)))) H := hP
  have hD : va_D A ([kO o 4 [.ref mg_9, .ref mg_21, .ref mg_31, .null, .null, .null, .int (nI 0), .int (nI 0)], kGd G mg_9 12 (oA 12 mr_9), kGd G mg_21 12 (oA 12 mr_21), kH G mg_31 2 (oR mx_31 my_31), kGd G mx_31 0 (oA 0 (fun _ => 0)), kGd G my_31 0 (oA 0 (fun _ => 0)), kC G g_40 2 (nR (w2 1 1))] ++ (fam 12 mr_9 (fun _ => cI G 10 (fun _ => 0)) ++ fam 12 mr_21 (fun _ => cI G 10 (fun _ => 0)))) := hD
  refine va_put (D := G.1) (ci := 4) (v := .ref g_40) (ty := .array .int) (C := RX4) (T := TX4) (N := 8) hx hb hts hq_5 tyX4 tyX4_ok nmX4 hown hK.1 hP hD hS 0 rfl rfl 3 (by decide) hq_10 (fun _ h9 => h9) rfl (by decide +kernel) rfl rfl (Nat.le_of_ble_eq_true rfl) dX4_init_50 (fun H locs hP hD hS => ?_)
  have hP : va_P G.1 vwCl ([kO o 4 [.ref mg_9, .ref mg_21, .ref mg_31, .ref g_40, .null, .null, .int (nI 0), .int (nI 0)], kGd G mg_9 12 (oA 12 mr_9), kGd G mg_21 12 (oA 12 mr_21), kH G mg_31 2 (oR mx_31 my_31), kGd G mx_31 0 (oA 0 (fun _ => 0)), kGd G my_31 0 (oA 0 (fun _ => 0)), kC G g_40 2 (nR (w2 1 1))] ++ (fam 12 mr_9 (fun _ => cI G 10 (fun _ => 0)) ++ fam 12 mr_21 (fun _ => cI G 10 (fun _ => 0)))) H := hP
  have hD : va_D A ([kO o 4 [.ref mg_9, .ref mg_21, .ref mg_31, .ref g_40, .null, .null, .int (nI 0), .int (nI 0)], kGd G mg_9 12 (oA 12 mr_9), kGd G mg_21 12 (oA 12 mr_21), kH G mg_31 2 (oR mx_31 my_31), kGd G mx_31 0 (oA 0 (fun _ => 0)), kGd G my_31 0 (oA 0 (fun _ => 0)), kC G g_40 2 (nR (w2 1 1))] ++ (fam 12 mr_9 (fun _ => cI G 10 (fun _ => 0)) ++ fam 12 mr_21 (fun _ => cI G 10 (fun _ => 0)))) := hD
  refine lv_aload_n hx hb dX4_init_53 rfl (lv_at hl 0 rfl) ?_
  refine lv_iconst (v := nI 2) hx hb dX4_init_54 (by decide) ?_
  refine k_newi hx hb hq_4 hK hP hD hS hA (N' := 2) (by decide) (by decide) (by decide) (Nat.le_of_ble_eq_true rfl) (Nat.le_of_ble_eq_true rfl) dX4_init_55 (fun g_55 H hP hD hS => ?_)
  rw [w2_z] at hP hD
  have hP := va_P.swap (a := [kO o 4 [.ref mg_9, .ref mg_21, .ref mg_31, .ref g_40, .null, .null, .int (nI 0), .int (nI 0)], kGd G mg_9 12 (oA 12 mr_9), kGd G mg_21 12 (oA 12 mr_21), kH G mg_31 2 (oR mx_31 my_31), kGd G mx_31 0 (oA 0 (fun _ => 0)), kGd G my_31 0 (oA 0 (fun _ => 0)), kC G g_40 2 (nR (w2 1 1))]) (b := (fam 12 mr_9 (fun _ => cI G 10 (fun _ => 0)) ++ fam 12 mr_21 (fun _ => cI G 10 (fun _ => 0)))) (c := [kC G g_55 2 (nR (w2 0 0))]) hP
  have hD := va_D.swap (a := [kO o 4 [.ref mg_9, .ref mg_21, .ref mg_31, .ref g_40, .null, .null, .int (nI 0), .int (nI 0)], kGd G mg_9 12 (oA 12 mr_9), kGd G mg_21 12 (oA 12 mr_21), kH G mg_31 2 (oR mx_31 my_31), kGd G mx_31 0 (oA 0 (fun _ => 0)), kGd G my_31 0 (oA 0 (fun _ => 0)), kC G g_40 2 (nR (w2 1 1))]) (b := (fam 12 mr_9 (fun _ => cI G 10 (fun _ => 0)) ++ fam 12 mr_21 (fun _ => cI G 10 (fun _ => 0)))) (c := [kC G g_55 2 (nR (w2 0 0))]) hD
  have hP : va_P G.1 vwCl ([kO o 4 [.ref mg_9, .ref mg_21, .ref mg_31, .ref g_40, .null, .null, .int (nI 0), .int (nI 0)], kGd G mg_9 12 (oA 12 mr_9), kGd G mg_21 12 (oA 12 mr_21), kH G mg_31 2 (oR mx_31 my_31), kGd G mx_31 0 (oA 0 (fun _ => 0)), kGd G my_31 0 (oA 0 (fun _ => 0)), kC G g_40 2 (nR (w2 1 1)), kC G g_55 2 (nR (w2 0 0))] ++ (fam 12 mr_9 (fun _ => cI G 10 (fun _ => 0)) ++ fam 12 mr_21 (fun _ => cI G 10 (fun _ => 0)))) H := hP
  have hD : va_D A ([kO o 4 [.ref mg_9, .ref mg_21, .ref mg_31, .ref g_40, .null, .null, .int (nI 0), .int (nI 0)], kGd G mg_9 12 (oA 12 mr_9), kGd G mg_21 12 (oA 12 mr_21), kH G mg_31 2 (oR mx_31 my_31), kGd G mx_31 0 (oA 0 (fun _ => 0)), kGd G my_31 0 (oA 0 (fun _ => 0)), kC G g_40 2 (nR (w2 1 1)), kC G g_55 2 (nR (w2 0 0))] ++ (fam 12 mr_9 (fun _ => cI G 10 (fun _ => 0)) ++ fam 12 mr_21 (fun _ => cI G 10 (fun _ => 0)))) := hD
  refine va_put (D := G.1) (ci := 4) (v := .ref g_55) (ty := .array .int) (C := RX4) (T := TX4) (N := 8) hx hb hts hq_5 tyX4 tyX4_ok nmX4 hown hK.1 hP hD hS 0 rfl rfl 4 (by decide) hq_11 (fun _ h9 => h9) rfl (by decide +kernel) rfl rfl (Nat.le_of_ble_eq_true rfl) dX4_init_57 (fun H locs hP hD hS => ?_)
  have hP : va_P G.1 vwCl ([kO o 4 [.ref mg_9, .ref mg_21, .ref mg_31, .ref g_40, .ref g_55, .null, .int (nI 0), .int (nI 0)], kGd G mg_9 12 (oA 12 mr_9), kGd G mg_21 12 (oA 12 mr_21), kH G mg_31 2 (oR mx_31 my_31), kGd G mx_31 0 (oA 0 (fun _ => 0)), kGd G my_31 0 (oA 0 (fun _ => 0)), kC G g_40 2 (nR (w2 1 1)), kC G g_55 2 (nR (w2 0 0))] ++ (fam 12 mr_9 (fun _ => cI G 10 (fun _ => 0)) ++ fam 12 mr_21 (fun _ => cI G 10 (fun _ => 0)))) H := hP
  have hD : va_D A ([kO o 4 [.ref mg_9, .ref mg_21, .ref mg_31, .ref g_40, .ref g_55, .null, .int (nI 0), .int (nI 0)], kGd G mg_9 12 (oA 12 mr_9), kGd G mg_21 12 (oA 12 mr_21), kH G mg_31 2 (oR mx_31 my_31), kGd G mx_31 0 (oA 0 (fun _ => 0)), kGd G my_31 0 (oA 0 (fun _ => 0)), kC G g_40 2 (nR (w2 1 1)), kC G g_55 2 (nR (w2 0 0))] ++ (fam 12 mr_9 (fun _ => cI G 10 (fun _ => 0)) ++ fam 12 mr_21 (fun _ => cI G 10 (fun _ => 0)))) := hD
  refine lv_aload_n hx hb dX4_init_60 rfl (lv_at hl 0 rfl) ?_
  refine lv_bipush (v := nI 8) hx hb dX4_init_61 (by decide) ?_
  refine k_newi hx hb hq_4 hK hP hD hS hA (N' := 8) (by decide) (by decide) (by decide) (Nat.le_of_ble_eq_true rfl) (Nat.le_of_ble_eq_true rfl) dX4_init_63 (fun g_63 H hP hD hS => ?_)
  have hP := va_P.swap (a := [kO o 4 [.ref mg_9, .ref mg_21, .ref mg_31, .ref g_40, .ref g_55, .null, .int (nI 0), .int (nI 0)], kGd G mg_9 12 (oA 12 mr_9), kGd G mg_21 12 (oA 12 mr_21), kH G mg_31 2 (oR mx_31 my_31), kGd G mx_31 0 (oA 0 (fun _ => 0)), kGd G my_31 0 (oA 0 (fun _ => 0)), kC G g_40 2 (nR (w2 1 1)), kC G g_55 2 (nR (w2 0 0))]) (b := (fam 12 mr_9 (fun _ => cI G 10 (fun _ => 0)) ++ fam 12 mr_21 (fun _ => cI G 10 (fun _ => 0)))) (c := [kC G g_63 8 (nR (fun _ => 0))]) hP
  have hD := va_D.swap (a := [kO o 4 [.ref mg_9, .ref mg_21, .ref mg_31, .ref g_40, .ref g_55, .null, .int (nI 0), .int (nI 0)], kGd G mg_9 12 (oA 12 mr_9), kGd G mg_21 12 (oA 12 mr_21), kH G mg_31 2 (oR mx_31 my_31), kGd G mx_31 0 (oA 0 (fun _ => 0)), kGd G my_31 0 (oA 0 (fun _ => 0)), kC G g_40 2 (nR (w2 1 1)), kC G g_55 2 (nR (w2 0 0))]) (b := (fam 12 mr_9 (fun _ => cI G 10 (fun _ => 0)) ++ fam 12 mr_21 (fun _ => cI G 10 (fun _ => 0)))) (c := [kC G g_63 8 (nR (fun _ => 0))]) hD
  have hP : va_P G.1 vwCl ([kO o 4 [.ref mg_9, .ref mg_21, .ref mg_31, .ref g_40, .ref g_55, .null, .int (nI 0), .int (nI 0)], kGd G mg_9 12 (oA 12 mr_9), kGd G mg_21 12 (oA 12 mr_21), kH G mg_31 2 (oR mx_31 my_31), kGd G mx_31 0 (oA 0 (fun _ => 0)), kGd G my_31 0 (oA 0 (fun _ => 0)), kC G g_40 2 (nR (w2 1 1)), kC G g_55 2 (nR (w2 0 0)), kC G g_63 8 (nR (fun _ => 0))] ++ (fam 12 mr_9 (fun _ => cI G 10 (fun _ => 0)) ++ fam 12 mr_21 (fun _ => cI G 10 (fun _ => 0)))) H := hP
  have hD : va_D A ([kO o 4 [.ref mg_9, .ref mg_21, .ref mg_31, .ref g_40, .ref g_55, .null, .int (nI 0), .int (nI 0)], kGd G mg_9 12 (oA 12 mr_9), kGd G mg_21 12 (oA 12 mr_21), kH G mg_31 2 (oR mx_31 my_31), kGd G mx_31 0 (oA 0 (fun _ => 0)), kGd G my_31 0 (oA 0 (fun _ => 0)), kC G g_40 2 (nR (w2 1 1)), kC G g_55 2 (nR (w2 0 0)), kC G g_63 8 (nR (fun _ => 0))] ++ (fam 12 mr_9 (fun _ => cI G 10 (fun _ => 0)) ++ fam 12 mr_21 (fun _ => cI G 10 (fun _ => 0)))) := hD
  refine lv_dup hx hb dX4_init_65 rfl ?_
  refine lv_iconst (v := nI 0) hx hb dX4_init_66 (by decide) ?_
  refine lv_bipush (v := nI 30) hx hb dX4_init_67 (by decide) ?_
  have hi_3 : 0 < 8 := by omega
  refine va_iast (D := G.1) hx hb hK.1 hP hD hS 8 0 rfl rfl (vp_in_nI hi_3 (by omega)) dX4_init_69 (fun H locs hP hD hS => ?_)
  rw [nR_upd (f := (fun _ => 0)) (k := 0) (v := 30) (by omega)] at hP hD
  have hP : va_P G.1 vwCl ([kO o 4 [.ref mg_9, .ref mg_21, .ref mg_31, .ref g_40, .ref g_55, .null, .int (nI 0), .int (nI 0)], kGd G mg_9 12 (oA 12 mr_9), kGd G mg_21 12 (oA 12 mr_21), kH G mg_31 2 (oR mx_31 my_31), kGd G mx_31 0 (oA 0 (fun _ => 0)), kGd G my_31 0 (oA 0 (fun _ => 0)), kC G g_40 2 (nR (w2 1 1)), kC G g_55 2 (nR (w2 0 0)), kC G g_63 8 (nR (updN (fun _ => 0) 0 30))] ++ (fam 12 mr_9 (fun _ => cI G 10 (fun _ => 0)) ++ fam 12 mr_21 (fun _ => cI G 10 (fun _ => 0)))) H := hP
  have hD : va_D A ([kO o 4 [.ref mg_9, .ref mg_21, .ref mg_31, .ref g_40, .ref g_55, .null, .int (nI 0), .int (nI 0)], kGd G mg_9 12 (oA 12 mr_9), kGd G mg_21 12 (oA 12 mr_21), kH G mg_31 2 (oR mx_31 my_31), kGd G mx_31 0 (oA 0 (fun _ => 0)), kGd G my_31 0 (oA 0 (fun _ => 0)), kC G g_40 2 (nR (w2 1 1)), kC G g_55 2 (nR (w2 0 0)), kC G g_63 8 (nR (updN (fun _ => 0) 0 30))] ++ (fam 12 mr_9 (fun _ => cI G 10 (fun _ => 0)) ++ fam 12 mr_21 (fun _ => cI G 10 (fun _ => 0)))) := hD
  refine lv_dup hx hb dX4_init_70 rfl ?_
  refine lv_iconst (v := nI 1) hx hb dX4_init_71 (by decide) ?_
  refine lv_bipush (v := nI 30) hx hb dX4_init_72 (by decide) ?_
  have hi_4 : 1 < 8 := by omega
  refine va_iast (D := G.1) hx hb hK.1 hP hD hS 8 0 rfl rfl (vp_in_nI hi_4 (by omega)) dX4_init_74 (fun H locs hP hD hS => ?_)
  rw [nR_upd (f := (updN (fun _ => 0) 0 30)) (k := 1) (v := 30) (by omega)] at hP hD
  have hP : va_P G.1 vwCl ([kO o 4 [.ref mg_9, .ref mg_21, .ref mg_31, .ref g_40, .ref g_55, .null, .int (nI 0), .int (nI 0)], kGd G mg_9 12 (oA 12 mr_9), kGd G mg_21 12 (oA 12 mr_21), kH G mg_31 2 (oR mx_31 my_31), kGd G mx_31 0 (oA 0 (fun _ => 0)), kGd G my_31 0 (oA 0 (fun _ => 0)), kC G g_40 2 (nR (w2 1 1)), kC G g_55 2 (nR (w2 0 0)), kC G g_63 8 (nR (updN (updN (fun _ => 0) 0 30) 1 30))] ++ (fam 12 mr_9 (fun _ => cI G 10 (fun _ => 0)) ++ fam 12 mr_21 (fun _ => cI G 10 (fun _ => 0)))) H := hP
  have hD : va_D A ([kO o 4 [.ref mg_9, .ref mg_21, .ref mg_31, .ref g_40, .ref g_55, .null, .int (nI 0), .int (nI 0)], kGd G mg_9 12 (oA 12 mr_9), kGd G mg_21 12 (oA 12 mr_21), kH G mg_31 2 (oR mx_31 my_31), kGd G mx_31 0 (oA 0 (fun _ => 0)), kGd G my_31 0 (oA 0 (fun _ => 0)), kC G g_40 2 (nR (w2 1 1)), kC G g_55 2 (nR (w2 0 0)), kC G g_63 8 (nR (updN (updN (fun _ => 0) 0 30) 1 30))] ++ (fam 12 mr_9 (fun _ => cI G 10 (fun _ => 0)) ++ fam 12 mr_21 (fun _ => cI G 10 (fun _ => 0)))) := hD
  refine lv_dup hx hb dX4_init_75 rfl ?_
  refine lv_iconst (v := nI 2) hx hb dX4_init_76 (by decide) ?_
  refine lv_bipush (v := nI 30) hx hb dX4_init_77 (by decide) ?_
  have hi_5 : 2 < 8 := by omega
  refine va_iast (D := G.1) hx hb hK.1 hP hD hS 8 0 rfl rfl (vp_in_nI hi_5 (by omega)) dX4_init_79 (fun H locs hP hD hS => ?_)
  rw [nR_upd (f := (updN (updN (fun _ => 0) 0 30) 1 30)) (k := 2) (v := 30) (by omega)] at hP hD
  have hP : va_P G.1 vwCl ([kO o 4 [.ref mg_9, .ref mg_21, .ref mg_31, .ref g_40, .ref g_55, .null, .int (nI 0), .int (nI 0)], kGd G mg_9 12 (oA 12 mr_9), kGd G mg_21 12 (oA 12 mr_21), kH G mg_31 2 (oR mx_31 my_31), kGd G mx_31 0 (oA 0 (fun _ => 0)), kGd G my_31 0 (oA 0 (fun _ => 0)), kC G g_40 2 (nR (w2 1 1)), kC G g_55 2 (nR (w2 0 0)), kC G g_63 8 (nR (updN (updN (updN (fun _ => 0) 0 30) 1 30) 2 30))] ++ (fam 12 mr_9 (fun _ => cI G 10 (fun _ => 0)) ++ fam 12 mr_21 (fun _ => cI G 10 (fun _ => 0)))) H := hP
  have hD : va_D A ([kO o 4 [.ref mg_9, .ref mg_21, .ref mg_31, .ref g_40, .ref g_55, .null, .int (nI 0), .int (nI 0)], kGd G mg_9 12 (oA 12 mr_9), kGd G mg_21 12 (oA 12 mr_21), kH G mg_31 2 (oR mx_31 my_31), kGd G mx_31 0 (oA 0 (fun _ => 0)), kGd G my_31 0 (oA 0 (fun _ => 0)), kC G g_40 2 (nR (w2 1 1)), kC G g_55 2 (nR (w2 0 0)), kC G g_63 8 (nR (updN (updN (updN (fun _ => 0) 0 30) 1 30) 2 30))] ++ (fam 12 mr_9 (fun _ => cI G 10 (fun _ => 0)) ++ fam 12 mr_21 (fun _ => cI G 10 (fun _ => 0)))) := hD
  refine lv_dup hx hb dX4_init_80 rfl ?_
  refine lv_iconst (v := nI 3) hx hb dX4_init_81 (by decide) ?_
  refine lv_bipush (v := nI 30) hx hb dX4_init_82 (by decide) ?_
  have hi_6 : 3 < 8 := by omega
  refine va_iast (D := G.1) hx hb hK.1 hP hD hS 8 0 rfl rfl (vp_in_nI hi_6 (by omega)) dX4_init_84 (fun H locs hP hD hS => ?_)
  rw [nR_upd (f := (updN (updN (updN (fun _ => 0) 0 30) 1 30) 2 30)) (k := 3) (v := 30) (by omega)] at hP hD
  have hP : va_P G.1 vwCl ([kO o 4 [.ref mg_9, .ref mg_21, .ref mg_31, .ref g_40, .ref g_55, .null, .int (nI 0), .int (nI 0)], kGd G mg_9 12 (oA 12 mr_9), kGd G mg_21 12 (oA 12 mr_21), kH G mg_31 2 (oR mx_31 my_31), kGd G mx_31 0 (oA 0 (fun _ => 0)), kGd G my_31 0 (oA 0 (fun _ => 0)), kC G g_40 2 (nR (w2 1 1)), kC G g_55 2 (nR (w2 0 0)), kC G g_63 8 (nR (updN (updN (updN (updN (fun _ => 0) 0 30) 1 30) 2 30) 3 30))] ++ (fam 12 mr_9 (fun _ => cI G 10 (fun _ => 0)) ++ fam 12 mr_21 (fun _ => cI G 10 (fun _ => 0)))) H := hP
  have hD : va_D A ([kO o 4 [.ref mg_9, .ref mg_21, .ref mg_31, .ref g_40, .ref g_55, .null, .int (nI 0), .int (nI 0)], kGd G mg_9 12 (oA 12 mr_9), kGd G mg_21 12 (oA 12 mr_21), kH G mg_31 2 (oR mx_31 my_31), kGd G mx_31 0 (oA 0 (fun _ => 0)), kGd G my_31 0 (oA 0 (fun _ => 0)), kC G g_40 2 (nR (w2 1 1)), kC G g_55 2 (nR (w2 0 0)), kC G g_63 8 (nR (updN (updN (updN (updN (fun _ => 0) 0 30) 1 30) 2 30) 3 30))] ++ (fam 12 mr_9 (fun _ => cI G 10 (fun _ => 0)) ++ fam 12 mr_21 (fun _ => cI G 10 (fun _ => 0)))) := hD
  refine lv_dup hx hb dX4_init_85 rfl ?_
  refine lv_iconst (v := nI 4) hx hb dX4_init_86 (by decide) ?_
  refine lv_bipush (v := nI 30) hx hb dX4_init_87 (by decide) ?_
  have hi_7 : 4 < 8 := by omega
  refine va_iast (D := G.1) hx hb hK.1 hP hD hS 8 0 rfl rfl (vp_in_nI hi_7 (by omega)) dX4_init_89 (fun H locs hP hD hS => ?_)
  rw [nR_upd (f := (updN (updN (updN (updN (fun _ => 0) 0 30) 1 30) 2 30) 3 30)) (k := 4) (v := 30) (by omega)] at hP hD
  have hP : va_P G.1 vwCl ([kO o 4 [.ref mg_9, .ref mg_21, .ref mg_31, .ref g_40, .ref g_55, .null, .int (nI 0), .int (nI 0)], kGd G mg_9 12 (oA 12 mr_9), kGd G mg_21 12 (oA 12 mr_21), kH G mg_31 2 (oR mx_31 my_31), kGd G mx_31 0 (oA 0 (fun _ => 0)), kGd G my_31 0 (oA 0 (fun _ => 0)), kC G g_40 2 (nR (w2 1 1)), kC G g_55 2 (nR (w2 0 0)), kC G g_63 8 (nR (updN (updN (updN (updN (updN (fun _ => 0) 0 30) 1 30) 2 30) 3 30) 4 30))] ++ (fam 12 mr_9 (fun _ => cI G 10 (fun _ => 0)) ++ fam 12 mr_21 (fun _ => cI G 10 (fun _ => 0)))) H := hP
  have hD : va_D A ([kO o 4 [.ref mg_9, .ref mg_21, .ref mg_31, .ref g_40, .ref g_55, .null, .int (nI 0), .int (nI 0)], kGd G mg_9 12 (oA 12 mr_9), kGd G mg_21 12 (oA 12 mr_21), kH G mg_31 2 (oR mx_31 my_31), kGd G mx_31 0 (oA 0 (fun _ => 0)), kGd G my_31 0 (oA 0 (fun _ => 0)), kC G g_40 2 (nR (w2 1 1)), kC G g_55 2 (nR (w2 0 0)), kC G g_63 8 (nR (updN (updN (updN (updN (updN (fun _ => 0) 0 30) 1 30) 2 30) 3 30) 4 30))] ++ (fam 12 mr_9 (fun _ => cI G 10 (fun _ => 0)) ++ fam 12 mr_21 (fun _ => cI G 10 (fun _ => 0)))) := hD
  refine lv_dup hx hb dX4_init_90 rfl ?_
  refine lv_iconst (v := nI 5) hx hb dX4_init_91 (by decide) ?_
  refine lv_bipush (v := nI 30) hx hb dX4_init_92 (by decide) ?_
  have hi_8 : 5 < 8 := by omega
  refine va_iast (D := G.1) hx hb hK.1 hP hD hS 8 0 rfl rfl (vp_in_nI hi_8 (by omega)) dX4_init_94 (fun H locs hP hD hS => ?_)
  rw [nR_upd (f := (updN (updN (updN (updN (updN (fun _ => 0) 0 30) 1 30) 2 30) 3 30) 4 30)) (k := 5) (v := 30) (by omega)] at hP hD
  have hP : va_P G.1 vwCl ([kO o 4 [.ref mg_9, .ref mg_21, .ref mg_31, .ref g_40, .ref g_55, .null, .int (nI 0), .int (nI 0)], kGd G mg_9 12 (oA 12 mr_9), kGd G mg_21 12 (oA 12 mr_21), kH G mg_31 2 (oR mx_31 my_31), kGd G mx_31 0 (oA 0 (fun _ => 0)), kGd G my_31 0 (oA 0 (fun _ => 0)), kC G g_40 2 (nR (w2 1 1)), kC G g_55 2 (nR (w2 0 0)), kC G g_63 8 (nR (updN (updN (updN (updN (updN (updN (fun _ => 0) 0 30) 1 30) 2 30) 3 30) 4 30) 5 30))] ++ (fam 12 mr_9 (fun _ => cI G 10 (fun _ => 0)) ++ fam 12 mr_21 (fun _ => cI G 10 (fun _ => 0)))) H := hP
  have hD : va_D A ([kO o 4 [.ref mg_9, .ref mg_21, .ref mg_31, .ref g_40, .ref g_55, .null, .int (nI 0), .int (nI 0)], kGd G mg_9 12 (oA 12 mr_9), kGd G mg_21 12 (oA 12 mr_21), kH G mg_31 2 (oR mx_31 my_31), kGd G mx_31 0 (oA 0 (fun _ => 0)), kGd G my_31 0 (oA 0 (fun _ => 0)), kC G g_40 2 (nR (w2 1 1)), kC G g_55 2 (nR (w2 0 0)), kC G g_63 8 (nR (updN (updN (updN (updN (updN (updN (fun _ => 0) 0 30) 1 30) 2 30) 3 30) 4 30) 5 30))] ++ (fam 12 mr_9 (fun _ => cI G 10 (fun _ => 0)) ++ fam 12 mr_21 (fun _ => cI G 10 (fun _ => 0)))) := hD
  refine lv_dup hx hb dX4_init_95 rfl ?_
  refine lv_bipush (v := nI 6) hx hb dX4_init_96 (by decide) ?_
  refine lv_bipush (v := nI 30) hx hb dX4_init_98 (by decide) ?_
  have hi_9 : 6 < 8 := by omega
  refine va_iast (D := G.1) hx hb hK.1 hP hD hS 8 0 rfl rfl (vp_in_nI hi_9 (by omega)) dX4_init_100 (fun H locs hP hD hS => ?_)
  rw [nR_upd (f := (updN (updN (updN (updN (updN (updN (fun _ => 0) 0 30) 1 30) 2 30) 3 30) 4 30) 5 30)) (k := 6) (v := 30) (by omega)] at hP hD
  have hP : va_P G.1 vwCl ([kO o 4 [.ref mg_9, .ref mg_21, .ref mg_31, .ref g_40, .ref g_55, .null, .int (nI 0), .int (nI 0)], kGd G mg_9 12 (oA 12 mr_9), kGd G mg_21 12 (oA 12 mr_21), kH G mg_31 2 (oR mx_31 my_31), kGd G mx_31 0 (oA 0 (fun _ => 0)), kGd G my_31 0 (oA 0 (fun _ => 0)), kC G g_40 2 (nR (w2 1 1)), kC G g_55 2 (nR (w2 0 0)), kC G g_63 8 (nR (updN (updN (updN (updN (updN (updN (updN (fun _ => 0) 0 30) 1 30) 2 30) 3 30) 4 30) 5 30) 6 30))] ++ (fam 12 mr_9 (fun _ => cI G 10 (fun _ => 0)) ++ fam 12 mr_21 (fun _ => cI G 10 (fun _ => 0)))) H := hP
  have hD : va_D A ([kO o 4 [.ref mg_9, .ref mg_21, .ref mg_31, .ref g_40, .ref g_55, .null, .int (nI 0), .int (nI 0)], kGd G mg_9 12 (oA 12 mr_9), kGd G mg_21 12 (oA 12 mr_21), kH G mg_31 2 (oR mx_31 my_31), kGd G mx_31 0 (oA 0 (fun _ => 0)), kGd G my_31 0 (oA 0 (fun _ => 0)), kC G g_40 2 (nR (w2 1 1)), kC G g_55 2 (nR (w2 0 0)), kC G g_63 8 (nR (updN (updN (updN (updN (updN (updN (updN (fun _ => 0) 0 30) 1 30) 2 30) 3 30) 4 30) 5 30) 6 30))] ++ (fam 12 mr_9 (fun _ => cI G 10 (fun _ => 0)) ++ fam 12 mr_21 (fun _ => cI G 10 (fun _ => 0)))) := hD
  refine lv_dup hx hb dX4_init_101 rfl ?_
  refine lv_bipush (v := nI 7) hx hb dX4_init_102 (by decide) ?_
  refine lv_bipush (v := nI 30) hx hb dX4_init_104 (by decide) ?_
  have hi_10 : 7 < 8 := by omega
  refine va_iast (D := G.1) hx hb hK.1 hP hD hS 8 0 rfl rfl (vp_in_nI hi_10 (by omega)) dX4_init_106 (fun H locs hP hD hS => ?_)
  rw [nR_upd (f := (updN (updN (updN (updN (updN (updN (updN (fun _ => 0) 0 30) 1 30) 2 30) 3 30) 4 30) 5 30) 6 30)) (k := 7) (v := 30) (by omega)] at hP hD
  have hP : va_P G.1 vwCl ([kO o 4 [.ref mg_9, .ref mg_21, .ref mg_31, .ref g_40, .ref g_55, .null, .int (nI 0), .int (nI 0)], kGd G mg_9 12 (oA 12 mr_9), kGd G mg_21 12 (oA 12 mr_21), kH G mg_31 2 (oR mx_31 my_31), kGd G mx_31 0 (oA 0 (fun _ => 0)), kGd G my_31 0 (oA 0 (fun _ => 0)), kC G g_40 2 (nR (w2 1 1)), kC G g_55 2 (nR (w2 0 0)), kC G g_63 8 (nR (updN (updN (updN (updN (updN (updN (updN (updN (fun _ => 0) 0 30) 1 30) 2 30) 3 30) 4 30) 5 30) 6 30) 7 30))] ++ (fam 12 mr_9 (fun _ => cI G 10 (fun _ => 0)) ++ fam 12 mr_21 (fun _ => cI G 10 (fun _ => 0)))) H := hP
  have hD : va_D A ([kO o 4 [.ref mg_9, .ref mg_21, .ref mg_31, .ref g_40, .ref g_55, .null, .int (nI 0), .int (nI 0)], kGd G mg_9 12 (oA 12 mr_9), kGd G mg_21 12 (oA 12 mr_21), kH G mg_31 2 (oR mx_31 my_31), kGd G mx_31 0 (oA 0 (fun _ => 0)), kGd G my_31 0 (oA 0 (fun _ => 0)), kC G g_40 2 (nR (w2 1 1)), kC G g_55 2 (nR (w2 0 0)), kC G g_63 8 (nR (updN (updN (updN (updN (updN (updN (updN (updN (fun _ => 0) 0 30) 1 30) 2 30) 3 30) 4 30) 5 30) 6 30) 7 30))] ++ (fam 12 mr_9 (fun _ => cI G 10 (fun _ => 0)) ++ fam 12 mr_21 (fun _ => cI G 10 (fun _ => 0)))) := hD
  rw [wool_ini] at hP hD
  have hP := kP_swap hP 8 (nR bIni) rfl rfl (fun j hj => wool_in hj)
  have hD := kD_swap (e := .inl (G.2.1, 8, .inl (nR bIni))) hD 8 rfl rfl
  have hP : va_P G.1 vwCl ([kO o 4 [.ref mg_9, .ref mg_21, .ref mg_31, .ref g_40, .ref g_55, .null, .int (nI 0), .int (nI 0)], kGd G mg_9 12 (oA 12 mr_9), kGd G mg_21 12 (oA 12 mr_21), kH G mg_31 2 (oR mx_31 my_31), kGd G mx_31 0 (oA 0 (fun _ => 0)), kGd G my_31 0 (oA 0 (fun _ => 0)), kC G g_40 2 (nR (w2 1 1)), kC G g_55 2 (nR (w2 0 0)), kC G g_63 8 (nR bIni)] ++ (fam 12 mr_9 (fun _ => cI G 10 (fun _ => 0)) ++ fam 12 mr_21 (fun _ => cI G 10 (fun _ => 0)))) H := hP
  have hD : va_D A ([kO o 4 [.ref mg_9, .ref mg_21, .ref mg_31, .ref g_40, .ref g_55, .null, .int (nI 0), .int (nI 0)], kGd G mg_9 12 (oA 12 mr_9), kGd G mg_21 12 (oA 12 mr_21), kH G mg_31 2 (oR mx_31 my_31), kGd G mx_31 0 (oA 0 (fun _ => 0)), kGd G my_31 0 (oA 0 (fun _ => 0)), kC G g_40 2 (nR (w2 1 1)), kC G g_55 2 (nR (w2 0 0)), kC G g_63 8 (nR bIni)] ++ (fam 12 mr_9 (fun _ => cI G 10 (fun _ => 0)) ++ fam 12 mr_21 (fun _ => cI G 10 (fun _ => 0)))) := hD
  refine va_put (D := G.1) (ci := 4) (v := .ref g_63) (ty := .array .int) (C := RX4) (T := TX4) (N := 8) hx hb hts hq_5 tyX4 tyX4_ok nmX4 hown hK.1 hP hD hS 0 rfl rfl 5 (by decide) hq_12 (fun _ h9 => h9) rfl (by decide +kernel) rfl rfl (Nat.le_of_ble_eq_true rfl) dX4_init_107 (fun H locs hP hD hS => ?_)
  have hP : va_P G.1 vwCl ([kO o 4 [.ref mg_9, .ref mg_21, .ref mg_31, .ref g_40, .ref g_55, .ref g_63, .int (nI 0), .int (nI 0)], kGd G mg_9 12 (oA 12 mr_9), kGd G mg_21 12 (oA 12 mr_21), kH G mg_31 2 (oR mx_31 my_31), kGd G mx_31 0 (oA 0 (fun _ => 0)), kGd G my_31 0 (oA 0 (fun _ => 0)), kC G g_40 2 (nR (w2 1 1)), kC G g_55 2 (nR (w2 0 0)), kC G g_63 8 (nR bIni)] ++ (fam 12 mr_9 (fun _ => cI G 10 (fun _ => 0)) ++ fam 12 mr_21 (fun _ => cI G 10 (fun _ => 0)))) H := hP
  have hD : va_D A ([kO o 4 [.ref mg_9, .ref mg_21, .ref mg_31, .ref g_40, .ref g_55, .ref g_63, .int (nI 0), .int (nI 0)], kGd G mg_9 12 (oA 12 mr_9), kGd G mg_21 12 (oA 12 mr_21), kH G mg_31 2 (oR mx_31 my_31), kGd G mx_31 0 (oA 0 (fun _ => 0)), kGd G my_31 0 (oA 0 (fun _ => 0)), kC G g_40 2 (nR (w2 1 1)), kC G g_55 2 (nR (w2 0 0)), kC G g_63 8 (nR bIni)] ++ (fam 12 mr_9 (fun _ => cI G 10 (fun _ => 0)) ++ fam 12 mr_21 (fun _ => cI G 10 (fun _ => 0)))) := hD
  rw [sT_ini2 (RA := runF wIni) (RB := runF wIni) (qa := fun _ => 0) (qb := fun _ => 0)] at hP hD
  have hP : va_P G.1 vwCl ([kO o 4 [.ref mg_9, .ref mg_21, .ref mg_31, .ref g_40, .ref g_55, .ref g_63, .int (nI 0), .int (nI 0)], kGd G mg_9 12 (oA 12 mr_9), kGd G mg_21 12 (oA 12 mr_21), kH G mg_31 2 (oR mx_31 my_31), kGd G mx_31 0 (oA 0 (fun _ => 0)), kGd G my_31 0 (oA 0 (fun _ => 0)), kC G g_40 2 (nR (w2 1 1)), kC G g_55 2 (nR (w2 0 0)), kC G g_63 8 (nR bIni)] ++ sT G mr_9 mr_21 (fun _ => 0) (fun _ => 0) (fillF 0 0) (planF wIni wIni) 0 (runF wIni) 0 (runF wIni)) H := hP
  have hD : va_D A ([kO o 4 [.ref mg_9, .ref mg_21, .ref mg_31, .ref g_40, .ref g_55, .ref g_63, .int (nI 0), .int (nI 0)], kGd G mg_9 12 (oA 12 mr_9), kGd G mg_21 12 (oA 12 mr_21), kH G mg_31 2 (oR mx_31 my_31), kGd G mx_31 0 (oA 0 (fun _ => 0)), kGd G my_31 0 (oA 0 (fun _ => 0)), kC G g_40 2 (nR (w2 1 1)), kC G g_55 2 (nR (w2 0 0)), kC G g_63 8 (nR bIni)] ++ sT G mr_9 mr_21 (fun _ => 0) (fun _ => 0) (fillF 0 0) (planF wIni wIni) 0 (runF wIni) 0 (runF wIni)) := hD
  refine lv_iconst (v := nI 0) hx hb dX4_init_110 (by decide) ?_
  refine lv_istore_n (lv' := [(1, .int (nI 0)), (0, .ref o)]) hx hb dX4_init_111 rfl hl (by decide) rfl (fun ls hl => ?_)
  have loop_112 : ∀ (fu_112 : Nat) (i : Nat), i ≤ 12 → 12 < i + fu_112 → ∀ (H : Heap) (locs : List Loc) (ls : Array Slot), va_P G.1 vwCl ([kO o 4 [.ref mg_9, .ref mg_21, .ref mg_31, .ref g_40, .ref g_55, .ref g_63, .int (nI 0), .int (nI 0)], kGd G mg_9 12 (oA 12 mr_9), kGd G mg_21 12 (oA 12 mr_21), kH G mg_31 2 (oR mx_31 my_31), kGd G mx_31 0 (oA 0 (fun _ => 0)), kGd G my_31 0 (oA 0 (fun _ => 0)), kC G g_40 2 (nR (w2 1 1)), kC G g_55 2 (nR (w2 0 0)), kC G g_63 8 (nR bIni)] ++ sT G mr_9 mr_21 (fun _ => 0) (fun _ => 0) (fillF i 0) (planF wIni wIni) 0 (runF wIni) 0 (runF wIni)) H → va_D A ([kO o 4 [.ref mg_9, .ref mg_21, .ref mg_31, .ref g_40, .ref g_55, .ref g_63, .int (nI 0), .int (nI 0)], kGd G mg_9 12 (oA 12 mr_9), kGd G mg_21 12 (oA 12 mr_21), kH G mg_31 2 (oR mx_31 my_31), kGd G mx_31 0 (oA 0 (fun _ => 0)), kGd G my_31 0 (oA 0 (fun _ => 0)), kC G g_40 2 (nR (w2 1 1)), kC G g_55 2 (nR (w2 0 0)), kC G g_63 8 (nR bIni)] ++ sT G mr_9 mr_21 (fun _ => 0) (fun _ => 0) (fillF i 0) (planF wIni wIni) 0 (runF wIni) 0 (runF wIni)) → va_S A s.heap H locs → lv_has ls 3 [(0, .ref o), (1, .int (nI i))] → W p l e ({ frames := 1, cells := 32, slots := 278, locals := 12 } : Room) s m args below meth c H locs 32 278 Qs (F0 m 112 ls []) := by
    intro fu_112
    induction fu_112 with
    | zero =>
      intro i hi hf
      exact absurd hf (by omega)
    | succ fu_112 ih_112 =>
      intro i hi hf H locs ls hP hD hS hl
      refine lv_iload_n hx hb dX4_init_112 rfl (lv_at hl 1 rfl) ?_
      refine lv_bipush (v := nI 12) hx hb dX4_init_113 (by decide) ?_
      refine lv_icmp_ge (tgt := 147) hx hb dX4_init_115 (by decide) (fun c_115 => ?_) (fun c_115 => ?_)
      · have c_115 : 12 ≤ i := (nI_leI (a := 12) (b := i) (by omega) (by omega)).mp c_115
        have hi9 : i = 12 := by omega
        rw [hi9, fill_e] at hP hD
        exact k_vret (ws := [kO o 4 [.null, .null, .null, .null, .null, .null, .int (nI 0), .int (nI 0)]]) (((mg_9, mg_21, mg_31, mx_31, my_31, g_40, g_55, g_63), (mr_9, mr_21))) hx hb hr hlocks hP hD hS hAe hQ (Nat.le_of_ble_eq_true rfl) (Nat.le_of_ble_eq_true rfl) dX4_init_147 (rfl) (by trivial)
      · have c_115 : ¬ (12 ≤ i) := fun h9 => c_115 ((nI_leI (a := 12) (b := i) (by omega) (by omega)).mpr h9)
        refine lv_iconst (v := nI 0) hx hb dX4_init_118 (by decide) ?_
        refine lv_istore_n (lv' := [(2, .int (nI 0)), (0, .ref o), (1, .int (nI i))]) hx hb dX4_init_119 rfl hl (by decide) rfl (fun ls hl => ?_)
        have loop_120 : ∀ (fu_120 : Nat) (j : Nat), j ≤ 10 → 10 < j + fu_120 → ∀ (H : Heap) (locs : List Loc) (ls : Array Slot), va_P G.1 vwCl ([kO o 4 [.ref mg_9, .ref mg_21, .ref mg_31, .ref g_40, .ref g_55, .ref g_63, .int (nI 0), .int (nI 0)], kGd G mg_9 12 (oA 12 mr_9), kGd G mg_21 12 (oA 12 mr_21), kH G mg_31 2 (oR mx_31 my_31), kGd G mx_31 0 (oA 0 (fun _ => 0)), kGd G my_31 0 (oA 0 (fun _ => 0)), kC G g_40 2 (nR (w2 1 1)), kC G g_55 2 (nR (w2 0 0)), kC G g_63 8 (nR bIni)] ++ sT G mr_9 mr_21 (fun _ => 0) (fun _ => 0) (fillF i j) (planF wIni wIni) 0 (runF wIni) 0 (runF wIni)) H → va_D A ([kO o 4 [.ref mg_9, .ref mg_21, .ref mg_31, .ref g_40, .ref g_55, .ref g_63, .int (nI 0), .int (nI 0)], kGd G mg_9 12 (oA 12 mr_9), kGd G mg_21 12 (oA 12 mr_21), kH G mg_31 2 (oR mx_31 my_31), kGd G mx_31 0 (oA 0 (fun _ => 0)), kGd G my_31 0 (oA 0 (fun _ => 0)), kC G g_40 2 (nR (w2 1 1)), kC G g_55 2 (nR (w2 0 0)), kC G g_63 8 (nR bIni)] ++ sT G mr_9 mr_21 (fun _ => 0) (fun _ => 0) (fillF i j) (planF wIni wIni) 0 (runF wIni) 0 (runF wIni)) → va_S A s.heap H locs → lv_has ls 3 [(0, .ref o), (1, .int (nI i)), (2, .int (nI j))] → W p l e ({ frames := 1, cells := 32, slots := 278, locals := 12 } : Room) s m args below meth c H locs 32 278 Qs (F0 m 120 ls []) := by
          intro fu_120
          induction fu_120 with
          | zero =>
            intro j hj hf2
            exact absurd hf2 (by omega)
          | succ fu_120 ih_120 =>
            intro j hj hf2 H locs ls hP hD hS hl
            refine lv_iload_n hx hb dX4_init_120 rfl (lv_at hl 2 rfl) ?_
            refine lv_bipush (v := nI 10) hx hb dX4_init_121 (by decide) ?_
            refine lv_icmp_ge (tgt := 141) hx hb dX4_init_123 (by decide) (fun c_123 => ?_) (fun c_123 => ?_)
            · have c_123 : 10 ≤ j := (nI_leI (a := 10) (b := j) (by omega) (by omega)).mp c_123
              refine lv_iinc (v := nI (i + 1)) (lv' := [(1, .int (nI (i + 1))), (0, .ref o), (2, .int (nI j))]) hx hb dX4_init_141 hl (k := 1) rfl (nI_add i 1) (by decide) rfl (fun ls hl => ?_)
              refine lv_goto (tgt := 112) hx hb dX4_init_144 (by decide) ?_
              have hj9 : j = 10 := by omega
              rw [hj9, fill_n] at hP hD
              have hP : va_P G.1 vwCl ([kO o 4 [.ref mg_9, .ref mg_21, .ref mg_31, .ref g_40, .ref g_55, .ref g_63, .int (nI 0), .int (nI 0)], kGd G mg_9 12 (oA 12 mr_9), kGd G mg_21 12 (oA 12 mr_21), kH G mg_31 2 (oR mx_31 my_31), kGd G mx_31 0 (oA 0 (fun _ => 0)), kGd G my_31 0 (oA 0 (fun _ => 0)), kC G g_40 2 (nR (w2 1 1)), kC G g_55 2 (nR (w2 0 0)), kC G g_63 8 (nR bIni)] ++ sT G mr_9 mr_21 (fun _ => 0) (fun _ => 0) (fillF (i + 1) 0) (planF wIni wIni) 0 (runF wIni) 0 (runF wIni)) H := hP
              have hD : va_D A ([kO o 4 [.ref mg_9, .ref mg_21, .ref mg_31, .ref g_40, .ref g_55, .ref g_63, .int (nI 0), .int (nI 0)], kGd G mg_9 12 (oA 12 mr_9), kGd G mg_21 12 (oA 12 mr_21), kH G mg_31 2 (oR mx_31 my_31), kGd G mx_31 0 (oA 0 (fun _ => 0)), kGd G my_31 0 (oA 0 (fun _ => 0)), kC G g_40 2 (nR (w2 1 1)), kC G g_55 2 (nR (w2 0 0)), kC G g_63 8 (nR bIni)] ++ sT G mr_9 mr_21 (fun _ => 0) (fun _ => 0) (fillF (i + 1) 0) (planF wIni wIni) 0 (runF wIni) 0 (runF wIni)) := hD
              exact ih_112 (i + 1) (by omega) (by omega) _ _ _ hP hD hS (lv_sub hl [1, 0] rfl)
            · have c_123 : ¬ (10 ≤ j) := fun h9 => c_123 ((nI_leI (a := 10) (b := j) (by omega) (by omega)).mpr h9)
              refine lv_aload_n hx hb dX4_init_126 rfl (lv_at hl 0 rfl) ?_
              refine va_get (D := G.1) (ci := 4) (v := .ref mg_9) (C := RX4) (T := TX4) (N := 8) hx hb hts hq_5 hown hK.1 hP 0 rfl rfl 0 (by decide) hq_6 (fun _ h9 => h9) rfl dX4_init_127 ?_
              refine lv_iload_n hx hb dX4_init_130 rfl (lv_at hl 1 rfl) ?_
              have hi_11 : i < 12 := by omega
              refine k_aldg hx hb hK hP 1 i rfl (vp_in_nI hi_11 (by omega)) (nI_clamp (Nat.lt_of_lt_of_le hi_11 (by omega))) (oA_at hi_11) dX4_init_131 ?_
              refine lv_iload_n hx hb dX4_init_132 rfl (lv_at hl 2 rfl) ?_
              refine lv_iconst (v := (-1)) hx hb dX4_init_133 (by decide) ?_
              have hi_12 : j < 10 := by omega
              refine va_iast (D := G.1) hx hb hK.1 hP hD hS _ 0 (sT_r (i := i) (by omega)) rfl (vp_in_nI hi_12 (by omega)) dX4_init_134 (fun H locs hP hD hS => ?_)
              rw [nI_clamp (n := j) (by omega), sT_rs (by omega)] at hP hD
              have hP : va_P G.1 vwCl ([kO o 4 [.ref mg_9, .ref mg_21, .ref mg_31, .ref g_40, .ref g_55, .ref g_63, .int (nI 0), .int (nI 0)], kGd G mg_9 12 (oA 12 mr_9), kGd G mg_21 12 (oA 12 mr_21), kH G mg_31 2 (oR mx_31 my_31), kGd G mx_31 0 (oA 0 (fun _ => 0)), kGd G my_31 0 (oA 0 (fun _ => 0)), kC G g_40 2 (nR (w2 1 1)), kC G g_55 2 (nR (w2 0 0)), kC G g_63 8 (nR bIni)] ++ sT G mr_9 mr_21 (fun _ => 0) (fun _ => 0) (updR (fillF i j) i j (-1)) (planF wIni wIni) 0 (runF wIni) 0 (runF wIni)) H := hP
              have hD : va_D A ([kO o 4 [.ref mg_9, .ref mg_21, .ref mg_31, .ref g_40, .ref g_55, .ref g_63, .int (nI 0), .int (nI 0)], kGd G mg_9 12 (oA 12 mr_9), kGd G mg_21 12 (oA 12 mr_21), kH G mg_31 2 (oR mx_31 my_31), kGd G mx_31 0 (oA 0 (fun _ => 0)), kGd G my_31 0 (oA 0 (fun _ => 0)), kC G g_40 2 (nR (w2 1 1)), kC G g_55 2 (nR (w2 0 0)), kC G g_63 8 (nR bIni)] ++ sT G mr_9 mr_21 (fun _ => 0) (fun _ => 0) (updR (fillF i j) i j (-1)) (planF wIni wIni) 0 (runF wIni) 0 (runF wIni)) := hD
              refine lv_iinc (v := nI (j + 1)) (lv' := [(2, .int (nI (j + 1))), (0, .ref o), (1, .int (nI i))]) hx hb dX4_init_135 hl (k := 2) rfl (nI_add j 1) (by decide) rfl (fun ls hl => ?_)
              refine lv_goto (tgt := 120) hx hb dX4_init_138 (by decide) ?_
              rw [fill_s (by omega) (by omega)] at hP hD
              have hP : va_P G.1 vwCl ([kO o 4 [.ref mg_9, .ref mg_21, .ref mg_31, .ref g_40, .ref g_55, .ref g_63, .int (nI 0), .int (nI 0)], kGd G mg_9 12 (oA 12 mr_9), kGd G mg_21 12 (oA 12 mr_21), kH G mg_31 2 (oR mx_31 my_31), kGd G mx_31 0 (oA 0 (fun _ => 0)), kGd G my_31 0 (oA 0 (fun _ => 0)), kC G g_40 2 (nR (w2 1 1)), kC G g_55 2 (nR (w2 0 0)), kC G g_63 8 (nR bIni)] ++ sT G mr_9 mr_21 (fun _ => 0) (fun _ => 0) (fillF i (j + 1)) (planF wIni wIni) 0 (runF wIni) 0 (runF wIni)) H := hP
              have hD : va_D A ([kO o 4 [.ref mg_9, .ref mg_21, .ref mg_31, .ref g_40, .ref g_55, .ref g_63, .int (nI 0), .int (nI 0)], kGd G mg_9 12 (oA 12 mr_9), kGd G mg_21 12 (oA 12 mr_21), kH G mg_31 2 (oR mx_31 my_31), kGd G mx_31 0 (oA 0 (fun _ => 0)), kGd G my_31 0 (oA 0 (fun _ => 0)), kC G g_40 2 (nR (w2 1 1)), kC G g_55 2 (nR (w2 0 0)), kC G g_63 8 (nR bIni)] ++ sT G mr_9 mr_21 (fun _ => 0) (fun _ => 0) (fillF i (j + 1)) (planF wIni wIni) 0 (runF wIni) 0 (runF wIni)) := hD
              exact ih_120 (j + 1) (by omega) (by omega) _ _ _ hP hD hS (lv_sub hl [1, 2, 0] rfl)
        exact loop_120 11 0 (by omega) (by omega) H locs ls hP hD hS (lv_sub hl [1, 2, 0] rfl)
  exact loop_112 13 0 (by omega) (by omega) H locs ls hP hD hS (lv_sub hl [1, 0] rfl)
