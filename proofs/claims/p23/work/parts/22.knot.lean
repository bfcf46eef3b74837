set_option maxHeartbeats 4000000 in
set_option maxRecDepth 100000 in
theorem s_knot0 (l : Launch) (G : kG) (o : Nat) (rg : Nat) (pg : Nat) (rr : Nat) (e0 : Nat) (e1 : Nat) (sp : Nat) (ot : Nat) (wo : Nat) (ra : Nat → Nat) (pa : Nat → Nat) (qa : Nat → Nat) (qb : Nat → Nat) (w0 : Wv) (w1 : Wv) (bf : Nat → Nat) (ho : Nat) (un : Nat) (h0 : wOk w0) (h1 : wOk w1) (hB : bOk bf) (ht1 : 0 < vT w0) (hm : vM w0 < 60) : kM l G yX4_knot wsX4_knot ({ frames := 2, cells := 1, slots := 20, locals := 43 } : Room) [.ref o, .int (nI 0)] ([kO o 4 [.ref rg, .ref pg, .ref rr, .ref sp, .ref ot, .ref wo, .int (nI ho), .int (nI un)], kGd G rg 12 (oA 12 ra), kGd G pg 12 (oA 12 pa), kH G rr 2 (oR e0 e1), kGd G e0 (vT w0) (oA (vT w0) qa), kGd G e1 (vT w1) (oA (vT w1) qb), kC G sp 2 (nR (w2 (vS w0) (vS w1))), kC G ot 2 (nR (w2 (vO w0) (vO w1))), kC G wo 8 (nR bf)] ++ sT G ra pa qa qb (rugF w0 w1) (planF w0 w1) (vT w0) (runF w0) (vT w1) (runF w1)) (kQi G ([kO o 4 [.ref rg, .ref pg, .ref rr, .ref sp, .ref ot, .ref wo, .int (nI ho), .int (nI un)], kGd G rg 12 (oA 12 ra), kGd G pg 12 (oA 12 pa), kH G rr 2 (oR e0 e1), kGd G e0 (vT w0) (oA (vT w0) qa), kGd G e1 (vT w1) (oA (vT w1) qb), kC G sp 2 (nR (w2 (vS w0) (vS w1))), kC G ot 2 (nR (w2 (vO w0) (vO w1))), kC G wo 8 (nR bf)] ++ sT G ra pa qa qb (rugF w0 w1) (planF w0 w1) (vT w0) (runF w0) (vT w1) (runF w1)) (fun (r : Int32) (u : (Wv × (Nat → Nat)) × (Nat × (Nat → Nat))) => (r = nI 1 ∧ takeBy bf (vC w0 0) < 8 ∧ u.1 = ((knW w0 bf), takeB bf (vC w0 0))) ∨ (r = nI 0 ∧ ¬ takeBy bf (vC w0 0) < 8 ∧ u.1 = (w0, bf))) (fun (u : (Wv × (Nat → Nat)) × (Nat × (Nat → Nat))) => ([kO o 4 [.ref rg, .ref pg, .ref rr, .ref sp, .ref ot, .ref wo, .int (nI ho), .int (nI un)], kGd G rg 12 (oA 12 ra), kGd G pg 12 (oA 12 pa), kH G rr 2 (oR u.2.1 e1), kGd G u.2.1 (vT u.1.1) (oA (vT u.1.1) u.2.2), kGd G e1 (vT w1) (oA (vT w1) qb), kC G sp 2 (nR (w2 (vS u.1.1) (vS w1))), kC G ot 2 (nR (w2 (vO u.1.1) (vO w1))), kC G wo 8 (nR u.1.2)] ++ sT G ra pa u.2.2 qb (rugF u.1.1 w1) (planF u.1.1 w1) (vT u.1.1) (runF u.1.1) (vT w1) (runF w1)))) := by
  refine k_ofW (cc := cX4_knot) (maxL := 7) (rt := (some .boolean)) (by decide) rfl (Nat.le_of_ble_eq_true rfl) ?_
  intro p e s m args below meth c A ls Qs H locs hQ hAe hx hb hr hml hts hown hlocks hin hK hZ hP hD hS hA hl
  have hown : s.vm.findClass RX4 = some m.cls := hown
  have hl : lv_has ls 7 [(0, .ref o), (1, .int (nI 0))] := hl
  have m0b : vM w0 ≤ 60 := h0.2.2.2.1
  have m1b : vM w1 ≤ 60 := h1.2.2.2.1
  have t0b : vT w0 ≤ 20 := h0.2.2.1
  have t1b : vT w1 ≤ 20 := h1.2.2.1
  have pb0 : ∀ i, i < 60 → vP w0 i < 8 := h0.2.2.2.2.1
  have pb1 : ∀ i, i < 60 → vP w1 i < 8 := h1.2.2.2.2.1
  have kb0 : ∀ i, i < 60 → vK w0 i < 8 := h0.2.2.2.2.2.1
  have kb1 : ∀ i, i < 60 → vK w1 i < 8 := h1.2.2.2.2.2.1
  have cb0 : ∀ i, i < vT w0 → vC w0 i < 8 := h0.2.2.2.2.2.2.1
  have cb1 : ∀ i, i < vT w1 → vC w1 i < 8 := h1.2.2.2.2.2.2.1
  have nb0 : ∀ i, i < vT w0 → 1 ≤ vN w0 i ∧ vN w0 i ≤ 60 := h0.2.2.2.2.2.2.2
  have nb1 : ∀ i, i < vT w1 → 1 ≤ vN w1 i ∧ vN w1 i ≤ 60 := h1.2.2.2.2.2.2.2
  have sb0 : vS w0 ≤ 6 := h0.2.1
  have sb1 : vS w1 ≤ 6 := h1.2.1
  have hc0 : vC w0 0 < 8 := cb0 0 ht1
  have hn0 := nb0 0 ht1
  have hq_0 : ∀ w ∈ wsX40, w ∈ wsX4_knot := by decide +kernel
  have hq_1 : (Cond.fieldLink RX4 19 "KnotRugsLaw$Sim" "runs" "[[[I").before args s = true := hts _ (by decide +kernel)
  have hq_2 : (Cond.fieldLink RX4 29 "KnotRugsLaw$Sim" "wool" "[I").before args s = true := hts _ (by decide +kernel)
  have hq_3 : (Cond.fieldLink RX4 9 "KnotRugsLaw$Sim" "rug" "[[I").before args s = true := hts _ (by decide +kernel)
  have hq_4 : (Cond.fieldLink RX4 26 "KnotRugsLaw$Sim" "others" "[I").before args s = true := hts _ (by decide +kernel)
  have hq_5 : (Cond.classLink RX4 33 "[I").before args s = true := hts _ (by decide +kernel)
  refine lv_aload_n hx hb dX4_knot_0 rfl (lv_at hl 0 rfl) ?_
  refine va_get (D := G.1) (ci := 4) (v := .ref rr) (C := RX4) (T := TX4) (N := 8) hx hb hts hq_0 hown hK.1 hP 0 rfl rfl 2 (by decide) hq_1 (fun _ h9 => h9) rfl dX4_knot_1 ?_
  refine lv_iload_n hx hb dX4_knot_4 rfl (lv_at hl 1 rfl) ?_
  refine k_ald3 hx hb hK hP 3 0 rfl (vp_in_nI (n := 0) (by decide) (by decide)) (by decide) rfl dX4_knot_5 ?_
  refine lv_iconst (v := nI 0) hx hb dX4_knot_6 (by decide) ?_
  have hi_1 : 0 < (vT w0) := by omega
  refine k_aldg hx hb hK hP 4 0 rfl (vp_in_nI hi_1 (by omega)) (nI_clamp (Nat.lt_of_lt_of_le hi_1 (by omega))) (oA_at hi_1) dX4_knot_7 ?_
  refine lv_iconst (v := nI 0) hx hb dX4_knot_8 (by decide) ?_
  have hi_2 : 0 < 2 := by omega
  refine va_iald (D := G.1) hx hb hK.1 hP _ 0 (sT_a (i := 0) (by omega)) rfl (vp_in_nI hi_2 (by omega)) dX4_knot_9 ?_
  refine lv_topi (fun y_3 hy_3 => ?_)
  obtain rfl : y_3 = (runF w0) 0 0 := hy_3.trans (congrArg _ (nI_clamp (by omega)))
  refine lv_topi (fun y_4 hy_4 => ?_)
  obtain rfl : y_4 = nI (vC w0 0) := hy_4.trans (rfl)
  refine lv_istore_n (lv' := [(2, .int (nI (vC w0 0))), (0, .ref o), (1, .int (nI 0))]) hx hb dX4_knot_10 rfl hl (by decide) rfl (fun ls hl => ?_)
  refine lv_iload_n hx hb dX4_knot_11 rfl (lv_at hl 0 rfl) ?_
  refine lv_topi (fun y_5 hy_5 => ?_)
  obtain rfl : y_5 = nI ((vC w0 0 + 0) % 8) := hy_5.trans (congrArg nI (by omega))
  refine lv_istore_n (lv' := [(3, .int (nI ((vC w0 0 + 0) % 8))), (2, .int (nI (vC w0 0))), (0, .ref o), (1, .int (nI 0))]) hx hb dX4_knot_12 rfl hl (by decide) rfl (fun ls hl => ?_)
  have loop_13 : ∀ (fu_13 : Nat) (b : Nat), b < 8 → tkB bf (vC w0 0) (8 - b) b = takeBy bf (vC w0 0) → 8 < b + fu_13 → ∀ (H : Heap) (locs : List Loc) (ls : Array Slot), va_P G.1 vwCl ([kO o 4 [.ref rg, .ref pg, .ref rr, .ref sp, .ref ot, .ref wo, .int (nI ho), .int (nI un)], kGd G rg 12 (oA 12 ra), kGd G pg 12 (oA 12 pa), kH G rr 2 (oR e0 e1), kGd G e0 (vT w0) (oA (vT w0) qa), kGd G e1 (vT w1) (oA (vT w1) qb), kC G sp 2 (nR (w2 (vS w0) (vS w1))), kC G ot 2 (nR (w2 (vO w0) (vO w1))), kC G wo 8 (nR bf)] ++ sT G ra pa qa qb (rugF w0 w1) (planF w0 w1) (vT w0) (runF w0) (vT w1) (runF w1)) H → va_D A ([kO o 4 [.ref rg, .ref pg, .ref rr, .ref sp, .ref ot, .ref wo, .int (nI ho), .int (nI un)], kGd G rg 12 (oA 12 ra), kGd G pg 12 (oA 12 pa), kH G rr 2 (oR e0 e1), kGd G e0 (vT w0) (oA (vT w0) qa), kGd G e1 (vT w1) (oA (vT w1) qb), kC G sp 2 (nR (w2 (vS w0) (vS w1))), kC G ot 2 (nR (w2 (vO w0) (vO w1))), kC G wo 8 (nR bf)] ++ sT G ra pa qa qb (rugF w0 w1) (planF w0 w1) (vT w0) (runF w0) (vT w1) (runF w1)) → va_S A s.heap H locs → lv_has ls 7 [(0, .ref o), (1, .int (nI 0)), (2, .int (nI (vC w0 0))), (3, .int (nI ((vC w0 0 + b) % 8)))] → W p l e ({ frames := 2, cells := 1, slots := 20, locals := 43 } : Room) s m args below meth c H locs 0 0 Qs (F0 m 13 ls []) := by
    intro fu_13
    induction fu_13 with
    | zero =>
      intro b hb8 hv hf
      exact absurd hf (by omega)
    | succ fu_13 ih_13 =>
      intro b hb8 hv hf H locs ls hP hD hS hl
      have hcb8 : (vC w0 0 + b) % 8 < 8 := by omega
      have hbc8 : bf ((vC w0 0 + b) % 8) ≤ 200 := hB _ hcb8
      refine lv_aload_n hx hb dX4_knot_13 rfl (lv_at hl 0 rfl) ?_
      refine va_get (D := G.1) (ci := 4) (v := .ref wo) (C := RX4) (T := TX4) (N := 8) hx hb hts hq_0 hown hK.1 hP 0 rfl rfl 5 (by decide) hq_2 (fun _ h9 => h9) rfl dX4_knot_14 ?_
      refine lv_iload_n hx hb dX4_knot_17 rfl (lv_at hl 3 rfl) ?_
      have hi_6 : ((vC w0 0 + b) % 8) < 8 := by omega
      refine va_iald (D := G.1) hx hb hK.1 hP 8 0 rfl rfl (vp_in_nI hi_6 (by omega)) dX4_knot_18 ?_
      refine lv_topi (fun y_7 hy_7 => ?_)
      obtain rfl : y_7 = nI (bf ((vC w0 0 + b) % 8)) := hy_7.trans (nR_at (by omega))
      refine lv_if_ne (tgt := 43) hx hb dX4_knot_19 (by decide) (fun c_19 => ?_) (fun c_19 => ?_)
      · have c_19 : ¬ ((bf ((vC w0 0 + b) % 8)) = 0) := fun h9 => c_19 ((k_eq0 (a := (bf ((vC w0 0 + b) % 8))) (by omega)).mpr h9)
        have hby : takeBy bf (vC w0 0) = b := tk_hit (by omega) hv c_19
        have hcb : (vC w0 0 + b) % 8 < 8 := by omega
        have hbc : bf ((vC w0 0 + b) % 8) ≤ 200 := hB _ hcb
        refine lv_aload_n hx hb dX4_knot_43 rfl (lv_at hl 0 rfl) ?_
        refine lv_iload_n hx hb dX4_knot_44 rfl (lv_at hl 1 rfl) ?_
        refine k_callPi (S := Unit) (wfx := fun _ => [kO o 4 [.ref rg, .ref pg, .ref rr, .ref sp, .ref ot, .ref wo, .int (nI ho), .int (nI un)], kGd G rg 12 (oA 12 ra), kGd G pg 12 (oA 12 pa), kH G rr 2 (oR e0 e1), kGd G e0 (vT w0) (oA (vT w0) qa), kGd G e1 (vT w1) (oA (vT w1) qb), kC G sp 2 (nR (w2 (vS w0) (vS w1))), kC G ot 2 (nR (w2 (vO w0) (vO w1))), kC G wo 8 (nR bf)]) (wfp := fun _ => sT G ra pa qa qb (rugF w0 w1) (planF w0 w1) (vT w0) (runF w0) (vT w1) (runF w1)) (fun _ => [kO o 4 [.ref rg, .ref pg, .ref rr, .ref sp, .ref ot, .ref wo, .int (nI ho), .int (nI un)], kGd G rg 12 (oA 12 ra), kGd G pg 12 (oA 12 pa), kH G rr 2 (oR e0 e1), kGd G e0 (vT w0) (oA (vT w0) qa), kGd G e1 (vT w1) (oA (vT w1) qb), kC G sp 2 (nR (w2 (vS w0) (vS w1))), kC G ot 2 (nR (w2 (vO w0) (vO w1))), kC G wo 8 (nR bf)]) [] (k_runVP (As := [.int (nI 0)]) (rest := []) (cx := [kO o 4 [.ref rg, .ref pg, .ref rr, .ref sp, .ref ot, .ref wo, .int (nI ho), .int (nI un)], kGd G rg 12 (oA 12 ra), kGd G pg 12 (oA 12 pa), kH G rr 2 (oR e0 e1), kGd G e0 (vT w0) (oA (vT w0) qa), kGd G e1 (vT w1) (oA (vT w1) qb), kC G sp 2 (nR (w2 (vS w0) (vS w1))), kC G ot 2 (nR (w2 (vO w0) (vO w1))), kC G wo 8 (nR bf)]) ⟨hx, hb, hml, hown, hts⟩ (s_knots0 l G o rg pg rr e0 e1 sp ot wo ra pa qa qb w0 w1 bf ho un h0 h1 hB) (cwV 1 hts gX4_knot_X4_knots rfl rfl rfl (by decide +kernel) ⟨Nat.le_of_ble_eq_true rfl, Nat.le_of_ble_eq_true rfl⟩) hK hZ hP hD hS hA [0, 1, 2, 3, 4, 5, 6, 7, 8] rfl rfl 0 4 rfl rfl rfl rfl hl.1 rfl (Nat.le_of_ble_eq_true rfl) dX4_knot_45 ⟨(Nat.le_of_ble_eq_true rfl), (Nat.le_of_ble_eq_true rfl)⟩) hP hD hS hA [0, 1, 2, 3, 4, 5, 6, 7, 8] [] [0, 1, 2, 3, 4, 5, 6, 7, 8] rfl rfl rfl (by decide) (fun _ => rfl) rfl (fun r_45 u_45 H locs hp_45 hP hD hS => ?_)
        have hp_45 : r_45 = nI (vM w0) := hp_45
        subst hp_45
        refine lv_istore (lv' := [(4, .int (nI (vM w0))), (0, .ref o), (1, .int (nI 0)), (2, .int (nI (vC w0 0))), (3, .int (nI ((vC w0 0 + b) % 8)))]) hx hb dX4_knot_48 hl (by decide) rfl (fun ls hl => ?_)
        refine lv_aload_n hx hb dX4_knot_50 rfl (lv_at hl 1 rfl) ?_
        refine va_get (D := G.1) (ci := 4) (v := .ref rg) (C := RX4) (T := TX4) (N := 8) hx hb hts hq_0 hown hK.1 hP 0 rfl rfl 0 (by decide) hq_3 (fun _ h9 => h9) rfl dX4_knot_51 ?_
        refine lv_iload_n hx hb dX4_knot_54 rfl (lv_at hl 2 rfl) ?_
        refine lv_iload hx hb dX4_knot_55 (lv_at hl 0 rfl) ?_
        refine k_callQi (S := Unit) (wfx := fun _ => []) (fun _ => [kO o 4 [.ref rg, .ref pg, .ref rr, .ref sp, .ref ot, .ref wo, .int (nI ho), .int (nI un)], kGd G rg 12 (oA 12 ra), kGd G pg 12 (oA 12 pa), kH G rr 2 (oR e0 e1), kGd G e0 (vT w0) (oA (vT w0) qa), kGd G e1 (vT w1) (oA (vT w1) qb), kC G sp 2 (nR (w2 (vS w0) (vS w1))), kC G ot 2 (nR (w2 (vO w0) (vO w1))), kC G wo 8 (nR bf)]) [kO o 4 [.ref rg, .ref pg, .ref rr, .ref sp, .ref ot, .ref wo, .int (nI ho), .int (nI un)], kGd G rg 12 (oA 12 ra), kGd G pg 12 (oA 12 pa), kH G rr 2 (oR e0 e1), kGd G e0 (vT w0) (oA (vT w0) qa), kGd G e1 (vT w1) (oA (vT w1) qb), kC G sp 2 (nR (w2 (vS w0) (vS w1))), kC G ot 2 (nR (w2 (vO w0) (vO w1))), kC G wo 8 (nR bf)] (k_runS (As := [.int (nI 0), .int (nI (vM w0))]) (rest := [.ref rg]) (wc := []) ⟨hx, hb, hml, hown, hts⟩ (s_x0 l G (vM w0) (by omega)) (va_cwS 2 hts gX4_knot_X4_x rfl rfl rfl (by decide +kernel) ⟨Nat.le_of_ble_eq_true rfl, Nat.le_of_ble_eq_true rfl⟩) hK hZ hP hD hS hA [] rfl rfl rfl hl.1 rfl (Nat.le_of_ble_eq_true rfl) dX4_knot_57 ⟨(Nat.le_of_ble_eq_true rfl), (Nat.le_of_ble_eq_true rfl)⟩) hP hD hS hA [] [0, 1, 2, 3, 4, 5, 6, 7, 8] [0, 1, 2, 3, 4, 5, 6, 7, 8] rfl rfl rfl rfl (by decide) (fun _ => rfl) rfl (fun r_57 u_57 H locs hp_57 hP hD hS => ?_)
        have hp_57 : r_57 = nI (colOf 0 (vM w0)) := hp_57
        subst hp_57
        have hi_8 : (colOf 0 (vM w0)) < 12 := colOf_lt
        refine k_aldg hx hb hK hP 1 (colOf 0 (vM w0)) rfl (vp_in_nI hi_8 (by omega)) (nI_clamp (Nat.lt_of_lt_of_le hi_8 (by omega))) (oA_at hi_8) dX4_knot_60 ?_
        refine lv_iload hx hb dX4_knot_61 (lv_at hl 0 rfl) ?_
        refine lv_bipush (v := nI 6) hx hb dX4_knot_63 (by decide) ?_
        refine lv_idiv hx hb dX4_knot_65 (by first | decide | (intro h; exact absurd ((nI_eq (by omega) (by omega)).mp h) (by omega))) ?_
        refine lv_topi (fun y_9 hy_9 => ?_)
        obtain rfl : y_9 = nI ((vM w0) / 6) := hy_9.trans (pk_div (a := (vM w0)) (d := 6) (by omega) (by omega) (by omega))
        refine lv_iload_n hx hb dX4_knot_66 rfl (lv_at hl 4 rfl) ?_
        have hi_10 : ((vM w0) / 6) < 10 := by omega
        refine va_iast (D := G.1) hx hb hK.1 hP hD hS _ 0 (sT_r (i := (colOf 0 (vM w0))) colOf_lt) rfl (vp_in_nI hi_10 (by omega)) dX4_knot_67 (fun H locs hP hD hS => ?_)
        rw [nI_clamp (n := ((vM w0) / 6)) (by omega), sT_rs colOf_lt] at hP hD
        have hP : va_P G.1 vwCl ([kO o 4 [.ref rg, .ref pg, .ref rr, .ref sp, .ref ot, .ref wo, .int (nI ho), .int (nI un)], kGd G rg 12 (oA 12 ra), kGd G pg 12 (oA 12 pa), kH G rr 2 (oR e0 e1), kGd G e0 (vT w0) (oA (vT w0) qa), kGd G e1 (vT w1) (oA (vT w1) qb), kC G sp 2 (nR (w2 (vS w0) (vS w1))), kC G ot 2 (nR (w2 (vO w0) (vO w1))), kC G wo 8 (nR bf)] ++ sT G ra pa qa qb (updR (rugF w0 w1) (colOf 0 (vM w0)) ((vM w0) / 6) (nI ((vC w0 0 + b) % 8))) (planF w0 w1) (vT w0) (runF w0) (vT w1) (runF w1)) H := hP
        have hD : va_D A ([kO o 4 [.ref rg, .ref pg, .ref rr, .ref sp, .ref ot, .ref wo, .int (nI ho), .int (nI un)], kGd G rg 12 (oA 12 ra), kGd G pg 12 (oA 12 pa), kH G rr 2 (oR e0 e1), kGd G e0 (vT w0) (oA (vT w0) qa), kGd G e1 (vT w1) (oA (vT w1) qb), kC G sp 2 (nR (w2 (vS w0) (vS w1))), kC G ot 2 (nR (w2 (vO w0) (vO w1))), kC G wo 8 (nR bf)] ++ sT G ra pa qa qb (updR (rugF w0 w1) (colOf 0 (vM w0)) ((vM w0) / 6) (nI ((vC w0 0 + b) % 8))) (planF w0 w1) (vT w0) (runF w0) (vT w1) (runF w1)) := hD
        have hru : updR (rugF w0 w1) (colOf 0 (vM w0)) (vM w0 / 6) (nI ((vC w0 0 + b) % 8)) = rugF (knW w0 bf) w1 := rug_u0 hm (by rw [← hby]; exact kaW_knot) (fun j _ hj => kaW_knot_o hj)
        rw [hru] at hP hD
        have hP : va_P G.1 vwCl ([kO o 4 [.ref rg, .ref pg, .ref rr, .ref sp, .ref ot, .ref wo, .int (nI ho), .int (nI un)], kGd G rg 12 (oA 12 ra), kGd G pg 12 (oA 12 pa), kH G rr 2 (oR e0 e1), kGd G e0 (vT w0) (oA (vT w0) qa), kGd G e1 (vT w1) (oA (vT w1) qb), kC G sp 2 (nR (w2 (vS w0) (vS w1))), kC G ot 2 (nR (w2 (vO w0) (vO w1))), kC G wo 8 (nR bf)] ++ sT G ra pa qa qb (rugF (knW w0 bf) w1) (planF w0 w1) (vT w0) (runF w0) (vT w1) (runF w1)) H := hP
        have hD : va_D A ([kO o 4 [.ref rg, .ref pg, .ref rr, .ref sp, .ref ot, .ref wo, .int (nI ho), .int (nI un)], kGd G rg 12 (oA 12 ra), kGd G pg 12 (oA 12 pa), kH G rr 2 (oR e0 e1), kGd G e0 (vT w0) (oA (vT w0) qa), kGd G e1 (vT w1) (oA (vT w1) qb), kC G sp 2 (nR (w2 (vS w0) (vS w1))), kC G ot 2 (nR (w2 (vO w0) (vO w1))), kC G wo 8 (nR bf)] ++ sT G ra pa qa qb (rugF (knW w0 bf) w1) (planF w0 w1) (vT w0) (runF w0) (vT w1) (runF w1)) := hD
        refine lv_aload_n hx hb dX4_knot_68 rfl (lv_at hl 1 rfl) ?_
        refine va_get (D := G.1) (ci := 4) (v := .ref wo) (C := RX4) (T := TX4) (N := 8) hx hb hts hq_0 hown hK.1 hP 0 rfl rfl 5 (by decide) hq_2 (fun _ h9 => h9) rfl dX4_knot_69 ?_
        refine lv_iload_n hx hb dX4_knot_72 rfl (lv_at hl 4 rfl) ?_
        refine lv_dup2_11 hx hb dX4_knot_73 rfl rfl ?_
        have hi_11 : ((vC w0 0 + b) % 8) < 8 := by omega
        refine va_iald (D := G.1) hx hb hK.1 hP 8 0 rfl rfl (vp_in_nI hi_11 (by omega)) dX4_knot_74 ?_
        refine lv_topi (fun y_12 hy_12 => ?_)
        obtain rfl : y_12 = nI (bf ((vC w0 0 + b) % 8)) := hy_12.trans (nR_at (by omega))
        refine lv_iconst (v := nI 1) hx hb dX4_knot_75 (by decide) ?_
        refine lv_isub hx hb dX4_knot_76 ?_
        refine lv_topi (fun y_13 hy_13 => ?_)
        obtain rfl : y_13 = nI ((bf ((vC w0 0 + b) % 8)) - 1) := hy_13.trans (pk_sub (a := (bf ((vC w0 0 + b) % 8))) (b := 1) (by omega))
        have hi_14 : ((vC w0 0 + b) % 8) < 8 := by omega
        refine va_iast (D := G.1) hx hb hK.1 hP hD hS 8 0 rfl rfl (vp_in_nI hi_14 (by omega)) dX4_knot_77 (fun H locs hP hD hS => ?_)
        rw [nR_upd (f := bf) (k := ((vC w0 0 + b) % 8)) (v := ((bf ((vC w0 0 + b) % 8)) - 1)) (by omega)] at hP hD
        have hP : va_P G.1 vwCl ([kO o 4 [.ref rg, .ref pg, .ref rr, .ref sp, .ref ot, .ref wo, .int (nI ho), .int (nI un)], kGd G rg 12 (oA 12 ra), kGd G pg 12 (oA 12 pa), kH G rr 2 (oR e0 e1), kGd G e0 (vT w0) (oA (vT w0) qa), kGd G e1 (vT w1) (oA (vT w1) qb), kC G sp 2 (nR (w2 (vS w0) (vS w1))), kC G ot 2 (nR (w2 (vO w0) (vO w1))), kC G wo 8 (nR (updN bf ((vC w0 0 + b) % 8) ((bf ((vC w0 0 + b) % 8)) - 1)))] ++ sT G ra pa qa qb (rugF (knW w0 bf) w1) (planF w0 w1) (vT w0) (runF w0) (vT w1) (runF w1)) H := hP
        have hD : va_D A ([kO o 4 [.ref rg, .ref pg, .ref rr, .ref sp, .ref ot, .ref wo, .int (nI ho), .int (nI un)], kGd G rg 12 (oA 12 ra), kGd G pg 12 (oA 12 pa), kH G rr 2 (oR e0 e1), kGd G e0 (vT w0) (oA (vT w0) qa), kGd G e1 (vT w1) (oA (vT w1) qb), kC G sp 2 (nR (w2 (vS w0) (vS w1))), kC G ot 2 (nR (w2 (vO w0) (vO w1))), kC G wo 8 (nR (updN bf ((vC w0 0 + b) % 8) ((bf ((vC w0 0 + b) % 8)) - 1)))] ++ sT G ra pa qa qb (rugF (knW w0 bf) w1) (planF w0 w1) (vT w0) (runF w0) (vT w1) (runF w1)) := hD
        have hbf : updN bf ((vC w0 0 + b) % 8) (bf ((vC w0 0 + b) % 8) - 1) = takeB bf (vC w0 0) := takeB_t hb8 hby
        rw [hbf] at hP hD
        have hP : va_P G.1 vwCl ([kO o 4 [.ref rg, .ref pg, .ref rr, .ref sp, .ref ot, .ref wo, .int (nI ho), .int (nI un)], kGd G rg 12 (oA 12 ra), kGd G pg 12 (oA 12 pa), kH G rr 2 (oR e0 e1), kGd G e0 (vT w0) (oA (vT w0) qa), kGd G e1 (vT w1) (oA (vT w1) qb), kC G sp 2 (nR (w2 (vS w0) (vS w1))), kC G ot 2 (nR (w2 (vO w0) (vO w1))), kC G wo 8 (nR (takeB bf (vC w0 0)))] ++ sT G ra pa qa qb (rugF (knW w0 bf) w1) (planF w0 w1) (vT w0) (runF w0) (vT w1) (runF w1)) H := hP
        have hD : va_D A ([kO o 4 [.ref rg, .ref pg, .ref rr, .ref sp, .ref ot, .ref wo, .int (nI ho), .int (nI un)], kGd G rg 12 (oA 12 ra), kGd G pg 12 (oA 12 pa), kH G rr 2 (oR e0 e1), kGd G e0 (vT w0) (oA (vT w0) qa), kGd G e1 (vT w1) (oA (vT w1) qb), kC G sp 2 (nR (w2 (vS w0) (vS w1))), kC G ot 2 (nR (w2 (vO w0) (vO w1))), kC G wo 8 (nR (takeB bf (vC w0 0)))] ++ sT G ra pa qa qb (rugF (knW w0 bf) w1) (planF w0 w1) (vT w0) (runF w0) (vT w1) (runF w1)) := hD
        refine lv_aload_n hx hb dX4_knot_78 rfl (lv_at hl 1 rfl) ?_
        refine va_get (D := G.1) (ci := 4) (v := .ref ot) (C := RX4) (T := TX4) (N := 8) hx hb hts hq_0 hown hK.1 hP 0 rfl rfl 4 (by decide) hq_4 (fun _ h9 => h9) rfl dX4_knot_79 ?_
        refine lv_iload_n hx hb dX4_knot_82 rfl (lv_at hl 2 rfl) ?_
        refine lv_dup2_11 hx hb dX4_knot_83 rfl rfl ?_
        have hi_15 : 0 < 2 := by omega
        refine va_iald (D := G.1) hx hb hK.1 hP 7 0 rfl rfl (vp_in_nI hi_15 (by omega)) dX4_knot_84 ?_
        refine lv_topi (fun y_16 hy_16 => ?_)
        obtain rfl : y_16 = nI ((w2 (vO w0) (vO w1)) 0) := hy_16.trans (nR_at (by omega))
        refine lv_topi (fun y_17 hy_17 => ?_)
        obtain rfl : y_17 = nI (vO w0) := hy_17.trans (rfl)
        refine lv_iload_n hx hb dX4_knot_85 rfl (lv_at hl 4 rfl) ?_
        refine lv_iload_n hx hb dX4_knot_86 rfl (lv_at hl 3 rfl) ?_
        refine lv_icmp_ne (tgt := 94) hx hb dX4_knot_87 (by decide) (fun c_87 => ?_) (fun c_87 => ?_)
        · have c_87 : ¬ (((vC w0 0 + b) % 8) = (vC w0 0)) := fun h9 => c_87 ((nI_eq (a := ((vC w0 0 + b) % 8)) (b := (vC w0 0)) (by omega) (by omega)).mpr h9)
          refine lv_iconst (v := nI 1) hx hb dX4_knot_94 (by decide) ?_
          refine lv_iadd hx hb dX4_knot_95 ?_
          refine lv_topi (fun y_18 hy_18 => ?_)
          obtain rfl : y_18 = nI ((vO w0) + 1) := hy_18.trans (nI_add (vO w0) 1)
          have hi_19 : 0 < 2 := by omega
          refine va_iast (D := G.1) hx hb hK.1 hP hD hS 7 0 rfl rfl (vp_in_nI hi_19 (by omega)) dX4_knot_96 (fun H locs hP hD hS => ?_)
          rw [nR_upd (f := (w2 (vO w0) (vO w1))) (k := 0) (v := ((vO w0) + 1)) (by omega)] at hP hD
          rw [w2_0] at hP hD
          have hP : va_P G.1 vwCl ([kO o 4 [.ref rg, .ref pg, .ref rr, .ref sp, .ref ot, .ref wo, .int (nI ho), .int (nI un)], kGd G rg 12 (oA 12 ra), kGd G pg 12 (oA 12 pa), kH G rr 2 (oR e0 e1), kGd G e0 (vT w0) (oA (vT w0) qa), kGd G e1 (vT w1) (oA (vT w1) qb), kC G sp 2 (nR (w2 (vS w0) (vS w1))), kC G ot 2 (nR (w2 ((vO w0) + 1) (vO w1))), kC G wo 8 (nR (takeB bf (vC w0 0)))] ++ sT G ra pa qa qb (rugF (knW w0 bf) w1) (planF w0 w1) (vT w0) (runF w0) (vT w1) (runF w1)) H := hP
          have hD : va_D A ([kO o 4 [.ref rg, .ref pg, .ref rr, .ref sp, .ref ot, .ref wo, .int (nI ho), .int (nI un)], kGd G rg 12 (oA 12 ra), kGd G pg 12 (oA 12 pa), kH G rr 2 (oR e0 e1), kGd G e0 (vT w0) (oA (vT w0) qa), kGd G e1 (vT w1) (oA (vT w1) qb), kC G sp 2 (nR (w2 (vS w0) (vS w1))), kC G ot 2 (nR (w2 ((vO w0) + 1) (vO w1))), kC G wo 8 (nR (takeB bf (vC w0 0)))] ++ sT G ra pa qa qb (rugF (knW w0 bf) w1) (planF w0 w1) (vT w0) (runF w0) (vT w1) (runF w1)) := hD
          have hvo : vO w0 + 1 = vO (knW w0 bf) := knO_f (by omega)
          rw [hvo] at hP hD
          have hP : va_P G.1 vwCl ([kO o 4 [.ref rg, .ref pg, .ref rr, .ref sp, .ref ot, .ref wo, .int (nI ho), .int (nI un)], kGd G rg 12 (oA 12 ra), kGd G pg 12 (oA 12 pa), kH G rr 2 (oR e0 e1), kGd G e0 (vT w0) (oA (vT w0) qa), kGd G e1 (vT w1) (oA (vT w1) qb), kC G sp 2 (nR (w2 (vS w0) (vS w1))), kC G ot 2 (nR (w2 (vO (knW w0 bf)) (vO w1))), kC G wo 8 (nR (takeB bf (vC w0 0)))] ++ sT G ra pa qa qb (rugF (knW w0 bf) w1) (planF w0 w1) (vT w0) (runF w0) (vT w1) (runF w1)) H := hP
          have hD : va_D A ([kO o 4 [.ref rg, .ref pg, .ref rr, .ref sp, .ref ot, .ref wo, .int (nI ho), .int (nI un)], kGd G rg 12 (oA 12 ra), kGd G pg 12 (oA 12 pa), kH G rr 2 (oR e0 e1), kGd G e0 (vT w0) (oA (vT w0) qa), kGd G e1 (vT w1) (oA (vT w1) qb), kC G sp 2 (nR (w2 (vS w0) (vS w1))), kC G ot 2 (nR (w2 (vO (knW w0 bf)) (vO w1))), kC G wo 8 (nR (takeB bf (vC w0 0)))] ++ sT G ra pa qa qb (rugF (knW w0 bf) w1) (planF w0 w1) (vT w0) (runF w0) (vT w1) (runF w1)) := hD
          refine lv_aload_n hx hb dX4_knot_97 rfl (lv_at hl 1 rfl) ?_
          refine va_get (D := G.1) (ci := 4) (v := .ref rr) (C := RX4) (T := TX4) (N := 8) hx hb hts hq_0 hown hK.1 hP 0 rfl rfl 2 (by decide) hq_1 (fun _ h9 => h9) rfl dX4_knot_98 ?_
          refine lv_iload_n hx hb dX4_knot_101 rfl (lv_at hl 2 rfl) ?_
          refine k_ald3 hx hb hK hP 3 0 rfl (vp_in_nI (n := 0) (by decide) (by decide)) (by decide) rfl dX4_knot_102 ?_
          refine lv_iconst (v := nI 0) hx hb dX4_knot_103 (by decide) ?_
          have hi_20 : 0 < (vT w0) := by omega
          refine k_aldg hx hb hK hP 4 0 rfl (vp_in_nI hi_20 (by omega)) (nI_clamp (Nat.lt_of_lt_of_le hi_20 (by omega))) (oA_at hi_20) dX4_knot_104 ?_
          refine lv_iconst (v := nI 1) hx hb dX4_knot_105 (by decide) ?_
          refine lv_dup2_11 hx hb dX4_knot_106 rfl rfl ?_
          have hi_21 : 1 < 2 := by omega
          refine va_iald (D := G.1) hx hb hK.1 hP _ 0 (sT_a (i := 0) (by omega)) rfl (vp_in_nI hi_21 (by omega)) dX4_knot_107 ?_
          refine lv_topi (fun y_22 hy_22 => ?_)
          obtain rfl : y_22 = (runF w0) 0 1 := hy_22.trans (congrArg _ (nI_clamp (by omega)))
          refine lv_topi (fun y_23 hy_23 => ?_)
          obtain rfl : y_23 = nI (vN w0 0) := hy_23.trans (rfl)
          refine lv_iconst (v := nI 1) hx hb dX4_knot_108 (by decide) ?_
          refine lv_isub hx hb dX4_knot_109 ?_
          refine lv_topi (fun y_24 hy_24 => ?_)
          obtain rfl : y_24 = nI ((vN w0 0) - 1) := hy_24.trans (pk_sub (a := (vN w0 0)) (b := 1) (by omega))
          have hi_25 : 1 < 2 := by omega
          refine va_iast (D := G.1) hx hb hK.1 hP hD hS _ 0 (sT_a (i := 0) (by omega)) rfl (vp_in_nI hi_25 (by omega)) dX4_knot_110 (fun H locs hP hD hS => ?_)
          rw [nI_clamp (n := 1) (by omega), sT_as (by omega)] at hP hD
          have hP : va_P G.1 vwCl ([kO o 4 [.ref rg, .ref pg, .ref rr, .ref sp, .ref ot, .ref wo, .int (nI ho), .int (nI un)], kGd G rg 12 (oA 12 ra), kGd G pg 12 (oA 12 pa), kH G rr 2 (oR e0 e1), kGd G e0 (vT w0) (oA (vT w0) qa), kGd G e1 (vT w1) (oA (vT w1) qb), kC G sp 2 (nR (w2 (vS w0) (vS w1))), kC G ot 2 (nR (w2 (vO (knW w0 bf)) (vO w1))), kC G wo 8 (nR (takeB bf (vC w0 0)))] ++ sT G ra pa qa qb (rugF (knW w0 bf) w1) (planF w0 w1) (vT w0) (updR (runF w0) 0 1 (nI ((vN w0 0) - 1))) (vT w1) (runF w1)) H := hP
          have hD : va_D A ([kO o 4 [.ref rg, .ref pg, .ref rr, .ref sp, .ref ot, .ref wo, .int (nI ho), .int (nI un)], kGd G rg 12 (oA 12 ra), kGd G pg 12 (oA 12 pa), kH G rr 2 (oR e0 e1), kGd G e0 (vT w0) (oA (vT w0) qa), kGd G e1 (vT w1) (oA (vT w1) qb), kC G sp 2 (nR (w2 (vS w0) (vS w1))), kC G ot 2 (nR (w2 (vO (knW w0 bf)) (vO w1))), kC G wo 8 (nR (takeB bf (vC w0 0)))] ++ sT G ra pa qa qb (rugF (knW w0 bf) w1) (planF w0 w1) (vT w0) (updR (runF w0) 0 1 (nI ((vN w0 0) - 1))) (vT w1) (runF w1)) := hD
          refine lv_aload_n hx hb dX4_knot_111 rfl (lv_at hl 1 rfl) ?_
          refine va_get (D := G.1) (ci := 4) (v := .ref rr) (C := RX4) (T := TX4) (N := 8) hx hb hts hq_0 hown hK.1 hP 0 rfl rfl 2 (by decide) hq_1 (fun _ h9 => h9) rfl dX4_knot_112 ?_
          refine lv_iload_n hx hb dX4_knot_115 rfl (lv_at hl 2 rfl) ?_
          refine k_ald3 hx hb hK hP 3 0 rfl (vp_in_nI (n := 0) (by decide) (by decide)) (by decide) rfl dX4_knot_116 ?_
          refine lv_iconst (v := nI 0) hx hb dX4_knot_117 (by decide) ?_
          have hi_26 : 0 < (vT w0) := by omega
          refine k_aldg hx hb hK hP 4 0 rfl (vp_in_nI hi_26 (by omega)) (nI_clamp (Nat.lt_of_lt_of_le hi_26 (by omega))) (oA_at hi_26) dX4_knot_118 ?_
          refine lv_iconst (v := nI 1) hx hb dX4_knot_119 (by decide) ?_
          have hi_27 : 1 < 2 := by omega
          refine va_iald (D := G.1) hx hb hK.1 hP _ 0 (sT_a (i := 0) (by omega)) rfl (vp_in_nI hi_27 (by omega)) dX4_knot_120 ?_
          refine lv_topi (fun y_28 hy_28 => ?_)
          obtain rfl : y_28 = (updR (runF w0) 0 1 (nI ((vN w0 0) - 1))) 0 1 := hy_28.trans (congrArg _ (nI_clamp (by omega)))
          refine lv_topi (fun y_29 hy_29 => ?_)
          obtain rfl : y_29 = nI (vN w0 0 - 1) := hy_29.trans (updR_at)
          refine lv_if_le (tgt := 126) hx hb dX4_knot_121 (by decide) (fun c_121 => ?_) (fun c_121 => ?_)
          · have c_121 : (vN w0 0 - 1) = 0 := (k_le0 (a := (vN w0 0 - 1)) (by omega)).mp c_121
            have hn1 : vN w0 0 = 1 := by omega
            refine lv_aload_n hx hb dX4_knot_126 rfl (lv_at hl 1 rfl) ?_
            refine va_get (D := G.1) (ci := 4) (v := .ref rr) (C := RX4) (T := TX4) (N := 8) hx hb hts hq_0 hown hK.1 hP 0 rfl rfl 2 (by decide) hq_1 (fun _ h9 => h9) rfl dX4_knot_127 ?_
            refine lv_iload_n hx hb dX4_knot_130 rfl (lv_at hl 2 rfl) ?_
            refine k_ald3 hx hb hK hP 3 0 rfl (vp_in_nI (n := 0) (by decide) (by decide)) (by decide) rfl dX4_knot_131 ?_
            refine va_alen (D := G.1) (v := nI (vT w0)) hx hb hK.1 hP 4 2 rfl rfl rfl dX4_knot_132 ?_
            refine lv_iconst (v := nI 1) hx hb dX4_knot_133 (by decide) ?_
            refine lv_isub hx hb dX4_knot_134 ?_
            refine lv_topi (fun y_30 hy_30 => ?_)
            obtain rfl : y_30 = nI ((vT w0) - 1) := hy_30.trans (pk_sub (a := (vT w0)) (b := 1) (by omega))
            refine k_newg hx hb hown hq_5 hK hP hD hS hA (N' := ((vT w0) - 1)) (nI_pos (by omega)) (nI_clamp (by omega)) (by omega) (Nat.le_of_ble_eq_true rfl) (by show 0 + ((vT w0) - 1) ≤ _; exact Nat.le_trans (by omega) (show 20 ≤ _ from Nat.le_of_ble_eq_true rfl)) dX4_knot_135 (fun g_135 H hP hD hS => ?_)
            refine W.widen (k := 1) (n := 20) (by show 1 ≤ 1; omega) (by show 0 + ((vT w0) - 1) ≤ 20; omega) ?_
            rw [oA_0 (a := fun j => qa (j + 1))] at hP hD
            have hP := va_P.swap (a := [kO o 4 [.ref rg, .ref pg, .ref rr, .ref sp, .ref ot, .ref wo, .int (nI ho), .int (nI un)], kGd G rg 12 (oA 12 ra), kGd G pg 12 (oA 12 pa), kH G rr 2 (oR e0 e1), kGd G e0 (vT w0) (oA (vT w0) qa), kGd G e1 (vT w1) (oA (vT w1) qb), kC G sp 2 (nR (w2 (vS w0) (vS w1))), kC G ot 2 (nR (w2 (vO (knW w0 bf)) (vO w1))), kC G wo 8 (nR (takeB bf (vC w0 0)))]) (b := sT G ra pa qa qb (rugF (knW w0 bf) w1) (planF w0 w1) (vT w0) (updR (runF w0) 0 1 (nI ((vN w0 0) - 1))) (vT w1) (runF w1)) (c := [kGd G g_135 ((vT w0) - 1) (oA 0 (fun j => qa (j + 1)))]) hP
            have hD := va_D.swap (a := [kO o 4 [.ref rg, .ref pg, .ref rr, .ref sp, .ref ot, .ref wo, .int (nI ho), .int (nI un)], kGd G rg 12 (oA 12 ra), kGd G pg 12 (oA 12 pa), kH G rr 2 (oR e0 e1), kGd G e0 (vT w0) (oA (vT w0) qa), kGd G e1 (vT w1) (oA (vT w1) qb), kC G sp 2 (nR (w2 (vS w0) (vS w1))), kC G ot 2 (nR (w2 (vO (knW w0 bf)) (vO w1))), kC G wo 8 (nR (takeB bf (vC w0 0)))]) (b := sT G ra pa qa qb (rugF (knW w0 bf) w1) (planF w0 w1) (vT w0) (updR (runF w0) 0 1 (nI ((vN w0 0) - 1))) (vT w1) (runF w1)) (c := [kGd G g_135 ((vT w0) - 1) (oA 0 (fun j => qa (j + 1)))]) hD
            have hP : va_P G.1 vwCl ([kO o 4 [.ref rg, .ref pg, .ref rr, .ref sp, .ref ot, .ref wo, .int (nI ho), .int (nI un)], kGd G rg 12 (oA 12 ra), kGd G pg 12 (oA 12 pa), kH G rr 2 (oR e0 e1), kGd G e0 (vT w0) (oA (vT w0) qa), kGd G e1 (vT w1) (oA (vT w1) qb), kC G sp 2 (nR (w2 (vS w0) (vS w1))), kC G ot 2 (nR (w2 (vO (knW w0 bf)) (vO w1))), kC G wo 8 (nR (takeB bf (vC w0 0))), kGd G g_135 ((vT w0) - 1) (oA 0 (fun j => qa (j + 1)))] ++ sT G ra pa qa qb (rugF (knW w0 bf) w1) (planF w0 w1) (vT w0) (updR (runF w0) 0 1 (nI ((vN w0 0) - 1))) (vT w1) (runF w1)) H := hP
            have hD : va_D A ([kO o 4 [.ref rg, .ref pg, .ref rr, .ref sp, .ref ot, .ref wo, .int (nI ho), .int (nI un)], kGd G rg 12 (oA 12 ra), kGd G pg 12 (oA 12 pa), kH G rr 2 (oR e0 e1), kGd G e0 (vT w0) (oA (vT w0) qa), kGd G e1 (vT w1) (oA (vT w1) qb), kC G sp 2 (nR (w2 (vS w0) (vS w1))), kC G ot 2 (nR (w2 (vO (knW w0 bf)) (vO w1))), kC G wo 8 (nR (takeB bf (vC w0 0))), kGd G g_135 ((vT w0) - 1) (oA 0 (fun j => qa (j + 1)))] ++ sT G ra pa qa qb (rugF (knW w0 bf) w1) (planF w0 w1) (vT w0) (updR (runF w0) 0 1 (nI ((vN w0 0) - 1))) (vT w1) (runF w1)) := hD
            refine lv_astore (lv' := [(5, .ref g_135), (4, .int (nI (vM w0))), (0, .ref o), (1, .int (nI 0)), (2, .int (nI (vC w0 0))), (3, .int (nI ((vC w0 0 + b) % 8)))]) hx hb dX4_knot_138 hl (by decide) rfl (fun ls hl => ?_)
            refine lv_iconst (v := nI 0) hx hb dX4_knot_140 (by decide) ?_
            refine lv_istore (lv' := [(6, .int (nI 0)), (5, .ref g_135), (4, .int (nI (vM w0))), (0, .ref o), (1, .int (nI 0)), (2, .int (nI (vC w0 0))), (3, .int (nI ((vC w0 0 + b) % 8)))]) hx hb dX4_knot_141 hl (by decide) rfl (fun ls hl => ?_)
            have loop_143 : ∀ (fu_143 : Nat) (i : Nat), i ≤ vT w0 - 1 → vT w0 - 1 < i + fu_143 → ∀ (H : Heap) (locs : List Loc) (ls : Array Slot), va_P G.1 vwCl ([kO o 4 [.ref rg, .ref pg, .ref rr, .ref sp, .ref ot, .ref wo, .int (nI ho), .int (nI un)], kGd G rg 12 (oA 12 ra), kGd G pg 12 (oA 12 pa), kH G rr 2 (oR e0 e1), kGd G e0 (vT w0) (oA (vT w0) qa), kGd G e1 (vT w1) (oA (vT w1) qb), kC G sp 2 (nR (w2 (vS w0) (vS w1))), kC G ot 2 (nR (w2 (vO (knW w0 bf)) (vO w1))), kC G wo 8 (nR (takeB bf (vC w0 0))), kGd G g_135 (vT w0 - 1) (oA i (fun j => qa (j + 1)))] ++ sT G ra pa qa qb (rugF (knW w0 bf) w1) (planF w0 w1) (vT w0) (updR (runF w0) 0 1 (nI ((vN w0 0) - 1))) (vT w1) (runF w1)) H → va_D A ([kO o 4 [.ref rg, .ref pg, .ref rr, .ref sp, .ref ot, .ref wo, .int (nI ho), .int (nI un)], kGd G rg 12 (oA 12 ra), kGd G pg 12 (oA 12 pa), kH G rr 2 (oR e0 e1), kGd G e0 (vT w0) (oA (vT w0) qa), kGd G e1 (vT w1) (oA (vT w1) qb), kC G sp 2 (nR (w2 (vS w0) (vS w1))), kC G ot 2 (nR (w2 (vO (knW w0 bf)) (vO w1))), kC G wo 8 (nR (takeB bf (vC w0 0))), kGd G g_135 (vT w0 - 1) (oA i (fun j => qa (j + 1)))] ++ sT G ra pa qa qb (rugF (knW w0 bf) w1) (planF w0 w1) (vT w0) (updR (runF w0) 0 1 (nI ((vN w0 0) - 1))) (vT w1) (runF w1)) → va_S A s.heap H locs → lv_has ls 7 [(0, .ref o), (1, .int (nI 0)), (5, .ref g_135), (6, .int (nI i))] → W p l e ({ frames := 2, cells := 1, slots := 20, locals := 43 } : Room) s m args below meth c H locs 1 20 Qs (F0 m 143 ls []) := by
              intro fu_143
              induction fu_143 with
              | zero =>
                intro i hi hf2
                exact absurd hf2 (by omega)
              | succ fu_143 ih_143 =>
                intro i hi hf2 H locs ls hP hD hS hl
                refine lv_iload hx hb dX4_knot_143 (lv_at hl 3 rfl) ?_
                refine lv_aload hx hb dX4_knot_145 (lv_at hl 2 rfl) ?_
                refine va_alen (D := G.1) (v := nI (vT w0 - 1)) hx hb hK.1 hP 9 2 rfl rfl rfl dX4_knot_147 ?_
                refine lv_icmp_ge (tgt := 173) hx hb dX4_knot_148 (by decide) (fun c_148 => ?_) (fun c_148 => ?_)
                · have c_148 : (vT w0 - 1) ≤ i := (nI_leI (a := (vT w0 - 1)) (b := i) (by omega) (by omega)).mp c_148
                  have hi9 : i = vT w0 - 1 := by omega
                  subst hi9
                  have hP : va_P G.1 vwCl ([kO o 4 [.ref rg, .ref pg, .ref rr, .ref sp, .ref ot, .ref wo, .int (nI ho), .int (nI un)], kGd G rg 12 (oA 12 ra), kGd G pg 12 (oA 12 pa), kH G rr 2 (oR e0 e1), kGd G e0 (vT w0) (oA (vT w0) qa), kGd G e1 (vT w1) (oA (vT w1) qb), kC G sp 2 (nR (w2 (vS w0) (vS w1))), kC G ot 2 (nR (w2 (vO (knW w0 bf)) (vO w1))), kC G wo 8 (nR (takeB bf (vC w0 0))), kGd G g_135 (vT w0 - 1) (oA (vT w0 - 1) (fun j => qa (j + 1)))] ++ sT G ra pa qa qb (rugF (knW w0 bf) w1) (planF w0 w1) (vT w0) (updR (runF w0) 0 1 (nI ((vN w0 0) - 1))) (vT w1) (runF w1)) H := hP
                  have hD : va_D A ([kO o 4 [.ref rg, .ref pg, .ref rr, .ref sp, .ref ot, .ref wo, .int (nI ho), .int (nI un)], kGd G rg 12 (oA 12 ra), kGd G pg 12 (oA 12 pa), kH G rr 2 (oR e0 e1), kGd G e0 (vT w0) (oA (vT w0) qa), kGd G e1 (vT w1) (oA (vT w1) qb), kC G sp 2 (nR (w2 (vS w0) (vS w1))), kC G ot 2 (nR (w2 (vO (knW w0 bf)) (vO w1))), kC G wo 8 (nR (takeB bf (vC w0 0))), kGd G g_135 (vT w0 - 1) (oA (vT w0 - 1) (fun j => qa (j + 1)))] ++ sT G ra pa qa qb (rugF (knW w0 bf) w1) (planF w0 w1) (vT w0) (updR (runF w0) 0 1 (nI ((vN w0 0) - 1))) (vT w1) (runF w1)) := hD
                  refine lv_aload_n hx hb dX4_knot_173 rfl (lv_at hl 0 rfl) ?_
                  refine va_get (D := G.1) (ci := 4) (v := .ref rr) (C := RX4) (T := TX4) (N := 8) hx hb hts hq_0 hown hK.1 hP 0 rfl rfl 2 (by decide) hq_1 (fun _ h9 => h9) rfl dX4_knot_174 ?_
                  refine lv_iload_n hx hb dX4_knot_177 rfl (lv_at hl 1 rfl) ?_
                  refine lv_aload hx hb dX4_knot_178 (lv_at hl 2 rfl) ?_
                  refine k_ast3 hx hb hK hP hD hS 3 9 0 rfl rfl (vp_in_nI (n := 0) (by decide) (by decide)) (by decide) dX4_knot_180 (fun H locs hP hD hS => ?_)
                  rw [oR_0] at hP hD
                  have hP : va_P G.1 vwCl ([kO o 4 [.ref rg, .ref pg, .ref rr, .ref sp, .ref ot, .ref wo, .int (nI ho), .int (nI un)], kGd G rg 12 (oA 12 ra), kGd G pg 12 (oA 12 pa), kH G rr 2 (oR g_135 e1), kGd G e0 (vT w0) (oA (vT w0) qa), kGd G e1 (vT w1) (oA (vT w1) qb), kC G sp 2 (nR (w2 (vS w0) (vS w1))), kC G ot 2 (nR (w2 (vO (knW w0 bf)) (vO w1))), kC G wo 8 (nR (takeB bf (vC w0 0))), kGd G g_135 (vT w0 - 1) (oA (vT w0 - 1) (fun j => qa (j + 1)))] ++ sT G ra pa qa qb (rugF (knW w0 bf) w1) (planF w0 w1) (vT w0) (updR (runF w0) 0 1 (nI ((vN w0 0) - 1))) (vT w1) (runF w1)) H := hP
                  have hD : va_D A ([kO o 4 [.ref rg, .ref pg, .ref rr, .ref sp, .ref ot, .ref wo, .int (nI ho), .int (nI un)], kGd G rg 12 (oA 12 ra), kGd G pg 12 (oA 12 pa), kH G rr 2 (oR g_135 e1), kGd G e0 (vT w0) (oA (vT w0) qa), kGd G e1 (vT w1) (oA (vT w1) qb), kC G sp 2 (nR (w2 (vS w0) (vS w1))), kC G ot 2 (nR (w2 (vO (knW w0 bf)) (vO w1))), kC G wo 8 (nR (takeB bf (vC w0 0))), kGd G g_135 (vT w0 - 1) (oA (vT w0 - 1) (fun j => qa (j + 1)))] ++ sT G ra pa qa qb (rugF (knW w0 bf) w1) (planF w0 w1) (vT w0) (updR (runF w0) 0 1 (nI ((vN w0 0) - 1))) (vT w1) (runF w1)) := hD
                  refine lv_iconst (v := nI 1) hx hb dX4_knot_181 (by decide) ?_
                  have hP : va_P G.1 vwCl ([kO o 4 [.ref rg, .ref pg, .ref rr, .ref sp, .ref ot, .ref wo, .int (nI ho), .int (nI un)], kGd G rg 12 (oA 12 ra), kGd G pg 12 (oA 12 pa), kH G rr 2 (oR g_135 e1), kGd G g_135 (vT w0 - 1) (oA (vT w0 - 1) (fun j => qa (j + 1))), kGd G e1 (vT w1) (oA (vT w1) qb), kC G sp 2 (nR (w2 (vS w0) (vS w1))), kC G ot 2 (nR (w2 (vO (knW w0 bf)) (vO w1))), kC G wo 8 (nR (takeB bf (vC w0 0)))] ++ sT G ra pa qa qb (rugF (knW w0 bf) w1) (planF w0 w1) (vT w0) (updR (runF w0) 0 1 (nI ((vN w0 0) - 1))) (vT w1) (runF w1)) H := kP_x hP [0, 1, 2, 3, 9, 5, 6, 7, 8] rfl
                  have hD : va_D A ([kO o 4 [.ref rg, .ref pg, .ref rr, .ref sp, .ref ot, .ref wo, .int (nI ho), .int (nI un)], kGd G rg 12 (oA 12 ra), kGd G pg 12 (oA 12 pa), kH G rr 2 (oR g_135 e1), kGd G g_135 (vT w0 - 1) (oA (vT w0 - 1) (fun j => qa (j + 1))), kGd G e1 (vT w1) (oA (vT w1) qb), kC G sp 2 (nR (w2 (vS w0) (vS w1))), kC G ot 2 (nR (w2 (vO (knW w0 bf)) (vO w1))), kC G wo 8 (nR (takeB bf (vC w0 0)))] ++ sT G ra pa qa qb (rugF (knW w0 bf) w1) (planF w0 w1) (vT w0) (updR (runF w0) 0 1 (nI ((vN w0 0) - 1))) (vT w1) (runF w1)) := kD_x hD [0, 1, 2, 3, 9, 5, 6, 7, 8] rfl rfl
                  have hP := kP_of hP (fun z9 hz9 => (sT_dropA).subset hz9)
                  have hD := kD_subl hD sT_dropA
                  rw [tail_D0 (B := bf) hn1, plan_knot0 (B := bf), ← knT_D (B := bf) hn1] at hP hD
                  exact k_zret (ws := ([kO o 4 [.ref rg, .ref pg, .ref rr, .ref sp, .ref ot, .ref wo, .int (nI ho), .int (nI un)], kGd G rg 12 (oA 12 ra), kGd G pg 12 (oA 12 pa), kH G rr 2 (oR e0 e1), kGd G e0 (vT w0) (oA (vT w0) qa), kGd G e1 (vT w1) (oA (vT w1) qb), kC G sp 2 (nR (w2 (vS w0) (vS w1))), kC G ot 2 (nR (w2 (vO w0) (vO w1))), kC G wo 8 (nR bf)] ++ sT G ra pa qa qb (rugF w0 w1) (planF w0 w1) (vT w0) (runF w0) (vT w1) (runF w1))) ((((knW w0 bf), takeB bf (vC w0 0)), (g_135, fun i => qa (i + 1)))) hx hb hr rfl hlocks hP hD hS hAe hQ (Nat.le_of_ble_eq_true rfl) (Nat.le_of_ble_eq_true rfl) dX4_knot_182 (rfl) (Or.inl ⟨rfl, by omega, rfl⟩)
                · have c_148 : ¬ ((vT w0 - 1) ≤ i) := fun h9 => c_148 ((nI_leI (a := (vT w0 - 1)) (b := i) (by omega) (by omega)).mpr h9)
                  refine lv_aload hx hb dX4_knot_151 (lv_at hl 2 rfl) ?_
                  refine lv_iload hx hb dX4_knot_153 (lv_at hl 3 rfl) ?_
                  refine lv_aload_n hx hb dX4_knot_155 rfl (lv_at hl 0 rfl) ?_
                  refine va_get (D := G.1) (ci := 4) (v := .ref rr) (C := RX4) (T := TX4) (N := 8) hx hb hts hq_0 hown hK.1 hP 0 rfl rfl 2 (by decide) hq_1 (fun _ h9 => h9) rfl dX4_knot_156 ?_
                  refine lv_iload_n hx hb dX4_knot_159 rfl (lv_at hl 1 rfl) ?_
                  refine k_ald3 hx hb hK hP 3 0 rfl (vp_in_nI (n := 0) (by decide) (by decide)) (by decide) rfl dX4_knot_160 ?_
                  refine lv_iload hx hb dX4_knot_161 (lv_at hl 3 rfl) ?_
                  refine lv_iconst (v := nI 1) hx hb dX4_knot_163 (by decide) ?_
                  refine lv_iadd hx hb dX4_knot_164 ?_
                  refine lv_topi (fun y_31 hy_31 => ?_)
                  obtain rfl : y_31 = nI (i + 1) := hy_31.trans (nI_add i 1)
                  have hi_32 : (i + 1) < (vT w0) := by omega
                  refine k_aldg hx hb hK hP 4 (i + 1) rfl (vp_in_nI hi_32 (by omega)) (nI_clamp (Nat.lt_of_lt_of_le hi_32 (by omega))) (oA_at hi_32) dX4_knot_165 ?_
                  have hi_33 : i < (vT w0 - 1) := by omega
                  refine k_astg hx hb hK hP hD hS 9 _ i rfl (sT_a (i := (i + 1)) (by omega)) (vp_in_nI hi_33 (by omega)) (nI_clamp (by omega)) dX4_knot_166 (fun H locs hP hD hS => ?_)
                  rw [oA_up1 (a := fun j => qa (j + 1))] at hP hD
                  have hP : va_P G.1 vwCl ([kO o 4 [.ref rg, .ref pg, .ref rr, .ref sp, .ref ot, .ref wo, .int (nI ho), .int (nI un)], kGd G rg 12 (oA 12 ra), kGd G pg 12 (oA 12 pa), kH G rr 2 (oR e0 e1), kGd G e0 (vT w0) (oA (vT w0) qa), kGd G e1 (vT w1) (oA (vT w1) qb), kC G sp 2 (nR (w2 (vS w0) (vS w1))), kC G ot 2 (nR (w2 (vO (knW w0 bf)) (vO w1))), kC G wo 8 (nR (takeB bf (vC w0 0))), kGd G g_135 (vT w0 - 1) (oA (i + 1) (fun j => qa (j + 1)))] ++ sT G ra pa qa qb (rugF (knW w0 bf) w1) (planF w0 w1) (vT w0) (updR (runF w0) 0 1 (nI ((vN w0 0) - 1))) (vT w1) (runF w1)) H := hP
                  have hD : va_D A ([kO o 4 [.ref rg, .ref pg, .ref rr, .ref sp, .ref ot, .ref wo, .int (nI ho), .int (nI un)], kGd G rg 12 (oA 12 ra), kGd G pg 12 (oA 12 pa), kH G rr 2 (oR e0 e1), kGd G e0 (vT w0) (oA (vT w0) qa), kGd G e1 (vT w1) (oA (vT w1) qb), kC G sp 2 (nR (w2 (vS w0) (vS w1))), kC G ot 2 (nR (w2 (vO (knW w0 bf)) (vO w1))), kC G wo 8 (nR (takeB bf (vC w0 0))), kGd G g_135 (vT w0 - 1) (oA (i + 1) (fun j => qa (j + 1)))] ++ sT G ra pa qa qb (rugF (knW w0 bf) w1) (planF w0 w1) (vT w0) (updR (runF w0) 0 1 (nI ((vN w0 0) - 1))) (vT w1) (runF w1)) := hD
                  refine lv_iinc (v := nI (i + 1)) (lv' := [(6, .int (nI (i + 1))), (0, .ref o), (1, .int (nI 0)), (5, .ref g_135)]) hx hb dX4_knot_167 hl (k := 3) rfl (nI_add i 1) (by decide) rfl (fun ls hl => ?_)
                  refine lv_goto (tgt := 143) hx hb dX4_knot_170 (by decide) ?_
                  exact ih_143 (i + 1) (by omega) (by omega) _ _ _ hP hD hS (lv_sub hl [1, 2, 3, 0] rfl)
            exact loop_143 (vT w0) 0 (by omega) (by omega) H locs ls hP hD hS (lv_sub hl [3, 4, 1, 0] rfl)
          · have c_121 : ¬ ((vN w0 0 - 1) = 0) := fun h9 => c_121 ((k_le0 (a := (vN w0 0 - 1)) (by omega)).mpr h9)
            have hn1 : ¬ vN w0 0 = 1 := by omega
            refine lv_iconst (v := nI 1) hx hb dX4_knot_124 (by decide) ?_
            rw [runF_knotS (B := bf) hn1, plan_knot0 (B := bf), ← knT_S (B := bf) hn1] at hP hD
            exact k_zret (ws := ([kO o 4 [.ref rg, .ref pg, .ref rr, .ref sp, .ref ot, .ref wo, .int (nI ho), .int (nI un)], kGd G rg 12 (oA 12 ra), kGd G pg 12 (oA 12 pa), kH G rr 2 (oR e0 e1), kGd G e0 (vT w0) (oA (vT w0) qa), kGd G e1 (vT w1) (oA (vT w1) qb), kC G sp 2 (nR (w2 (vS w0) (vS w1))), kC G ot 2 (nR (w2 (vO w0) (vO w1))), kC G wo 8 (nR bf)] ++ sT G ra pa qa qb (rugF w0 w1) (planF w0 w1) (vT w0) (runF w0) (vT w1) (runF w1))) ((((knW w0 bf), takeB bf (vC w0 0)), (e0, qa))) hx hb hr rfl hlocks hP hD hS hAe hQ (Nat.le_of_ble_eq_true rfl) (Nat.le_of_ble_eq_true rfl) dX4_knot_125 (rfl) (Or.inl ⟨rfl, by omega, rfl⟩)
        · have c_87 : ((vC w0 0 + b) % 8) = (vC w0 0) := (nI_eq (a := ((vC w0 0 + b) % 8)) (b := (vC w0 0)) (by omega) (by omega)).mp c_87
          refine lv_iconst (v := nI 0) hx hb dX4_knot_90 (by decide) ?_
          refine lv_goto (tgt := 95) hx hb dX4_knot_91 (by decide) ?_
          refine lv_iadd hx hb dX4_knot_95 ?_
          refine lv_topi (fun y_34 hy_34 => ?_)
          obtain rfl : y_34 = nI ((vO w0) + 0) := hy_34.trans (nI_add (vO w0) 0)
          have hi_35 : 0 < 2 := by omega
          refine va_iast (D := G.1) hx hb hK.1 hP hD hS 7 0 rfl rfl (vp_in_nI hi_35 (by omega)) dX4_knot_96 (fun H locs hP hD hS => ?_)
          rw [nR_upd (f := (w2 (vO w0) (vO w1))) (k := 0) (v := ((vO w0) + 0)) (by omega)] at hP hD
          rw [w2_0] at hP hD
          have hP : va_P G.1 vwCl ([kO o 4 [.ref rg, .ref pg, .ref rr, .ref sp, .ref ot, .ref wo, .int (nI ho), .int (nI un)], kGd G rg 12 (oA 12 ra), kGd G pg 12 (oA 12 pa), kH G rr 2 (oR e0 e1), kGd G e0 (vT w0) (oA (vT w0) qa), kGd G e1 (vT w1) (oA (vT w1) qb), kC G sp 2 (nR (w2 (vS w0) (vS w1))), kC G ot 2 (nR (w2 ((vO w0) + 0) (vO w1))), kC G wo 8 (nR (takeB bf (vC w0 0)))] ++ sT G ra pa qa qb (rugF (knW w0 bf) w1) (planF w0 w1) (vT w0) (runF w0) (vT w1) (runF w1)) H := hP
          have hD : va_D A ([kO o 4 [.ref rg, .ref pg, .ref rr, .ref sp, .ref ot, .ref wo, .int (nI ho), .int (nI un)], kGd G rg 12 (oA 12 ra), kGd G pg 12 (oA 12 pa), kH G rr 2 (oR e0 e1), kGd G e0 (vT w0) (oA (vT w0) qa), kGd G e1 (vT w1) (oA (vT w1) qb), kC G sp 2 (nR (w2 (vS w0) (vS w1))), kC G ot 2 (nR (w2 ((vO w0) + 0) (vO w1))), kC G wo 8 (nR (takeB bf (vC w0 0)))] ++ sT G ra pa qa qb (rugF (knW w0 bf) w1) (planF w0 w1) (vT w0) (runF w0) (vT w1) (runF w1)) := hD
          have hvo : vO w0 + 0 = vO (knW w0 bf) := knO_t (by omega)
          rw [hvo] at hP hD
          have hP : va_P G.1 vwCl ([kO o 4 [.ref rg, .ref pg, .ref rr, .ref sp, .ref ot, .ref wo, .int (nI ho), .int (nI un)], kGd G rg 12 (oA 12 ra), kGd G pg 12 (oA 12 pa), kH G rr 2 (oR e0 e1), kGd G e0 (vT w0) (oA (vT w0) qa), kGd G e1 (vT w1) (oA (vT w1) qb), kC G sp 2 (nR (w2 (vS w0) (vS w1))), kC G ot 2 (nR (w2 (vO (knW w0 bf)) (vO w1))), kC G wo 8 (nR (takeB bf (vC w0 0)))] ++ sT G ra pa qa qb (rugF (knW w0 bf) w1) (planF w0 w1) (vT w0) (runF w0) (vT w1) (runF w1)) H := hP
          have hD : va_D A ([kO o 4 [.ref rg, .ref pg, .ref rr, .ref sp, .ref ot, .ref wo, .int (nI ho), .int (nI un)], kGd G rg 12 (oA 12 ra), kGd G pg 12 (oA 12 pa), kH G rr 2 (oR e0 e1), kGd G e0 (vT w0) (oA (vT w0) qa), kGd G e1 (vT w1) (oA (vT w1) qb), kC G sp 2 (nR (w2 (vS w0) (vS w1))), kC G ot 2 (nR (w2 (vO (knW w0 bf)) (vO w1))), kC G wo 8 (nR (takeB bf (vC w0 0)))] ++ sT G ra pa qa qb (rugF (knW w0 bf) w1) (planF w0 w1) (vT w0) (runF w0) (vT w1) (runF w1)) := hD
          refine lv_aload_n hx hb dX4_knot_97 rfl (lv_at hl 1 rfl) ?_
          refine va_get (D := G.1) (ci := 4) (v := .ref rr) (C := RX4) (T := TX4) (N := 8) hx hb hts hq_0 hown hK.1 hP 0 rfl rfl 2 (by decide) hq_1 (fun _ h9 => h9) rfl dX4_knot_98 ?_
          refine lv_iload_n hx hb dX4_knot_101 rfl (lv_at hl 2 rfl) ?_
          refine k_ald3 hx hb hK hP 3 0 rfl (vp_in_nI (n := 0) (by decide) (by decide)) (by decide) rfl dX4_knot_102 ?_
          refine lv_iconst (v := nI 0) hx hb dX4_knot_103 (by decide) ?_
          have hi_36 : 0 < (vT w0) := by omega
          refine k_aldg hx hb hK hP 4 0 rfl (vp_in_nI hi_36 (by omega)) (nI_clamp (Nat.lt_of_lt_of_le hi_36 (by omega))) (oA_at hi_36) dX4_knot_104 ?_
          refine lv_iconst (v := nI 1) hx hb dX4_knot_105 (by decide) ?_
          refine lv_dup2_11 hx hb dX4_knot_106 rfl rfl ?_
          have hi_37 : 1 < 2 := by omega
          refine va_iald (D := G.1) hx hb hK.1 hP _ 0 (sT_a (i := 0) (by omega)) rfl (vp_in_nI hi_37 (by omega)) dX4_knot_107 ?_
          refine lv_topi (fun y_38 hy_38 => ?_)
          obtain rfl : y_38 = (runF w0) 0 1 := hy_38.trans (congrArg _ (nI_clamp (by omega)))
          refine lv_topi (fun y_39 hy_39 => ?_)
          obtain rfl : y_39 = nI (vN w0 0) := hy_39.trans (rfl)
          refine lv_iconst (v := nI 1) hx hb dX4_knot_108 (by decide) ?_
          refine lv_isub hx hb dX4_knot_109 ?_
          refine lv_topi (fun y_40 hy_40 => ?_)
          obtain rfl : y_40 = nI ((vN w0 0) - 1) := hy_40.trans (pk_sub (a := (vN w0 0)) (b := 1) (by omega))
          have hi_41 : 1 < 2 := by omega
          refine va_iast (D := G.1) hx hb hK.1 hP hD hS _ 0 (sT_a (i := 0) (by omega)) rfl (vp_in_nI hi_41 (by omega)) dX4_knot_110 (fun H locs hP hD hS => ?_)
          rw [nI_clamp (n := 1) (by omega), sT_as (by omega)] at hP hD
          have hP : va_P G.1 vwCl ([kO o 4 [.ref rg, .ref pg, .ref rr, .ref sp, .ref ot, .ref wo, .int (nI ho), .int (nI un)], kGd G rg 12 (oA 12 ra), kGd G pg 12 (oA 12 pa), kH G rr 2 (oR e0 e1), kGd G e0 (vT w0) (oA (vT w0) qa), kGd G e1 (vT w1) (oA (vT w1) qb), kC G sp 2 (nR (w2 (vS w0) (vS w1))), kC G ot 2 (nR (w2 (vO (knW w0 bf)) (vO w1))), kC G wo 8 (nR (takeB bf (vC w0 0)))] ++ sT G ra pa qa qb (rugF (knW w0 bf) w1) (planF w0 w1) (vT w0) (updR (runF w0) 0 1 (nI ((vN w0 0) - 1))) (vT w1) (runF w1)) H := hP
          have hD : va_D A ([kO o 4 [.ref rg, .ref pg, .ref rr, .ref sp, .ref ot, .ref wo, .int (nI ho), .int (nI un)], kGd G rg 12 (oA 12 ra), kGd G pg 12 (oA 12 pa), kH G rr 2 (oR e0 e1), kGd G e0 (vT w0) (oA (vT w0) qa), kGd G e1 (vT w1) (oA (vT w1) qb), kC G sp 2 (nR (w2 (vS w0) (vS w1))), kC G ot 2 (nR (w2 (vO (knW w0 bf)) (vO w1))), kC G wo 8 (nR (takeB bf (vC w0 0)))] ++ sT G ra pa qa qb (rugF (knW w0 bf) w1) (planF w0 w1) (vT w0) (updR (runF w0) 0 1 (nI ((vN w0 0) - 1))) (vT w1) (runF w1)) := hD
          refine lv_aload_n hx hb dX4_knot_111 rfl (lv_at hl 1 rfl) ?_
          refine va_get (D := G.1) (ci := 4) (v := .ref rr) (C := RX4) (T := TX4) (N := 8) hx hb hts hq_0 hown hK.1 hP 0 rfl rfl 2 (by decide) hq_1 (fun _ h9 => h9) rfl dX4_knot_112 ?_
          refine lv_iload_n hx hb dX4_knot_115 rfl (lv_at hl 2 rfl) ?_
          refine k_ald3 hx hb hK hP 3 0 rfl (vp_in_nI (n := 0) (by decide) (by decide)) (by decide) rfl dX4_knot_116 ?_
          refine lv_iconst (v := nI 0) hx hb dX4_knot_117 (by decide) ?_
          have hi_42 : 0 < (vT w0) := by omega
          refine k_aldg hx hb hK hP 4 0 rfl (vp_in_nI hi_42 (by omega)) (nI_clamp (Nat.lt_of_lt_of_le hi_42 (by omega))) (oA_at hi_42) dX4_knot_118 ?_
          refine lv_iconst (v := nI 1) hx hb dX4_knot_119 (by decide) ?_
          have hi_43 : 1 < 2 := by omega
          refine va_iald (D := G.1) hx hb hK.1 hP _ 0 (sT_a (i := 0) (by omega)) rfl (vp_in_nI hi_43 (by omega)) dX4_knot_120 ?_
          refine lv_topi (fun y_44 hy_44 => ?_)
          obtain rfl : y_44 = (updR (runF w0) 0 1 (nI ((vN w0 0) - 1))) 0 1 := hy_44.trans (congrArg _ (nI_clamp (by omega)))
          refine lv_topi (fun y_45 hy_45 => ?_)
          obtain rfl : y_45 = nI (vN w0 0 - 1) := hy_45.trans (updR_at)
          refine lv_if_le (tgt := 126) hx hb dX4_knot_121 (by decide) (fun c_121 => ?_) (fun c_121 => ?_)
          · have c_121 : (vN w0 0 - 1) = 0 := (k_le0 (a := (vN w0 0 - 1)) (by omega)).mp c_121
            have hn1 : vN w0 0 = 1 := by omega
            refine lv_aload_n hx hb dX4_knot_126 rfl (lv_at hl 1 rfl) ?_
            refine va_get (D := G.1) (ci := 4) (v := .ref rr) (C := RX4) (T := TX4) (N := 8) hx hb hts hq_0 hown hK.1 hP 0 rfl rfl 2 (by decide) hq_1 (fun _ h9 => h9) rfl dX4_knot_127 ?_
            refine lv_iload_n hx hb dX4_knot_130 rfl (lv_at hl 2 rfl) ?_
            refine k_ald3 hx hb hK hP 3 0 rfl (vp_in_nI (n := 0) (by decide) (by decide)) (by decide) rfl dX4_knot_131 ?_
            refine va_alen (D := G.1) (v := nI (vT w0)) hx hb hK.1 hP 4 2 rfl rfl rfl dX4_knot_132 ?_
            refine lv_iconst (v := nI 1) hx hb dX4_knot_133 (by decide) ?_
            refine lv_isub hx hb dX4_knot_134 ?_
            refine lv_topi (fun y_46 hy_46 => ?_)
            obtain rfl : y_46 = nI ((vT w0) - 1) := hy_46.trans (pk_sub (a := (vT w0)) (b := 1) (by omega))
            refine k_newg hx hb hown hq_5 hK hP hD hS hA (N' := ((vT w0) - 1)) (nI_pos (by omega)) (nI_clamp (by omega)) (by omega) (Nat.le_of_ble_eq_true rfl) (by show 0 + ((vT w0) - 1) ≤ _; exact Nat.le_trans (by omega) (show 20 ≤ _ from Nat.le_of_ble_eq_true rfl)) dX4_knot_135 (fun g_135 H hP hD hS => ?_)
            refine W.widen (k := 1) (n := 20) (by show 1 ≤ 1; omega) (by show 0 + ((vT w0) - 1) ≤ 20; omega) ?_
            rw [oA_0 (a := fun j => qa (j + 1))] at hP hD
            have hP := va_P.swap (a := [kO o 4 [.ref rg, .ref pg, .ref rr, .ref sp, .ref ot, .ref wo, .int (nI ho), .int (nI un)], kGd G rg 12 (oA 12 ra), kGd G pg 12 (oA 12 pa), kH G rr 2 (oR e0 e1), kGd G e0 (vT w0) (oA (vT w0) qa), kGd G e1 (vT w1) (oA (vT w1) qb), kC G sp 2 (nR (w2 (vS w0) (vS w1))), kC G ot 2 (nR (w2 (vO (knW w0 bf)) (vO w1))), kC G wo 8 (nR (takeB bf (vC w0 0)))]) (b := sT G ra pa qa qb (rugF (knW w0 bf) w1) (planF w0 w1) (vT w0) (updR (runF w0) 0 1 (nI ((vN w0 0) - 1))) (vT w1) (runF w1)) (c := [kGd G g_135 ((vT w0) - 1) (oA 0 (fun j => qa (j + 1)))]) hP
            have hD := va_D.swap (a := [kO o 4 [.ref rg, .ref pg, .ref rr, .ref sp, .ref ot, .ref wo, .int (nI ho), .int (nI un)], kGd G rg 12 (oA 12 ra), kGd G pg 12 (oA 12 pa), kH G rr 2 (oR e0 e1), kGd G e0 (vT w0) (oA (vT w0) qa), kGd G e1 (vT w1) (oA (vT w1) qb), kC G sp 2 (nR (w2 (vS w0) (vS w1))), kC G ot 2 (nR (w2 (vO (knW w0 bf)) (vO w1))), kC G wo 8 (nR (takeB bf (vC w0 0)))]) (b := sT G ra pa qa qb (rugF (knW w0 bf) w1) (planF w0 w1) (vT w0) (updR (runF w0) 0 1 (nI ((vN w0 0) - 1))) (vT w1) (runF w1)) (c := [kGd G g_135 ((vT w0) - 1) (oA 0 (fun j => qa (j + 1)))]) hD
            have hP : va_P G.1 vwCl ([kO o 4 [.ref rg, .ref pg, .ref rr, .ref sp, .ref ot, .ref wo, .int (nI ho), .int (nI un)], kGd G rg 12 (oA 12 ra), kGd G pg 12 (oA 12 pa), kH G rr 2 (oR e0 e1), kGd G e0 (vT w0) (oA (vT w0) qa), kGd G e1 (vT w1) (oA (vT w1) qb), kC G sp 2 (nR (w2 (vS w0) (vS w1))), kC G ot 2 (nR (w2 (vO (knW w0 bf)) (vO w1))), kC G wo 8 (nR (takeB bf (vC w0 0))), kGd G g_135 ((vT w0) - 1) (oA 0 (fun j => qa (j + 1)))] ++ sT G ra pa qa qb (rugF (knW w0 bf) w1) (planF w0 w1) (vT w0) (updR (runF w0) 0 1 (nI ((vN w0 0) - 1))) (vT w1) (runF w1)) H := hP
            have hD : va_D A ([kO o 4 [.ref rg, .ref pg, .ref rr, .ref sp, .ref ot, .ref wo, .int (nI ho), .int (nI un)], kGd G rg 12 (oA 12 ra), kGd G pg 12 (oA 12 pa), kH G rr 2 (oR e0 e1), kGd G e0 (vT w0) (oA (vT w0) qa), kGd G e1 (vT w1) (oA (vT w1) qb), kC G sp 2 (nR (w2 (vS w0) (vS w1))), kC G ot 2 (nR (w2 (vO (knW w0 bf)) (vO w1))), kC G wo 8 (nR (takeB bf (vC w0 0))), kGd G g_135 ((vT w0) - 1) (oA 0 (fun j => qa (j + 1)))] ++ sT G ra pa qa qb (rugF (knW w0 bf) w1) (planF w0 w1) (vT w0) (updR (runF w0) 0 1 (nI ((vN w0 0) - 1))) (vT w1) (runF w1)) := hD
            refine lv_astore (lv' := [(5, .ref g_135), (4, .int (nI (vM w0))), (0, .ref o), (1, .int (nI 0)), (2, .int (nI (vC w0 0))), (3, .int (nI ((vC w0 0 + b) % 8)))]) hx hb dX4_knot_138 hl (by decide) rfl (fun ls hl => ?_)
            refine lv_iconst (v := nI 0) hx hb dX4_knot_140 (by decide) ?_
            refine lv_istore (lv' := [(6, .int (nI 0)), (5, .ref g_135), (4, .int (nI (vM w0))), (0, .ref o), (1, .int (nI 0)), (2, .int (nI (vC w0 0))), (3, .int (nI ((vC w0 0 + b) % 8)))]) hx hb dX4_knot_141 hl (by decide) rfl (fun ls hl => ?_)
            have loop_143 : ∀ (fu_143 : Nat) (i : Nat), i ≤ vT w0 - 1 → vT w0 - 1 < i + fu_143 → ∀ (H : Heap) (locs : List Loc) (ls : Array Slot), va_P G.1 vwCl ([kO o 4 [.ref rg, .ref pg, .ref rr, .ref sp, .ref ot, .ref wo, .int (nI ho), .int (nI un)], kGd G rg 12 (oA 12 ra), kGd G pg 12 (oA 12 pa), kH G rr 2 (oR e0 e1), kGd G e0 (vT w0) (oA (vT w0) qa), kGd G e1 (vT w1) (oA (vT w1) qb), kC G sp 2 (nR (w2 (vS w0) (vS w1))), kC G ot 2 (nR (w2 (vO (knW w0 bf)) (vO w1))), kC G wo 8 (nR (takeB bf (vC w0 0))), kGd G g_135 (vT w0 - 1) (oA i (fun j => qa (j + 1)))] ++ sT G ra pa qa qb (rugF (knW w0 bf) w1) (planF w0 w1) (vT w0) (updR (runF w0) 0 1 (nI ((vN w0 0) - 1))) (vT w1) (runF w1)) H → va_D A ([kO o 4 [.ref rg, .ref pg, .ref rr, .ref sp, .ref ot, .ref wo, .int (nI ho), .int (nI un)], kGd G rg 12 (oA 12 ra), kGd G pg 12 (oA 12 pa), kH G rr 2 (oR e0 e1), kGd G e0 (vT w0) (oA (vT w0) qa), kGd G e1 (vT w1) (oA (vT w1) qb), kC G sp 2 (nR (w2 (vS w0) (vS w1))), kC G ot 2 (nR (w2 (vO (knW w0 bf)) (vO w1))), kC G wo 8 (nR (takeB bf (vC w0 0))), kGd G g_135 (vT w0 - 1) (oA i (fun j => qa (j + 1)))] ++ sT G ra pa qa qb (rugF (knW w0 bf) w1) (planF w0 w1) (vT w0) (updR (runF w0) 0 1 (nI ((vN w0 0) - 1))) (vT w1) (runF w1)) → va_S A s.heap H locs → lv_has ls 7 [(0, .ref o), (1, .int (nI 0)), (5, .ref g_135), (6, .int (nI i))] → W p l e ({ frames := 2, cells := 1, slots := 20, locals := 43 } : Room) s m args below meth c H locs 1 20 Qs (F0 m 143 ls []) := by
              intro fu_143
              induction fu_143 with
              | zero =>
                intro i hi hf2
                exact absurd hf2 (by omega)
              | succ fu_143 ih_143 =>
                intro i hi hf2 H locs ls hP hD hS hl
                refine lv_iload hx hb dX4_knot_143 (lv_at hl 3 rfl) ?_
                refine lv_aload hx hb dX4_knot_145 (lv_at hl 2 rfl) ?_
                refine va_alen (D := G.1) (v := nI (vT w0 - 1)) hx hb hK.1 hP 9 2 rfl rfl rfl dX4_knot_147 ?_
                refine lv_icmp_ge (tgt := 173) hx hb dX4_knot_148 (by decide) (fun c_148 => ?_) (fun c_148 => ?_)
                · have c_148 : (vT w0 - 1) ≤ i := (nI_leI (a := (vT w0 - 1)) (b := i) (by omega) (by omega)).mp c_148
                  have hi9 : i = vT w0 - 1 := by omega
                  subst hi9
                  have hP : va_P G.1 vwCl ([kO o 4 [.ref rg, .ref pg, .ref rr, .ref sp, .ref ot, .ref wo, .int (nI ho), .int (nI un)], kGd G rg 12 (oA 12 ra), kGd G pg 12 (oA 12 pa), kH G rr 2 (oR e0 e1), kGd G e0 (vT w0) (oA (vT w0) qa), kGd G e1 (vT w1) (oA (vT w1) qb), kC G sp 2 (nR (w2 (vS w0) (vS w1))), kC G ot 2 (nR (w2 (vO (knW w0 bf)) (vO w1))), kC G wo 8 (nR (takeB bf (vC w0 0))), kGd G g_135 (vT w0 - 1) (oA (vT w0 - 1) (fun j => qa (j + 1)))] ++ sT G ra pa qa qb (rugF (knW w0 bf) w1) (planF w0 w1) (vT w0) (updR (runF w0) 0 1 (nI ((vN w0 0) - 1))) (vT w1) (runF w1)) H := hP
                  have hD : va_D A ([kO o 4 [.ref rg, .ref pg, .ref rr, .ref sp, .ref ot, .ref wo, .int (nI ho), .int (nI un)], kGd G rg 12 (oA 12 ra), kGd G pg 12 (oA 12 pa), kH G rr 2 (oR e0 e1), kGd G e0 (vT w0) (oA (vT w0) qa), kGd G e1 (vT w1) (oA (vT w1) qb), kC G sp 2 (nR (w2 (vS w0) (vS w1))), kC G ot 2 (nR (w2 (vO (knW w0 bf)) (vO w1))), kC G wo 8 (nR (takeB bf (vC w0 0))), kGd G g_135 (vT w0 - 1) (oA (vT w0 - 1) (fun j => qa (j + 1)))] ++ sT G ra pa qa qb (rugF (knW w0 bf) w1) (planF w0 w1) (vT w0) (updR (runF w0) 0 1 (nI ((vN w0 0) - 1))) (vT w1) (runF w1)) := hD
                  refine lv_aload_n hx hb dX4_knot_173 rfl (lv_at hl 0 rfl) ?_
                  refine va_get (D := G.1) (ci := 4) (v := .ref rr) (C := RX4) (T := TX4) (N := 8) hx hb hts hq_0 hown hK.1 hP 0 rfl rfl 2 (by decide) hq_1 (fun _ h9 => h9) rfl dX4_knot_174 ?_
                  refine lv_iload_n hx hb dX4_knot_177 rfl (lv_at hl 1 rfl) ?_
                  refine lv_aload hx hb dX4_knot_178 (lv_at hl 2 rfl) ?_
                  refine k_ast3 hx hb hK hP hD hS 3 9 0 rfl rfl (vp_in_nI (n := 0) (by decide) (by decide)) (by decide) dX4_knot_180 (fun H locs hP hD hS => ?_)
                  rw [oR_0] at hP hD
                  have hP : va_P G.1 vwCl ([kO o 4 [.ref rg, .ref pg, .ref rr, .ref sp, .ref ot, .ref wo, .int (nI ho), .int (nI un)], kGd G rg 12 (oA 12 ra), kGd G pg 12 (oA 12 pa), kH G rr 2 (oR g_135 e1), kGd G e0 (vT w0) (oA (vT w0) qa), kGd G e1 (vT w1) (oA (vT w1) qb), kC G sp 2 (nR (w2 (vS w0) (vS w1))), kC G ot 2 (nR (w2 (vO (knW w0 bf)) (vO w1))), kC G wo 8 (nR (takeB bf (vC w0 0))), kGd G g_135 (vT w0 - 1) (oA (vT w0 - 1) (fun j => qa (j + 1)))] ++ sT G ra pa qa qb (rugF (knW w0 bf) w1) (planF w0 w1) (vT w0) (updR (runF w0) 0 1 (nI ((vN w0 0) - 1))) (vT w1) (runF w1)) H := hP
                  have hD : va_D A ([kO o 4 [.ref rg, .ref pg, .ref rr, .ref sp, .ref ot, .ref wo, .int (nI ho), .int (nI un)], kGd G rg 12 (oA 12 ra), kGd G pg 12 (oA 12 pa), kH G rr 2 (oR g_135 e1), kGd G e0 (vT w0) (oA (vT w0) qa), kGd G e1 (vT w1) (oA (vT w1) qb), kC G sp 2 (nR (w2 (vS w0) (vS w1))), kC G ot 2 (nR (w2 (vO (knW w0 bf)) (vO w1))), kC G wo 8 (nR (takeB bf (vC w0 0))), kGd G g_135 (vT w0 - 1) (oA (vT w0 - 1) (fun j => qa (j + 1)))] ++ sT G ra pa qa qb (rugF (knW w0 bf) w1) (planF w0 w1) (vT w0) (updR (runF w0) 0 1 (nI ((vN w0 0) - 1))) (vT w1) (runF w1)) := hD
                  refine lv_iconst (v := nI 1) hx hb dX4_knot_181 (by decide) ?_
                  have hP : va_P G.1 vwCl ([kO o 4 [.ref rg, .ref pg, .ref rr, .ref sp, .ref ot, .ref wo, .int (nI ho), .int (nI un)], kGd G rg 12 (oA 12 ra), kGd G pg 12 (oA 12 pa), kH G rr 2 (oR g_135 e1), kGd G g_135 (vT w0 - 1) (oA (vT w0 - 1) (fun j => qa (j + 1))), kGd G e1 (vT w1) (oA (vT w1) qb), kC G sp 2 (nR (w2 (vS w0) (vS w1))), kC G ot 2 (nR (w2 (vO (knW w0 bf)) (vO w1))), kC G wo 8 (nR (takeB bf (vC w0 0)))] ++ sT G ra pa qa qb (rugF (knW w0 bf) w1) (planF w0 w1) (vT w0) (updR (runF w0) 0 1 (nI ((vN w0 0) - 1))) (vT w1) (runF w1)) H := kP_x hP [0, 1, 2, 3, 9, 5, 6, 7, 8] rfl
                  have hD : va_D A ([kO o 4 [.ref rg, .ref pg, .ref rr, .ref sp, .ref ot, .ref wo, .int (nI ho), .int (nI un)], kGd G rg 12 (oA 12 ra), kGd G pg 12 (oA 12 pa), kH G rr 2 (oR g_135 e1), kGd G g_135 (vT w0 - 1) (oA (vT w0 - 1) (fun j => qa (j + 1))), kGd G e1 (vT w1) (oA (vT w1) qb), kC G sp 2 (nR (w2 (vS w0) (vS w1))), kC G ot 2 (nR (w2 (vO (knW w0 bf)) (vO w1))), kC G wo 8 (nR (takeB bf (vC w0 0)))] ++ sT G ra pa qa qb (rugF (knW w0 bf) w1) (planF w0 w1) (vT w0) (updR (runF w0) 0 1 (nI ((vN w0 0) - 1))) (vT w1) (runF w1)) := kD_x hD [0, 1, 2, 3, 9, 5, 6, 7, 8] rfl rfl
                  have hP := kP_of hP (fun z9 hz9 => (sT_dropA).subset hz9)
                  have hD := kD_subl hD sT_dropA
                  rw [tail_D0 (B := bf) hn1, plan_knot0 (B := bf), ← knT_D (B := bf) hn1] at hP hD
                  exact k_zret (ws := ([kO o 4 [.ref rg, .ref pg, .ref rr, .ref sp, .ref ot, .ref wo, .int (nI ho), .int (nI un)], kGd G rg 12 (oA 12 ra), kGd G pg 12 (oA 12 pa), kH G rr 2 (oR e0 e1), kGd G e0 (vT w0) (oA (vT w0) qa), kGd G e1 (vT w1) (oA (vT w1) qb), kC G sp 2 (nR (w2 (vS w0) (vS w1))), kC G ot 2 (nR (w2 (vO w0) (vO w1))), kC G wo 8 (nR bf)] ++ sT G ra pa qa qb (rugF w0 w1) (planF w0 w1) (vT w0) (runF w0) (vT w1) (runF w1))) ((((knW w0 bf), takeB bf (vC w0 0)), (g_135, fun i => qa (i + 1)))) hx hb hr rfl hlocks hP hD hS hAe hQ (Nat.le_of_ble_eq_true rfl) (Nat.le_of_ble_eq_true rfl) dX4_knot_182 (rfl) (Or.inl ⟨rfl, by omega, rfl⟩)
                · have c_148 : ¬ ((vT w0 - 1) ≤ i) := fun h9 => c_148 ((nI_leI (a := (vT w0 - 1)) (b := i) (by omega) (by omega)).mpr h9)
                  refine lv_aload hx hb dX4_knot_151 (lv_at hl 2 rfl) ?_
                  refine lv_iload hx hb dX4_knot_153 (lv_at hl 3 rfl) ?_
                  refine lv_aload_n hx hb dX4_knot_155 rfl (lv_at hl 0 rfl) ?_
                  refine va_get (D := G.1) (ci := 4) (v := .ref rr) (C := RX4) (T := TX4) (N := 8) hx hb hts hq_0 hown hK.1 hP 0 rfl rfl 2 (by decide) hq_1 (fun _ h9 => h9) rfl dX4_knot_156 ?_
                  refine lv_iload_n hx hb dX4_knot_159 rfl (lv_at hl 1 rfl) ?_
                  refine k_ald3 hx hb hK hP 3 0 rfl (vp_in_nI (n := 0) (by decide) (by decide)) (by decide) rfl dX4_knot_160 ?_
                  refine lv_iload hx hb dX4_knot_161 (lv_at hl 3 rfl) ?_
                  refine lv_iconst (v := nI 1) hx hb dX4_knot_163 (by decide) ?_
                  refine lv_iadd hx hb dX4_knot_164 ?_
                  refine lv_topi (fun y_47 hy_47 => ?_)
                  obtain rfl : y_47 = nI (i + 1) := hy_47.trans (nI_add i 1)
                  have hi_48 : (i + 1) < (vT w0) := by omega
                  refine k_aldg hx hb hK hP 4 (i + 1) rfl (vp_in_nI hi_48 (by omega)) (nI_clamp (Nat.lt_of_lt_of_le hi_48 (by omega))) (oA_at hi_48) dX4_knot_165 ?_
                  have hi_49 : i < (vT w0 - 1) := by omega
                  refine k_astg hx hb hK hP hD hS 9 _ i rfl (sT_a (i := (i + 1)) (by omega)) (vp_in_nI hi_49 (by omega)) (nI_clamp (by omega)) dX4_knot_166 (fun H locs hP hD hS => ?_)
                  rw [oA_up1 (a := fun j => qa (j + 1))] at hP hD
                  have hP : va_P G.1 vwCl ([kO o 4 [.ref rg, .ref pg, .ref rr, .ref sp, .ref ot, .ref wo, .int (nI ho), .int (nI un)], kGd G rg 12 (oA 12 ra), kGd G pg 12 (oA 12 pa), kH G rr 2 (oR e0 e1), kGd G e0 (vT w0) (oA (vT w0) qa), kGd G e1 (vT w1) (oA (vT w1) qb), kC G sp 2 (nR (w2 (vS w0) (vS w1))), kC G ot 2 (nR (w2 (vO (knW w0 bf)) (vO w1))), kC G wo 8 (nR (takeB bf (vC w0 0))), kGd G g_135 (vT w0 - 1) (oA (i + 1) (fun j => qa (j + 1)))] ++ sT G ra pa qa qb (rugF (knW w0 bf) w1) (planF w0 w1) (vT w0) (updR (runF w0) 0 1 (nI ((vN w0 0) - 1))) (vT w1) (runF w1)) H := hP
                  have hD : va_D A ([kO o 4 [.ref rg, .ref pg, .ref rr, .ref sp, .ref ot, .ref wo, .int (nI ho), .int (nI un)], kGd G rg 12 (oA 12 ra), kGd G pg 12 (oA 12 pa), kH G rr 2 (oR e0 e1), kGd G e0 (vT w0) (oA (vT w0) qa), kGd G e1 (vT w1) (oA (vT w1) qb), kC G sp 2 (nR (w2 (vS w0) (vS w1))), kC G ot 2 (nR (w2 (vO (knW w0 bf)) (vO w1))), kC G wo 8 (nR (takeB bf (vC w0 0))), kGd G g_135 (vT w0 - 1) (oA (i + 1) (fun j => qa (j + 1)))] ++ sT G ra pa qa qb (rugF (knW w0 bf) w1) (planF w0 w1) (vT w0) (updR (runF w0) 0 1 (nI ((vN w0 0) - 1))) (vT w1) (runF w1)) := hD
                  refine lv_iinc (v := nI (i + 1)) (lv' := [(6, .int (nI (i + 1))), (0, .ref o), (1, .int (nI 0)), (5, .ref g_135)]) hx hb dX4_knot_167 hl (k := 3) rfl (nI_add i 1) (by decide) rfl (fun ls hl => ?_)
                  refine lv_goto (tgt := 143) hx hb dX4_knot_170 (by decide) ?_
                  exact ih_143 (i + 1) (by omega) (by omega) _ _ _ hP hD hS (lv_sub hl [1, 2, 3, 0] rfl)
            exact loop_143 (vT w0) 0 (by omega) (by omega) H locs ls hP hD hS (lv_sub hl [3, 4, 1, 0] rfl)
          · have c_121 : ¬ ((vN w0 0 - 1) = 0) := fun h9 => c_121 ((k_le0 (a := (vN w0 0 - 1)) (by omega)).mpr h9)
            have hn1 : ¬ vN w0 0 = 1 := by omega
            refine lv_iconst (v := nI 1) hx hb dX4_knot_124 (by decide) ?_
            rw [runF_knotS (B := bf) hn1, plan_knot0 (B := bf), ← knT_S (B := bf) hn1] at hP hD
            exact k_zret (ws := ([kO o 4 [.ref rg, .ref pg, .ref rr, .ref sp, .ref ot, .ref wo, .int (nI ho), .int (nI un)], kGd G rg 12 (oA 12 ra), kGd G pg 12 (oA 12 pa), kH G rr 2 (oR e0 e1), kGd G e0 (vT w0) (oA (vT w0) qa), kGd G e1 (vT w1) (oA (vT w1) qb), kC G sp 2 (nR (w2 (vS w0) (vS w1))), kC G ot 2 (nR (w2 (vO w0) (vO w1))), kC G wo 8 (nR bf)] ++ sT G ra pa qa qb (rugF w0 w1) (planF w0 w1) (vT w0) (runF w0) (vT w1) (runF w1))) ((((knW w0 bf), takeB bf (vC w0 0)), (e0, qa))) hx hb hr rfl hlocks hP hD hS hAe hQ (Nat.le_of_ble_eq_true rfl) (Nat.le_of_ble_eq_true rfl) dX4_knot_125 (rfl) (Or.inl ⟨rfl, by omega, rfl⟩)
      · have c_19 : (bf ((vC w0 0 + b) % 8)) = 0 := (k_eq0 (a := (bf ((vC w0 0 + b) % 8))) (by omega)).mp c_19
        refine lv_iload_n hx hb dX4_knot_22 rfl (lv_at hl 3 rfl) ?_
        refine lv_bipush (v := nI 7) hx hb dX4_knot_23 (by decide) ?_
        refine lv_icmp_ne (tgt := 32) hx hb dX4_knot_25 (by decide) (fun c_25 => ?_) (fun c_25 => ?_)
        · have c_25 : ¬ (((vC w0 0 + b) % 8) = 7) := fun h9 => c_25 ((nI_eq (a := ((vC w0 0 + b) % 8)) (b := 7) (by omega) (by omega)).mpr h9)
          refine lv_iload_n hx hb dX4_knot_32 rfl (lv_at hl 3 rfl) ?_
          refine lv_iconst (v := nI 1) hx hb dX4_knot_33 (by decide) ?_
          refine lv_iadd hx hb dX4_knot_34 ?_
          refine lv_topi (fun y_50 hy_50 => ?_)
          obtain rfl : y_50 = nI ((vC w0 0 + (b + 1)) % 8) := hy_50.trans ((nI_add _ _).trans (congrArg nI (by omega)))
          refine lv_istore_n (lv' := [(3, .int (nI ((vC w0 0 + (b + 1)) % 8))), (0, .ref o), (1, .int (nI 0)), (2, .int (nI (vC w0 0)))]) hx hb dX4_knot_35 rfl hl (by decide) rfl (fun ls hl => ?_)
          refine lv_iload_n hx hb dX4_knot_36 rfl (lv_at hl 0 rfl) ?_
          refine lv_iload_n hx hb dX4_knot_37 rfl (lv_at hl 3 rfl) ?_
          refine lv_icmp_ne (tgt := 13) hx hb dX4_knot_38 (by decide) (fun c_38 => ?_) (fun c_38 => ?_)
          · have c_38 : ¬ (((vC w0 0 + (b + 1)) % 8) = (vC w0 0)) := fun h9 => c_38 ((nI_eq (a := ((vC w0 0 + (b + 1)) % 8)) (b := (vC w0 0)) (by omega) (by omega)).mpr h9)
            exact ih_13 (b + 1) (by omega) (tk_miss (by omega) hv c_19) (by omega) _ _ _ hP hD hS (lv_sub hl [1, 2, 3, 0] rfl)
          · have c_38 : ((vC w0 0 + (b + 1)) % 8) = (vC w0 0) := (nI_eq (a := ((vC w0 0 + (b + 1)) % 8)) (b := (vC w0 0)) (by omega) (by omega)).mp c_38
            have hb7 : b = 7 := by omega
            have hby8 : takeBy bf (vC w0 0) = 8 := tk_end (b := b + 1) (by omega) (tk_miss (by omega) hv c_19)
            refine lv_iconst (v := nI 0) hx hb dX4_knot_41 (by decide) ?_
            exact k_zret (ws := ([kO o 4 [.ref rg, .ref pg, .ref rr, .ref sp, .ref ot, .ref wo, .int (nI ho), .int (nI un)], kGd G rg 12 (oA 12 ra), kGd G pg 12 (oA 12 pa), kH G rr 2 (oR e0 e1), kGd G e0 (vT w0) (oA (vT w0) qa), kGd G e1 (vT w1) (oA (vT w1) qb), kC G sp 2 (nR (w2 (vS w0) (vS w1))), kC G ot 2 (nR (w2 (vO w0) (vO w1))), kC G wo 8 (nR bf)] ++ sT G ra pa qa qb (rugF w0 w1) (planF w0 w1) (vT w0) (runF w0) (vT w1) (runF w1))) (((w0, bf), (e0, qa))) hx hb hr rfl hlocks hP hD hS hAe hQ (Nat.le_of_ble_eq_true rfl) (Nat.le_of_ble_eq_true rfl) dX4_knot_42 (rfl) (Or.inr ⟨rfl, by omega, rfl⟩)
        · have c_25 : ((vC w0 0 + b) % 8) = 7 := (nI_eq (a := ((vC w0 0 + b) % 8)) (b := 7) (by omega) (by omega)).mp c_25
          refine lv_iconst (v := nI 0) hx hb dX4_knot_28 (by decide) ?_
          refine lv_goto (tgt := 35) hx hb dX4_knot_29 (by decide) ?_
          refine lv_topi (fun y_51 hy_51 => ?_)
          obtain rfl : y_51 = nI ((vC w0 0 + (b + 1)) % 8) := hy_51.trans (congrArg nI (by omega))
          refine lv_istore_n (lv' := [(3, .int (nI ((vC w0 0 + (b + 1)) % 8))), (0, .ref o), (1, .int (nI 0)), (2, .int (nI (vC w0 0)))]) hx hb dX4_knot_35 rfl hl (by decide) rfl (fun ls hl => ?_)
          refine lv_iload_n hx hb dX4_knot_36 rfl (lv_at hl 0 rfl) ?_
          refine lv_iload_n hx hb dX4_knot_37 rfl (lv_at hl 3 rfl) ?_
          refine lv_icmp_ne (tgt := 13) hx hb dX4_knot_38 (by decide) (fun c_38 => ?_) (fun c_38 => ?_)
          · have c_38 : ¬ (((vC w0 0 + (b + 1)) % 8) = (vC w0 0)) := fun h9 => c_38 ((nI_eq (a := ((vC w0 0 + (b + 1)) % 8)) (b := (vC w0 0)) (by omega) (by omega)).mpr h9)
            exact ih_13 (b + 1) (by omega) (tk_miss (by omega) hv c_19) (by omega) _ _ _ hP hD hS (lv_sub hl [1, 2, 3, 0] rfl)
          · have c_38 : ((vC w0 0 + (b + 1)) % 8) = (vC w0 0) := (nI_eq (a := ((vC w0 0 + (b + 1)) % 8)) (b := (vC w0 0)) (by omega) (by omega)).mp c_38
            have hb7 : b = 7 := by omega
            have hby8 : takeBy bf (vC w0 0) = 8 := tk_end (b := b + 1) (by omega) (tk_miss (by omega) hv c_19)
            refine lv_iconst (v := nI 0) hx hb dX4_knot_41 (by decide) ?_
            exact k_zret (ws := ([kO o 4 [.ref rg, .ref pg, .ref rr, .ref sp, .ref ot, .ref wo, .int (nI ho), .int (nI un)], kGd G rg 12 (oA 12 ra), kGd G pg 12 (oA 12 pa), kH G rr 2 (oR e0 e1), kGd G e0 (vT w0) (oA (vT w0) qa), kGd G e1 (vT w1) (oA (vT w1) qb), kC G sp 2 (nR (w2 (vS w0) (vS w1))), kC G ot 2 (nR (w2 (vO w0) (vO w1))), kC G wo 8 (nR bf)] ++ sT G ra pa qa qb (rugF w0 w1) (planF w0 w1) (vT w0) (runF w0) (vT w1) (runF w1))) (((w0, bf), (e0, qa))) hx hb hr rfl hlocks hP hD hS hAe hQ (Nat.le_of_ble_eq_true rfl) (Nat.le_of_ble_eq_true rfl) dX4_knot_42 (rfl) (Or.inr ⟨rfl, by omega, rfl⟩)
  exact loop_13 9 0 (by omega) rfl (by omega) H locs ls hP hD hS (lv_sub hl [2, 3, 1, 0] rfl)
set_option maxHeartbeats 4000000 in
set_option maxRecDepth 100000 in
theorem s_knot1 (l : Launch) (G : kG) (o : Nat) (rg : Nat) (pg : Nat) (rr : Nat) (e0 : Nat) (e1 : Nat) (sp : Nat) (ot : Nat) (wo : Nat) (ra : Nat → Nat) (pa : Nat → Nat) (qa : Nat → Nat) (qb : Nat → Nat) (w0 : Wv) (w1 : Wv) (bf : Nat → Nat) (ho : Nat) (un : Nat) (h0 : wOk w0) (h1 : wOk w1) (hB : bOk bf) (ht1 : 0 < vT w1) (hm : vM w1 < 60) : kM l G yX4_knot wsX4_knot ({ frames := 2, cells := 1, slots := 20, locals := 43 } : Room) [.ref o, .int (nI 1)] ([kO o 4 [.ref rg, .ref pg, .ref rr, .ref sp, .ref ot, .ref wo, .int (nI ho), .int (nI un)], kGd G rg 12 (oA 12 ra), kGd G pg 12 (oA 12 pa), kH G rr 2 (oR e0 e1), kGd G e0 (vT w0) (oA (vT w0) qa), kGd G e1 (vT w1) (oA (vT w1) qb), kC G sp 2 (nR (w2 (vS w0) (vS w1))), kC G ot 2 (nR (w2 (vO w0) (vO w1))), kC G wo 8 (nR bf)] ++ sT G ra pa qa qb (rugF w0 w1) (planF w0 w1) (vT w0) (runF w0) (vT w1) (runF w1)) (kQi G ([kO o 4 [.ref rg, .ref pg, .ref rr, .ref sp, .ref ot, .ref wo, .int (nI ho), .int (nI un)], kGd G rg 12 (oA 12 ra), kGd G pg 12 (oA 12 pa), kH G rr 2 (oR e0 e1), kGd G e0 (vT w0) (oA (vT w0) qa), kGd G e1 (vT w1) (oA (vT w1) qb), kC G sp 2 (nR (w2 (vS w0) (vS w1))), kC G ot 2 (nR (w2 (vO w0) (vO w1))), kC G wo 8 (nR bf)] ++ sT G ra pa qa qb (rugF w0 w1) (planF w0 w1) (vT w0) (runF w0) (vT w1) (runF w1)) (fun (r : Int32) (u : (Wv × (Nat → Nat)) × (Nat × (Nat → Nat))) => (r = nI 1 ∧ takeBy bf (vC w1 0) < 8 ∧ u.1 = ((knW w1 bf), takeB bf (vC w1 0))) ∨ (r = nI 0 ∧ ¬ takeBy bf (vC w1 0) < 8 ∧ u.1 = (w1, bf))) (fun (u : (Wv × (Nat → Nat)) × (Nat × (Nat → Nat))) => ([kO o 4 [.ref rg, .ref pg, .ref rr, .ref sp, .ref ot, .ref wo, .int (nI ho), .int (nI un)], kGd G rg 12 (oA 12 ra), kGd G pg 12 (oA 12 pa), kH G rr 2 (oR e0 u.2.1), kGd G e0 (vT w0) (oA (vT w0) qa), kGd G u.2.1 (vT u.1.1) (oA (vT u.1.1) u.2.2), kC G sp 2 (nR (w2 (vS w0) (vS u.1.1))), kC G ot 2 (nR (w2 (vO w0) (vO u.1.1))), kC G wo 8 (nR u.1.2)] ++ sT G ra pa qa u.2.2 (rugF w0 u.1.1) (planF w0 u.1.1) (vT w0) (runF w0) (vT u.1.1) (runF u.1.1)))) := by
  refine k_ofW (cc := cX4_knot) (maxL := 7) (rt := (some .boolean)) (by decide) rfl (Nat.le_of_ble_eq_true rfl) ?_
  intro p e s m args below meth c A ls Qs H locs hQ hAe hx hb hr hml hts hown hlocks hin hK hZ hP hD hS hA hl
  have hown : s.vm.findClass RX4 = some m.cls := hown
  have hl : lv_has ls 7 [(0, .ref o), (1, .int (nI 1))] := hl
  have m0b : vM w0 ≤ 60 := h0.2.2.2.1
  have m1b : vM w1 ≤ 60 := h1.2.2.2.1
  have t0b : vT w0 ≤ 20 := h0.2.2.1
  have t1b : vT w1 ≤ 20 := h1.2.2.1
  have pb0 : ∀ i, i < 60 → vP w0 i < 8 := h0.2.2.2.2.1
  have pb1 : ∀ i, i < 60 → vP w1 i < 8 := h1.2.2.2.2.1
  have kb0 : ∀ i, i < 60 → vK w0 i < 8 := h0.2.2.2.2.2.1
  have kb1 : ∀ i, i < 60 → vK w1 i < 8 := h1.2.2.2.2.2.1
  have cb0 : ∀ i, i < vT w0 → vC w0 i < 8 := h0.2.2.2.2.2.2.1
  have cb1 : ∀ i, i < vT w1 → vC w1 i < 8 := h1.2.2.2.2.2.2.1
  have nb0 : ∀ i, i < vT w0 → 1 ≤ vN w0 i ∧ vN w0 i ≤ 60 := h0.2.2.2.2.2.2.2
  have nb1 : ∀ i, i < vT w1 → 1 ≤ vN w1 i ∧ vN w1 i ≤ 60 := h1.2.2.2.2.2.2.2
  have sb0 : vS w0 ≤ 6 := h0.2.1
  have sb1 : vS w1 ≤ 6 := h1.2.1
  have hc0 : vC w1 0 < 8 := cb1 0 ht1
  have hn0 := nb1 0 ht1
  have hq_0 : ∀ w ∈ wsX40, w ∈ wsX4_knot := by decide +kernel
  have hq_1 : (Cond.fieldLink RX4 19 "KnotRugsLaw$Sim" "runs" "[[[I").before args s = true := hts _ (by decide +kernel)
  have hq_2 : (Cond.fieldLink RX4 29 "KnotRugsLaw$Sim" "wool" "[I").before args s = true := hts _ (by decide +kernel)
  have hq_3 : (Cond.fieldLink RX4 9 "KnotRugsLaw$Sim" "rug" "[[I").before args s = true := hts _ (by decide +kernel)
  have hq_4 : (Cond.fieldLink RX4 26 "KnotRugsLaw$Sim" "others" "[I").before args s = true := hts _ (by decide +kernel)
  have hq_5 : (Cond.classLink RX4 33 "[I").before args s = true := hts _ (by decide +kernel)
  refine lv_aload_n hx hb dX4_knot_0 rfl (lv_at hl 0 rfl) ?_
  refine va_get (D := G.1) (ci := 4) (v := .ref rr) (C := RX4) (T := TX4) (N := 8) hx hb hts hq_0 hown hK.1 hP 0 rfl rfl 2 (by decide) hq_1 (fun _ h9 => h9) rfl dX4_knot_1 ?_
  refine lv_iload_n hx hb dX4_knot_4 rfl (lv_at hl 1 rfl) ?_
  refine k_ald3 hx hb hK hP 3 1 rfl (vp_in_nI (n := 1) (by decide) (by decide)) (by decide) rfl dX4_knot_5 ?_
  refine lv_iconst (v := nI 0) hx hb dX4_knot_6 (by decide) ?_
  have hi_1 : 0 < (vT w1) := by omega
  refine k_aldg hx hb hK hP 5 0 rfl (vp_in_nI hi_1 (by omega)) (nI_clamp (Nat.lt_of_lt_of_le hi_1 (by omega))) (oA_at hi_1) dX4_knot_7 ?_
  refine lv_iconst (v := nI 0) hx hb dX4_knot_8 (by decide) ?_
  have hi_2 : 0 < 2 := by omega
  refine va_iald (D := G.1) hx hb hK.1 hP _ 0 (sT_b (i := 0) (by omega)) rfl (vp_in_nI hi_2 (by omega)) dX4_knot_9 ?_
  refine lv_topi (fun y_3 hy_3 => ?_)
  obtain rfl : y_3 = (runF w1) 0 0 := hy_3.trans (congrArg _ (nI_clamp (by omega)))
  refine lv_topi (fun y_4 hy_4 => ?_)
  obtain rfl : y_4 = nI (vC w1 0) := hy_4.trans (rfl)
  refine lv_istore_n (lv' := [(2, .int (nI (vC w1 0))), (0, .ref o), (1, .int (nI 1))]) hx hb dX4_knot_10 rfl hl (by decide) rfl (fun ls hl => ?_)
  refine lv_iload_n hx hb dX4_knot_11 rfl (lv_at hl 0 rfl) ?_
  refine lv_topi (fun y_5 hy_5 => ?_)
  obtain rfl : y_5 = nI ((vC w1 0 + 0) % 8) := hy_5.trans (congrArg nI (by omega))
  refine lv_istore_n (lv' := [(3, .int (nI ((vC w1 0 + 0) % 8))), (2, .int (nI (vC w1 0))), (0, .ref o), (1, .int (nI 1))]) hx hb dX4_knot_12 rfl hl (by decide) rfl (fun ls hl => ?_)
  have loop_13 : ∀ (fu_13 : Nat) (b : Nat), b < 8 → tkB bf (vC w1 0) (8 - b) b = takeBy bf (vC w1 0) → 8 < b + fu_13 → ∀ (H : Heap) (locs : List Loc) (ls : Array Slot), va_P G.1 vwCl ([kO o 4 [.ref rg, .ref pg, .ref rr, .ref sp, .ref ot, .ref wo, .int (nI ho), .int (nI un)], kGd G rg 12 (oA 12 ra), kGd G pg 12 (oA 12 pa), kH G rr 2 (oR e0 e1), kGd G e0 (vT w0) (oA (vT w0) qa), kGd G e1 (vT w1) (oA (vT w1) qb), kC G sp 2 (nR (w2 (vS w0) (vS w1))), kC G ot 2 (nR (w2 (vO w0) (vO w1))), kC G wo 8 (nR bf)] ++ sT G ra pa qa qb (rugF w0 w1) (planF w0 w1) (vT w0) (runF w0) (vT w1) (runF w1)) H → va_D A ([kO o 4 [.ref rg, .ref pg, .ref rr, .ref sp, .ref ot, .ref wo, .int (nI ho), .int (nI un)], kGd G rg 12 (oA 12 ra), kGd G pg 12 (oA 12 pa), kH G rr 2 (oR e0 e1), kGd G e0 (vT w0) (oA (vT w0) qa), kGd G e1 (vT w1) (oA (vT w1) qb), kC G sp 2 (nR (w2 (vS w0) (vS w1))), kC G ot 2 (nR (w2 (vO w0) (vO w1))), kC G wo 8 (nR bf)] ++ sT G ra pa qa qb (rugF w0 w1) (planF w0 w1) (vT w0) (runF w0) (vT w1) (runF w1)) → va_S A s.heap H locs → lv_has ls 7 [(0, .ref o), (1, .int (nI 1)), (2, .int (nI (vC w1 0))), (3, .int (nI ((vC w1 0 + b) % 8)))] → W p l e ({ frames := 2, cells := 1, slots := 20, locals := 43 } : Room) s m args below meth c H locs 0 0 Qs (F0 m 13 ls []) := by
    intro fu_13
    induction fu_13 with
    | zero =>
      intro b hb8 hv hf
      exact absurd hf (by omega)
    | succ fu_13 ih_13 =>
      intro b hb8 hv hf H locs ls hP hD hS hl
      have hcb8 : (vC w1 0 + b) % 8 < 8 := by omega
      have hbc8 : bf ((vC w1 0 + b) % 8) ≤ 200 := hB _ hcb8
      refine lv_aload_n hx hb dX4_knot_13 rfl (lv_at hl 0 rfl) ?_
      refine va_get (D := G.1) (ci := 4) (v := .ref wo) (C := RX4) (T := TX4) (N := 8) hx hb hts hq_0 hown hK.1 hP 0 rfl rfl 5 (by decide) hq_2 (fun _ h9 => h9) rfl dX4_knot_14 ?_
      refine lv_iload_n hx hb dX4_knot_17 rfl (lv_at hl 3 rfl) ?_
      have hi_6 : ((vC w1 0 + b) % 8) < 8 := by omega
      refine va_iald (D := G.1) hx hb hK.1 hP 8 0 rfl rfl (vp_in_nI hi_6 (by omega)) dX4_knot_18 ?_
      refine lv_topi (fun y_7 hy_7 => ?_)
      obtain rfl : y_7 = nI (bf ((vC w1 0 + b) % 8)) := hy_7.trans (nR_at (by omega))
      refine lv_if_ne (tgt := 43) hx hb dX4_knot_19 (by decide) (fun c_19 => ?_) (fun c_19 => ?_)
      · have c_19 : ¬ ((bf ((vC w1 0 + b) % 8)) = 0) := fun h9 => c_19 ((k_eq0 (a := (bf ((vC w1 0 + b) % 8))) (by omega)).mpr h9)
        have hby : takeBy bf (vC w1 0) = b := tk_hit (by omega) hv c_19
        have hcb : (vC w1 0 + b) % 8 < 8 := by omega
        have hbc : bf ((vC w1 0 + b) % 8) ≤ 200 := hB _ hcb
        refine lv_aload_n hx hb dX4_knot_43 rfl (lv_at hl 0 rfl) ?_
        refine lv_iload_n hx hb dX4_knot_44 rfl (lv_at hl 1 rfl) ?_
        refine k_callPi (S := Unit) (wfx := fun _ => [kO o 4 [.ref rg, .ref pg, .ref rr, .ref sp, .ref ot, .ref wo, .int (nI ho), .int (nI un)], kGd G rg 12 (oA 12 ra), kGd G pg 12 (oA 12 pa), kH G rr 2 (oR e0 e1), kGd G e0 (vT w0) (oA (vT w0) qa), kGd G e1 (vT w1) (oA (vT w1) qb), kC G sp 2 (nR (w2 (vS w0) (vS w1))), kC G ot 2 (nR (w2 (vO w0) (vO w1))), kC G wo 8 (nR bf)]) (wfp := fun _ => sT G ra pa qa qb (rugF w0 w1) (planF w0 w1) (vT w0) (runF w0) (vT w1) (runF w1)) (fun _ => [kO o 4 [.ref rg, .ref pg, .ref rr, .ref sp, .ref ot, .ref wo, .int (nI ho), .int (nI un)], kGd G rg 12 (oA 12 ra), kGd G pg 12 (oA 12 pa), kH G rr 2 (oR e0 e1), kGd G e0 (vT w0) (oA (vT w0) qa), kGd G e1 (vT w1) (oA (vT w1) qb), kC G sp 2 (nR (w2 (vS w0) (vS w1))), kC G ot 2 (nR (w2 (vO w0) (vO w1))), kC G wo 8 (nR bf)]) [] (k_runVP (As := [.int (nI 1)]) (rest := []) (cx := [kO o 4 [.ref rg, .ref pg, .ref rr, .ref sp, .ref ot, .ref wo, .int (nI ho), .int (nI un)], kGd G rg 12 (oA 12 ra), kGd G pg 12 (oA 12 pa), kH G rr 2 (oR e0 e1), kGd G e0 (vT w0) (oA (vT w0) qa), kGd G e1 (vT w1) (oA (vT w1) qb), kC G sp 2 (nR (w2 (vS w0) (vS w1))), kC G ot 2 (nR (w2 (vO w0) (vO w1))), kC G wo 8 (nR bf)]) ⟨hx, hb, hml, hown, hts⟩ (s_knots1 l G o rg pg rr e0 e1 sp ot wo ra pa qa qb w0 w1 bf ho un h0 h1 hB) (cwV 1 hts gX4_knot_X4_knots rfl rfl rfl (by decide +kernel) ⟨Nat.le_of_ble_eq_true rfl, Nat.le_of_ble_eq_true rfl⟩) hK hZ hP hD hS hA [0, 1, 2, 3, 4, 5, 6, 7, 8] rfl rfl 0 4 rfl rfl rfl rfl hl.1 rfl (Nat.le_of_ble_eq_true rfl) dX4_knot_45 ⟨(Nat.le_of_ble_eq_true rfl), (Nat.le_of_ble_eq_true rfl)⟩) hP hD hS hA [0, 1, 2, 3, 4, 5, 6, 7, 8] [] [0, 1, 2, 3, 4, 5, 6, 7, 8] rfl rfl rfl (by decide) (fun _ => rfl) rfl (fun r_45 u_45 H locs hp_45 hP hD hS => ?_)
        have hp_45 : r_45 = nI (vM w1) := hp_45
        subst hp_45
        refine lv_istore (lv' := [(4, .int (nI (vM w1))), (0, .ref o), (1, .int (nI 1)), (2, .int (nI (vC w1 0))), (3, .int (nI ((vC w1 0 + b) % 8)))]) hx hb dX4_knot_48 hl (by decide) rfl (fun ls hl => ?_)
        refine lv_aload_n hx hb dX4_knot_50 rfl (lv_at hl 1 rfl) ?_
        refine va_get (D := G.1) (ci := 4) (v := .ref rg) (C := RX4) (T := TX4) (N := 8) hx hb hts hq_0 hown hK.1 hP 0 rfl rfl 0 (by decide) hq_3 (fun _ h9 => h9) rfl dX4_knot_51 ?_
        refine lv_iload_n hx hb dX4_knot_54 rfl (lv_at hl 2 rfl) ?_
        refine lv_iload hx hb dX4_knot_55 (lv_at hl 0 rfl) ?_
        refine k_callQi (S := Unit) (wfx := fun _ => []) (fun _ => [kO o 4 [.ref rg, .ref pg, .ref rr, .ref sp, .ref ot, .ref wo, .int (nI ho), .int (nI un)], kGd G rg 12 (oA 12 ra), kGd G pg 12 (oA 12 pa), kH G rr 2 (oR e0 e1), kGd G e0 (vT w0) (oA (vT w0) qa), kGd G e1 (vT w1) (oA (vT w1) qb), kC G sp 2 (nR (w2 (vS w0) (vS w1))), kC G ot 2 (nR (w2 (vO w0) (vO w1))), kC G wo 8 (nR bf)]) [kO o 4 [.ref rg, .ref pg, .ref rr, .ref sp, .ref ot, .ref wo, .int (nI ho), .int (nI un)], kGd G rg 12 (oA 12 ra), kGd G pg 12 (oA 12 pa), kH G rr 2 (oR e0 e1), kGd G e0 (vT w0) (oA (vT w0) qa), kGd G e1 (vT w1) (oA (vT w1) qb), kC G sp 2 (nR (w2 (vS w0) (vS w1))), kC G ot 2 (nR (w2 (vO w0) (vO w1))), kC G wo 8 (nR bf)] (k_runS (As := [.int (nI 1), .int (nI (vM w1))]) (rest := [.ref rg]) (wc := []) ⟨hx, hb, hml, hown, hts⟩ (s_x1 l G (vM w1) (by omega)) (va_cwS 2 hts gX4_knot_X4_x rfl rfl rfl (by decide +kernel) ⟨Nat.le_of_ble_eq_true rfl, Nat.le_of_ble_eq_true rfl⟩) hK hZ hP hD hS hA [] rfl rfl rfl hl.1 rfl (Nat.le_of_ble_eq_true rfl) dX4_knot_57 ⟨(Nat.le_of_ble_eq_true rfl), (Nat.le_of_ble_eq_true rfl)⟩) hP hD hS hA [] [0, 1, 2, 3, 4, 5, 6, 7, 8] [0, 1, 2, 3, 4, 5, 6, 7, 8] rfl rfl rfl rfl (by decide) (fun _ => rfl) rfl (fun r_57 u_57 H locs hp_57 hP hD hS => ?_)
        have hp_57 : r_57 = nI (colOf 1 (vM w1)) := hp_57
        subst hp_57
        have hi_8 : (colOf 1 (vM w1)) < 12 := colOf_lt
        refine k_aldg hx hb hK hP 1 (colOf 1 (vM w1)) rfl (vp_in_nI hi_8 (by omega)) (nI_clamp (Nat.lt_of_lt_of_le hi_8 (by omega))) (oA_at hi_8) dX4_knot_60 ?_
        refine lv_iload hx hb dX4_knot_61 (lv_at hl 0 rfl) ?_
        refine lv_bipush (v := nI 6) hx hb dX4_knot_63 (by decide) ?_
        refine lv_idiv hx hb dX4_knot_65 (by first | decide | (intro h; exact absurd ((nI_eq (by omega) (by omega)).mp h) (by omega))) ?_
        refine lv_topi (fun y_9 hy_9 => ?_)
        obtain rfl : y_9 = nI ((vM w1) / 6) := hy_9.trans (pk_div (a := (vM w1)) (d := 6) (by omega) (by omega) (by omega))
        refine lv_iload_n hx hb dX4_knot_66 rfl (lv_at hl 4 rfl) ?_
        have hi_10 : ((vM w1) / 6) < 10 := by omega
        refine va_iast (D := G.1) hx hb hK.1 hP hD hS _ 0 (sT_r (i := (colOf 1 (vM w1))) colOf_lt) rfl (vp_in_nI hi_10 (by omega)) dX4_knot_67 (fun H locs hP hD hS => ?_)
        rw [nI_clamp (n := ((vM w1) / 6)) (by omega), sT_rs colOf_lt] at hP hD
        have hP : va_P G.1 vwCl ([kO o 4 [.ref rg, .ref pg, .ref rr, .ref sp, .ref ot, .ref wo, .int (nI ho), .int (nI un)], kGd G rg 12 (oA 12 ra), kGd G pg 12 (oA 12 pa), kH G rr 2 (oR e0 e1), kGd G e0 (vT w0) (oA (vT w0) qa), kGd G e1 (vT w1) (oA (vT w1) qb), kC G sp 2 (nR (w2 (vS w0) (vS w1))), kC G ot 2 (nR (w2 (vO w0) (vO w1))), kC G wo 8 (nR bf)] ++ sT G ra pa qa qb (updR (rugF w0 w1) (colOf 1 (vM w1)) ((vM w1) / 6) (nI ((vC w1 0 + b) % 8))) (planF w0 w1) (vT w0) (runF w0) (vT w1) (runF w1)) H := hP
        have hD : va_D A ([kO o 4 [.ref rg, .ref pg, .ref rr, .ref sp, .ref ot, .ref wo, .int (nI ho), .int (nI un)], kGd G rg 12 (oA 12 ra), kGd G pg 12 (oA 12 pa), kH G rr 2 (oR e0 e1), kGd G e0 (vT w0) (oA (vT w0) qa), kGd G e1 (vT w1) (oA (vT w1) qb), kC G sp 2 (nR (w2 (vS w0) (vS w1))), kC G ot 2 (nR (w2 (vO w0) (vO w1))), kC G wo 8 (nR bf)] ++ sT G ra pa qa qb (updR (rugF w0 w1) (colOf 1 (vM w1)) ((vM w1) / 6) (nI ((vC w1 0 + b) % 8))) (planF w0 w1) (vT w0) (runF w0) (vT w1) (runF w1)) := hD
        have hru : updR (rugF w0 w1) (colOf 1 (vM w1)) (vM w1 / 6) (nI ((vC w1 0 + b) % 8)) = rugF w0 (knW w1 bf) := rug_u1 hm (by rw [← hby]; exact kaW_knot) (fun j _ hj => kaW_knot_o hj)
        rw [hru] at hP hD
        have hP : va_P G.1 vwCl ([kO o 4 [.ref rg, .ref pg, .ref rr, .ref sp, .ref ot, .ref wo, .int (nI ho), .int (nI un)], kGd G rg 12 (oA 12 ra), kGd G pg 12 (oA 12 pa), kH G rr 2 (oR e0 e1), kGd G e0 (vT w0) (oA (vT w0) qa), kGd G e1 (vT w1) (oA (vT w1) qb), kC G sp 2 (nR (w2 (vS w0) (vS w1))), kC G ot 2 (nR (w2 (vO w0) (vO w1))), kC G wo 8 (nR bf)] ++ sT G ra pa qa qb (rugF w0 (knW w1 bf)) (planF w0 w1) (vT w0) (runF w0) (vT w1) (runF w1)) H := hP
        have hD : va_D A ([kO o 4 [.ref rg, .ref pg, .ref rr, .ref sp, .ref ot, .ref wo, .int (nI ho), .int (nI un)], kGd G rg 12 (oA 12 ra), kGd G pg 12 (oA 12 pa), kH G rr 2 (oR e0 e1), kGd G e0 (vT w0) (oA (vT w0) qa), kGd G e1 (vT w1) (oA (vT w1) qb), kC G sp 2 (nR (w2 (vS w0) (vS w1))), kC G ot 2 (nR (w2 (vO w0) (vO w1))), kC G wo 8 (nR bf)] ++ sT G ra pa qa qb (rugF w0 (knW w1 bf)) (planF w0 w1) (vT w0) (runF w0) (vT w1) (runF w1)) := hD
        refine lv_aload_n hx hb dX4_knot_68 rfl (lv_at hl 1 rfl) ?_
        refine va_get (D := G.1) (ci := 4) (v := .ref wo) (C := RX4) (T := TX4) (N := 8) hx hb hts hq_0 hown hK.1 hP 0 rfl rfl 5 (by decide) hq_2 (fun _ h9 => h9) rfl dX4_knot_69 ?_
        refine lv_iload_n hx hb dX4_knot_72 rfl (lv_at hl 4 rfl) ?_
        refine lv_dup2_11 hx hb dX4_knot_73 rfl rfl ?_
        have hi_11 : ((vC w1 0 + b) % 8) < 8 := by omega
        refine va_iald (D := G.1) hx hb hK.1 hP 8 0 rfl rfl (vp_in_nI hi_11 (by omega)) dX4_knot_74 ?_
        refine lv_topi (fun y_12 hy_12 => ?_)
        obtain rfl : y_12 = nI (bf ((vC w1 0 + b) % 8)) := hy_12.trans (nR_at (by omega))
        refine lv_iconst (v := nI 1) hx hb dX4_knot_75 (by decide) ?_
        refine lv_isub hx hb dX4_knot_76 ?_
        refine lv_topi (fun y_13 hy_13 => ?_)
        obtain rfl : y_13 = nI ((bf ((vC w1 0 + b) % 8)) - 1) := hy_13.trans (pk_sub (a := (bf ((vC w1 0 + b) % 8))) (b := 1) (by omega))
        have hi_14 : ((vC w1 0 + b) % 8) < 8 := by omega
        refine va_iast (D := G.1) hx hb hK.1 hP hD hS 8 0 rfl rfl (vp_in_nI hi_14 (by omega)) dX4_knot_77 (fun H locs hP hD hS => ?_)
        rw [nR_upd (f := bf) (k := ((vC w1 0 + b) % 8)) (v := ((bf ((vC w1 0 + b) % 8)) - 1)) (by omega)] at hP hD
        have hP : va_P G.1 vwCl ([kO o 4 [.ref rg, .ref pg, .ref rr, .ref sp, .ref ot, .ref wo, .int (nI ho), .int (nI un)], kGd G rg 12 (oA 12 ra), kGd G pg 12 (oA 12 pa), kH G rr 2 (oR e0 e1), kGd G e0 (vT w0) (oA (vT w0) qa), kGd G e1 (vT w1) (oA (vT w1) qb), kC G sp 2 (nR (w2 (vS w0) (vS w1))), kC G ot 2 (nR (w2 (vO w0) (vO w1))), kC G wo 8 (nR (updN bf ((vC w1 0 + b) % 8) ((bf ((vC w1 0 + b) % 8)) - 1)))] ++ sT G ra pa qa qb (rugF w0 (knW w1 bf)) (planF w0 w1) (vT w0) (runF w0) (vT w1) (runF w1)) H := hP
        have hD : va_D A ([kO o 4 [.ref rg, .ref pg, .ref rr, .ref sp, .ref ot, .ref wo, .int (nI ho), .int (nI un)], kGd G rg 12 (oA 12 ra), kGd G pg 12 (oA 12 pa), kH G rr 2 (oR e0 e1), kGd G e0 (vT w0) (oA (vT w0) qa), kGd G e1 (vT w1) (oA (vT w1) qb), kC G sp 2 (nR (w2 (vS w0) (vS w1))), kC G ot 2 (nR (w2 (vO w0) (vO w1))), kC G wo 8 (nR (updN bf ((vC w1 0 + b) % 8) ((bf ((vC w1 0 + b) % 8)) - 1)))] ++ sT G ra pa qa qb (rugF w0 (knW w1 bf)) (planF w0 w1) (vT w0) (runF w0) (vT w1) (runF w1)) := hD
        have hbf : updN bf ((vC w1 0 + b) % 8) (bf ((vC w1 0 + b) % 8) - 1) = takeB bf (vC w1 0) := takeB_t hb8 hby
        rw [hbf] at hP hD
        have hP : va_P G.1 vwCl ([kO o 4 [.ref rg, .ref pg, .ref rr, .ref sp, .ref ot, .ref wo, .int (nI ho), .int (nI un)], kGd G rg 12 (oA 12 ra), kGd G pg 12 (oA 12 pa), kH G rr 2 (oR e0 e1), kGd G e0 (vT w0) (oA (vT w0) qa), kGd G e1 (vT w1) (oA (vT w1) qb), kC G sp 2 (nR (w2 (vS w0) (vS w1))), kC G ot 2 (nR (w2 (vO w0) (vO w1))), kC G wo 8 (nR (takeB bf (vC w1 0)))] ++ sT G ra pa qa qb (rugF w0 (knW w1 bf)) (planF w0 w1) (vT w0) (runF w0) (vT w1) (runF w1)) H := hP
        have hD : va_D A ([kO o 4 [.ref rg, .ref pg, .ref rr, .ref sp, .ref ot, .ref wo, .int (nI ho), .int (nI un)], kGd G rg 12 (oA 12 ra), kGd G pg 12 (oA 12 pa), kH G rr 2 (oR e0 e1), kGd G e0 (vT w0) (oA (vT w0) qa), kGd G e1 (vT w1) (oA (vT w1) qb), kC G sp 2 (nR (w2 (vS w0) (vS w1))), kC G ot 2 (nR (w2 (vO w0) (vO w1))), kC G wo 8 (nR (takeB bf (vC w1 0)))] ++ sT G ra pa qa qb (rugF w0 (knW w1 bf)) (planF w0 w1) (vT w0) (runF w0) (vT w1) (runF w1)) := hD
        refine lv_aload_n hx hb dX4_knot_78 rfl (lv_at hl 1 rfl) ?_
        refine va_get (D := G.1) (ci := 4) (v := .ref ot) (C := RX4) (T := TX4) (N := 8) hx hb hts hq_0 hown hK.1 hP 0 rfl rfl 4 (by decide) hq_4 (fun _ h9 => h9) rfl dX4_knot_79 ?_
        refine lv_iload_n hx hb dX4_knot_82 rfl (lv_at hl 2 rfl) ?_
        refine lv_dup2_11 hx hb dX4_knot_83 rfl rfl ?_
        have hi_15 : 1 < 2 := by omega
        refine va_iald (D := G.1) hx hb hK.1 hP 7 0 rfl rfl (vp_in_nI hi_15 (by omega)) dX4_knot_84 ?_
        refine lv_topi (fun y_16 hy_16 => ?_)
        obtain rfl : y_16 = nI ((w2 (vO w0) (vO w1)) 1) := hy_16.trans (nR_at (by omega))
        refine lv_topi (fun y_17 hy_17 => ?_)
        obtain rfl : y_17 = nI (vO w1) := hy_17.trans (rfl)
        refine lv_iload_n hx hb dX4_knot_85 rfl (lv_at hl 4 rfl) ?_
        refine lv_iload_n hx hb dX4_knot_86 rfl (lv_at hl 3 rfl) ?_
        refine lv_icmp_ne (tgt := 94) hx hb dX4_knot_87 (by decide) (fun c_87 => ?_) (fun c_87 => ?_)
        · have c_87 : ¬ (((vC w1 0 + b) % 8) = (vC w1 0)) := fun h9 => c_87 ((nI_eq (a := ((vC w1 0 + b) % 8)) (b := (vC w1 0)) (by omega) (by omega)).mpr h9)
          refine lv_iconst (v := nI 1) hx hb dX4_knot_94 (by decide) ?_
          refine lv_iadd hx hb dX4_knot_95 ?_
          refine lv_topi (fun y_18 hy_18 => ?_)
          obtain rfl : y_18 = nI ((vO w1) + 1) := hy_18.trans (nI_add (vO w1) 1)
          have hi_19 : 1 < 2 := by omega
          refine va_iast (D := G.1) hx hb hK.1 hP hD hS 7 0 rfl rfl (vp_in_nI hi_19 (by omega)) dX4_knot_96 (fun H locs hP hD hS => ?_)
          rw [nR_upd (f := (w2 (vO w0) (vO w1))) (k := 1) (v := ((vO w1) + 1)) (by omega)] at hP hD
          rw [w2_1] at hP hD
          have hP : va_P G.1 vwCl ([kO o 4 [.ref rg, .ref pg, .ref rr, .ref sp, .ref ot, .ref wo, .int (nI ho), .int (nI un)], kGd G rg 12 (oA 12 ra), kGd G pg 12 (oA 12 pa), kH G rr 2 (oR e0 e1), kGd G e0 (vT w0) (oA (vT w0) qa), kGd G e1 (vT w1) (oA (vT w1) qb), kC G sp 2 (nR (w2 (vS w0) (vS w1))), kC G ot 2 (nR (w2 (vO w0) ((vO w1) + 1))), kC G wo 8 (nR (takeB bf (vC w1 0)))] ++ sT G ra pa qa qb (rugF w0 (knW w1 bf)) (planF w0 w1) (vT w0) (runF w0) (vT w1) (runF w1)) H := hP
          have hD : va_D A ([kO o 4 [.ref rg, .ref pg, .ref rr, .ref sp, .ref ot, .ref wo, .int (nI ho), .int (nI un)], kGd G rg 12 (oA 12 ra), kGd G pg 12 (oA 12 pa), kH G rr 2 (oR e0 e1), kGd G e0 (vT w0) (oA (vT w0) qa), kGd G e1 (vT w1) (oA (vT w1) qb), kC G sp 2 (nR (w2 (vS w0) (vS w1))), kC G ot 2 (nR (w2 (vO w0) ((vO w1) + 1))), kC G wo 8 (nR (takeB bf (vC w1 0)))] ++ sT G ra pa qa qb (rugF w0 (knW w1 bf)) (planF w0 w1) (vT w0) (runF w0) (vT w1) (runF w1)) := hD
          have hvo : vO w1 + 1 = vO (knW w1 bf) := knO_f (by omega)
          rw [hvo] at hP hD
          have hP : va_P G.1 vwCl ([kO o 4 [.ref rg, .ref pg, .ref rr, .ref sp, .ref ot, .ref wo, .int (nI ho), .int (nI un)], kGd G rg 12 (oA 12 ra), kGd G pg 12 (oA 12 pa), kH G rr 2 (oR e0 e1), kGd G e0 (vT w0) (oA (vT w0) qa), kGd G e1 (vT w1) (oA (vT w1) qb), kC G sp 2 (nR (w2 (vS w0) (vS w1))), kC G ot 2 (nR (w2 (vO w0) (vO (knW w1 bf)))), kC G wo 8 (nR (takeB bf (vC w1 0)))] ++ sT G ra pa qa qb (rugF w0 (knW w1 bf)) (planF w0 w1) (vT w0) (runF w0) (vT w1) (runF w1)) H := hP
          have hD : va_D A ([kO o 4 [.ref rg, .ref pg, .ref rr, .ref sp, .ref ot, .ref wo, .int (nI ho), .int (nI un)], kGd G rg 12 (oA 12 ra), kGd G pg 12 (oA 12 pa), kH G rr 2 (oR e0 e1), kGd G e0 (vT w0) (oA (vT w0) qa), kGd G e1 (vT w1) (oA (vT w1) qb), kC G sp 2 (nR (w2 (vS w0) (vS w1))), kC G ot 2 (nR (w2 (vO w0) (vO (knW w1 bf)))), kC G wo 8 (nR (takeB bf (vC w1 0)))] ++ sT G ra pa qa qb (rugF w0 (knW w1 bf)) (planF w0 w1) (vT w0) (runF w0) (vT w1) (runF w1)) := hD
          refine lv_aload_n hx hb dX4_knot_97 rfl (lv_at hl 1 rfl) ?_
          refine va_get (D := G.1) (ci := 4) (v := .ref rr) (C := RX4) (T := TX4) (N := 8) hx hb hts hq_0 hown hK.1 hP 0 rfl rfl 2 (by decide) hq_1 (fun _ h9 => h9) rfl dX4_knot_98 ?_
          refine lv_iload_n hx hb dX4_knot_101 rfl (lv_at hl 2 rfl) ?_
          refine k_ald3 hx hb hK hP 3 1 rfl (vp_in_nI (n := 1) (by decide) (by decide)) (by decide) rfl dX4_knot_102 ?_
          refine lv_iconst (v := nI 0) hx hb dX4_knot_103 (by decide) ?_
          have hi_20 : 0 < (vT w1) := by omega
          refine k_aldg hx hb hK hP 5 0 rfl (vp_in_nI hi_20 (by omega)) (nI_clamp (Nat.lt_of_lt_of_le hi_20 (by omega))) (oA_at hi_20) dX4_knot_104 ?_
          refine lv_iconst (v := nI 1) hx hb dX4_knot_105 (by decide) ?_
          refine lv_dup2_11 hx hb dX4_knot_106 rfl rfl ?_
          have hi_21 : 1 < 2 := by omega
          refine va_iald (D := G.1) hx hb hK.1 hP _ 0 (sT_b (i := 0) (by omega)) rfl (vp_in_nI hi_21 (by omega)) dX4_knot_107 ?_
          refine lv_topi (fun y_22 hy_22 => ?_)
          obtain rfl : y_22 = (runF w1) 0 1 := hy_22.trans (congrArg _ (nI_clamp (by omega)))
          refine lv_topi (fun y_23 hy_23 => ?_)
          obtain rfl : y_23 = nI (vN w1 0) := hy_23.trans (rfl)
          refine lv_iconst (v := nI 1) hx hb dX4_knot_108 (by decide) ?_
          refine lv_isub hx hb dX4_knot_109 ?_
          refine lv_topi (fun y_24 hy_24 => ?_)
          obtain rfl : y_24 = nI ((vN w1 0) - 1) := hy_24.trans (pk_sub (a := (vN w1 0)) (b := 1) (by omega))
          have hi_25 : 1 < 2 := by omega
          refine va_iast (D := G.1) hx hb hK.1 hP hD hS _ 0 (sT_b (i := 0) (by omega)) rfl (vp_in_nI hi_25 (by omega)) dX4_knot_110 (fun H locs hP hD hS => ?_)
          rw [nI_clamp (n := 1) (by omega), sT_bs (by omega)] at hP hD
          have hP : va_P G.1 vwCl ([kO o 4 [.ref rg, .ref pg, .ref rr, .ref sp, .ref ot, .ref wo, .int (nI ho), .int (nI un)], kGd G rg 12 (oA 12 ra), kGd G pg 12 (oA 12 pa), kH G rr 2 (oR e0 e1), kGd G e0 (vT w0) (oA (vT w0) qa), kGd G e1 (vT w1) (oA (vT w1) qb), kC G sp 2 (nR (w2 (vS w0) (vS w1))), kC G ot 2 (nR (w2 (vO w0) (vO (knW w1 bf)))), kC G wo 8 (nR (takeB bf (vC w1 0)))] ++ sT G ra pa qa qb (rugF w0 (knW w1 bf)) (planF w0 w1) (vT w0) (runF w0) (vT w1) (updR (runF w1) 0 1 (nI ((vN w1 0) - 1)))) H := hP
          have hD : va_D A ([kO o 4 [.ref rg, .ref pg, .ref rr, .ref sp, .ref ot, .ref wo, .int (nI ho), .int (nI un)], kGd G rg 12 (oA 12 ra), kGd G pg 12 (oA 12 pa), kH G rr 2 (oR e0 e1), kGd G e0 (vT w0) (oA (vT w0) qa), kGd G e1 (vT w1) (oA (vT w1) qb), kC G sp 2 (nR (w2 (vS w0) (vS w1))), kC G ot 2 (nR (w2 (vO w0) (vO (knW w1 bf)))), kC G wo 8 (nR (takeB bf (vC w1 0)))] ++ sT G ra pa qa qb (rugF w0 (knW w1 bf)) (planF w0 w1) (vT w0) (runF w0) (vT w1) (updR (runF w1) 0 1 (nI ((vN w1 0) - 1)))) := hD
          refine lv_aload_n hx hb dX4_knot_111 rfl (lv_at hl 1 rfl) ?_
          refine va_get (D := G.1) (ci := 4) (v := .ref rr) (C := RX4) (T := TX4) (N := 8) hx hb hts hq_0 hown hK.1 hP 0 rfl rfl 2 (by decide) hq_1 (fun _ h9 => h9) rfl dX4_knot_112 ?_
          refine lv_iload_n hx hb dX4_knot_115 rfl (lv_at hl 2 rfl) ?_
          refine k_ald3 hx hb hK hP 3 1 rfl (vp_in_nI (n := 1) (by decide) (by decide)) (by decide) rfl dX4_knot_116 ?_
          refine lv_iconst (v := nI 0) hx hb dX4_knot_117 (by decide) ?_
          have hi_26 : 0 < (vT w1) := by omega
          refine k_aldg hx hb hK hP 5 0 rfl (vp_in_nI hi_26 (by omega)) (nI_clamp (Nat.lt_of_lt_of_le hi_26 (by omega))) (oA_at hi_26) dX4_knot_118 ?_
          refine lv_iconst (v := nI 1) hx hb dX4_knot_119 (by decide) ?_
          have hi_27 : 1 < 2 := by omega
          refine va_iald (D := G.1) hx hb hK.1 hP _ 0 (sT_b (i := 0) (by omega)) rfl (vp_in_nI hi_27 (by omega)) dX4_knot_120 ?_
          refine lv_topi (fun y_28 hy_28 => ?_)
          obtain rfl : y_28 = (updR (runF w1) 0 1 (nI ((vN w1 0) - 1))) 0 1 := hy_28.trans (congrArg _ (nI_clamp (by omega)))
          refine lv_topi (fun y_29 hy_29 => ?_)
          obtain rfl : y_29 = nI (vN w1 0 - 1) := hy_29.trans (updR_at)
          refine lv_if_le (tgt := 126) hx hb dX4_knot_121 (by decide) (fun c_121 => ?_) (fun c_121 => ?_)
          · have c_121 : (vN w1 0 - 1) = 0 := (k_le0 (a := (vN w1 0 - 1)) (by omega)).mp c_121
            have hn1 : vN w1 0 = 1 := by omega
            refine lv_aload_n hx hb dX4_knot_126 rfl (lv_at hl 1 rfl) ?_
            refine va_get (D := G.1) (ci := 4) (v := .ref rr) (C := RX4) (T := TX4) (N := 8) hx hb hts hq_0 hown hK.1 hP 0 rfl rfl 2 (by decide) hq_1 (fun _ h9 => h9) rfl dX4_knot_127 ?_
            refine lv_iload_n hx hb dX4_knot_130 rfl (lv_at hl 2 rfl) ?_
            refine k_ald3 hx hb hK hP 3 1 rfl (vp_in_nI (n := 1) (by decide) (by decide)) (by decide) rfl dX4_knot_131 ?_
            refine va_alen (D := G.1) (v := nI (vT w1)) hx hb hK.1 hP 5 2 rfl rfl rfl dX4_knot_132 ?_
            refine lv_iconst (v := nI 1) hx hb dX4_knot_133 (by decide) ?_
            refine lv_isub hx hb dX4_knot_134 ?_
            refine lv_topi (fun y_30 hy_30 => ?_)
            obtain rfl : y_30 = nI ((vT w1) - 1) := hy_30.trans (pk_sub (a := (vT w1)) (b := 1) (by omega))
            refine k_newg hx hb hown hq_5 hK hP hD hS hA (N' := ((vT w1) - 1)) (nI_pos (by omega)) (nI_clamp (by omega)) (by omega) (Nat.le_of_ble_eq_true rfl) (by show 0 + ((vT w1) - 1) ≤ _; exact Nat.le_trans (by omega) (show 20 ≤ _ from Nat.le_of_ble_eq_true rfl)) dX4_knot_135 (fun g_135 H hP hD hS => ?_)
            refine W.widen (k := 1) (n := 20) (by show 1 ≤ 1; omega) (by show 0 + ((vT w1) - 1) ≤ 20; omega) ?_
            rw [oA_0 (a := fun j => qb (j + 1))] at hP hD
            have hP := va_P.swap (a := [kO o 4 [.ref rg, .ref pg, .ref rr, .ref sp, .ref ot, .ref wo, .int (nI ho), .int (nI un)], kGd G rg 12 (oA 12 ra), kGd G pg 12 (oA 12 pa), kH G rr 2 (oR e0 e1), kGd G e0 (vT w0) (oA (vT w0) qa), kGd G e1 (vT w1) (oA (vT w1) qb), kC G sp 2 (nR (w2 (vS w0) (vS w1))), kC G ot 2 (nR (w2 (vO w0) (vO (knW w1 bf)))), kC G wo 8 (nR (takeB bf (vC w1 0)))]) (b := sT G ra pa qa qb (rugF w0 (knW w1 bf)) (planF w0 w1) (vT w0) (runF w0) (vT w1) (updR (runF w1) 0 1 (nI ((vN w1 0) - 1)))) (c := [kGd G g_135 ((vT w1) - 1) (oA 0 (fun j => qb (j + 1)))]) hP
            have hD := va_D.swap (a := [kO o 4 [.ref rg, .ref pg, .ref rr, .ref sp, .ref ot, .ref wo, .int (nI ho), .int (nI un)], kGd G rg 12 (oA 12 ra), kGd G pg 12 (oA 12 pa), kH G rr 2 (oR e0 e1), kGd G e0 (vT w0) (oA (vT w0) qa), kGd G e1 (vT w1) (oA (vT w1) qb), kC G sp 2 (nR (w2 (vS w0) (vS w1))), kC G ot 2 (nR (w2 (vO w0) (vO (knW w1 bf)))), kC G wo 8 (nR (takeB bf (vC w1 0)))]) (b := sT G ra pa qa qb (rugF w0 (knW w1 bf)) (planF w0 w1) (vT w0) (runF w0) (vT w1) (updR (runF w1) 0 1 (nI ((vN w1 0) - 1)))) (c := [kGd G g_135 ((vT w1) - 1) (oA 0 (fun j => qb (j + 1)))]) hD
            have hP : va_P G.1 vwCl ([kO o 4 [.ref rg, .ref pg, .ref rr, .ref sp, .ref ot, .ref wo, .int (nI ho), .int (nI un)], kGd G rg 12 (oA 12 ra), kGd G pg 12 (oA 12 pa), kH G rr 2 (oR e0 e1), kGd G e0 (vT w0) (oA (vT w0) qa), kGd G e1 (vT w1) (oA (vT w1) qb), kC G sp 2 (nR (w2 (vS w0) (vS w1))), kC G ot 2 (nR (w2 (vO w0) (vO (knW w1 bf)))), kC G wo 8 (nR (takeB bf (vC w1 0))), kGd G g_135 ((vT w1) - 1) (oA 0 (fun j => qb (j + 1)))] ++ sT G ra pa qa qb (rugF w0 (knW w1 bf)) (planF w0 w1) (vT w0) (runF w0) (vT w1) (updR (runF w1) 0 1 (nI ((vN w1 0) - 1)))) H := hP
            have hD : va_D A ([kO o 4 [.ref rg, .ref pg, .ref rr, .ref sp, .ref ot, .ref wo, .int (nI ho), .int (nI un)], kGd G rg 12 (oA 12 ra), kGd G pg 12 (oA 12 pa), kH G rr 2 (oR e0 e1), kGd G e0 (vT w0) (oA (vT w0) qa), kGd G e1 (vT w1) (oA (vT w1) qb), kC G sp 2 (nR (w2 (vS w0) (vS w1))), kC G ot 2 (nR (w2 (vO w0) (vO (knW w1 bf)))), kC G wo 8 (nR (takeB bf (vC w1 0))), kGd G g_135 ((vT w1) - 1) (oA 0 (fun j => qb (j + 1)))] ++ sT G ra pa qa qb (rugF w0 (knW w1 bf)) (planF w0 w1) (vT w0) (runF w0) (vT w1) (updR (runF w1) 0 1 (nI ((vN w1 0) - 1)))) := hD
            refine lv_astore (lv' := [(5, .ref g_135), (4, .int (nI (vM w1))), (0, .ref o), (1, .int (nI 1)), (2, .int (nI (vC w1 0))), (3, .int (nI ((vC w1 0 + b) % 8)))]) hx hb dX4_knot_138 hl (by decide) rfl (fun ls hl => ?_)
            refine lv_iconst (v := nI 0) hx hb dX4_knot_140 (by decide) ?_
            refine lv_istore (lv' := [(6, .int (nI 0)), (5, .ref g_135), (4, .int (nI (vM w1))), (0, .ref o), (1, .int (nI 1)), (2, .int (nI (vC w1 0))), (3, .int (nI ((vC w1 0 + b) % 8)))]) hx hb dX4_knot_141 hl (by decide) rfl (fun ls hl => ?_)
            have loop_143 : ∀ (fu_143 : Nat) (i : Nat), i ≤ vT w1 - 1 → vT w1 - 1 < i + fu_143 → ∀ (H : Heap) (locs : List Loc) (ls : Array Slot), va_P G.1 vwCl ([kO o 4 [.ref rg, .ref pg, .ref rr, .ref sp, .ref ot, .ref wo, .int (nI ho), .int (nI un)], kGd G rg 12 (oA 12 ra), kGd G pg 12 (oA 12 pa), kH G rr 2 (oR e0 e1), kGd G e0 (vT w0) (oA (vT w0) qa), kGd G e1 (vT w1) (oA (vT w1) qb), kC G sp 2 (nR (w2 (vS w0) (vS w1))), kC G ot 2 (nR (w2 (vO w0) (vO (knW w1 bf)))), kC G wo 8 (nR (takeB bf (vC w1 0))), kGd G g_135 (vT w1 - 1) (oA i (fun j => qb (j + 1)))] ++ sT G ra pa qa qb (rugF w0 (knW w1 bf)) (planF w0 w1) (vT w0) (runF w0) (vT w1) (updR (runF w1) 0 1 (nI ((vN w1 0) - 1)))) H → va_D A ([kO o 4 [.ref rg, .ref pg, .ref rr, .ref sp, .ref ot, .ref wo, .int (nI ho), .int (nI un)], kGd G rg 12 (oA 12 ra), kGd G pg 12 (oA 12 pa), kH G rr 2 (oR e0 e1), kGd G e0 (vT w0) (oA (vT w0) qa), kGd G e1 (vT w1) (oA (vT w1) qb), kC G sp 2 (nR (w2 (vS w0) (vS w1))), kC G ot 2 (nR (w2 (vO w0) (vO (knW w1 bf)))), kC G wo 8 (nR (takeB bf (vC w1 0))), kGd G g_135 (vT w1 - 1) (oA i (fun j => qb (j + 1)))] ++ sT G ra pa qa qb (rugF w0 (knW w1 bf)) (planF w0 w1) (vT w0) (runF w0) (vT w1) (updR (runF w1) 0 1 (nI ((vN w1 0) - 1)))) → va_S A s.heap H locs → lv_has ls 7 [(0, .ref o), (1, .int (nI 1)), (5, .ref g_135), (6, .int (nI i))] → W p l e ({ frames := 2, cells := 1, slots := 20, locals := 43 } : Room) s m args below meth c H locs 1 20 Qs (F0 m 143 ls []) := by
              intro fu_143
              induction fu_143 with
              | zero =>
                intro i hi hf2
                exact absurd hf2 (by omega)
              | succ fu_143 ih_143 =>
                intro i hi hf2 H locs ls hP hD hS hl
                refine lv_iload hx hb dX4_knot_143 (lv_at hl 3 rfl) ?_
                refine lv_aload hx hb dX4_knot_145 (lv_at hl 2 rfl) ?_
                refine va_alen (D := G.1) (v := nI (vT w1 - 1)) hx hb hK.1 hP 9 2 rfl rfl rfl dX4_knot_147 ?_
                refine lv_icmp_ge (tgt := 173) hx hb dX4_knot_148 (by decide) (fun c_148 => ?_) (fun c_148 => ?_)
                · have c_148 : (vT w1 - 1) ≤ i := (nI_leI (a := (vT w1 - 1)) (b := i) (by omega) (by omega)).mp c_148
                  have hi9 : i = vT w1 - 1 := by omega
                  subst hi9
                  have hP : va_P G.1 vwCl ([kO o 4 [.ref rg, .ref pg, .ref rr, .ref sp, .ref ot, .ref wo, .int (nI ho), .int (nI un)], kGd G rg 12 (oA 12 ra), kGd G pg 12 (oA 12 pa), kH G rr 2 (oR e0 e1), kGd G e0 (vT w0) (oA (vT w0) qa), kGd G e1 (vT w1) (oA (vT w1) qb), kC G sp 2 (nR (w2 (vS w0) (vS w1))), kC G ot 2 (nR (w2 (vO w0) (vO (knW w1 bf)))), kC G wo 8 (nR (takeB bf (vC w1 0))), kGd G g_135 (vT w1 - 1) (oA (vT w1 - 1) (fun j => qb (j + 1)))] ++ sT G ra pa qa qb (rugF w0 (knW w1 bf)) (planF w0 w1) (vT w0) (runF w0) (vT w1) (updR (runF w1) 0 1 (nI ((vN w1 0) - 1)))) H := hP
                  have hD : va_D A ([kO o 4 [.ref rg, .ref pg, .ref rr, .ref sp, .ref ot, .ref wo, .int (nI ho), .int (nI un)], kGd G rg 12 (oA 12 ra), kGd G pg 12 (oA 12 pa), kH G rr 2 (oR e0 e1), kGd G e0 (vT w0) (oA (vT w0) qa), kGd G e1 (vT w1) (oA (vT w1) qb), kC G sp 2 (nR (w2 (vS w0) (vS w1))), kC G ot 2 (nR (w2 (vO w0) (vO (knW w1 bf)))), kC G wo 8 (nR (takeB bf (vC w1 0))), kGd G g_135 (vT w1 - 1) (oA (vT w1 - 1) (fun j => qb (j + 1)))] ++ sT G ra pa qa qb (rugF w0 (knW w1 bf)) (planF w0 w1) (vT w0) (runF w0) (vT w1) (updR (runF w1) 0 1 (nI ((vN w1 0) - 1)))) := hD
                  refine lv_aload_n hx hb dX4_knot_173 rfl (lv_at hl 0 rfl) ?_
                  refine va_get (D := G.1) (ci := 4) (v := .ref rr) (C := RX4) (T := TX4) (N := 8) hx hb hts hq_0 hown hK.1 hP 0 rfl rfl 2 (by decide) hq_1 (fun _ h9 => h9) rfl dX4_knot_174 ?_
                  refine lv_iload_n hx hb dX4_knot_177 rfl (lv_at hl 1 rfl) ?_
                  refine lv_aload hx hb dX4_knot_178 (lv_at hl 2 rfl) ?_
                  refine k_ast3 hx hb hK hP hD hS 3 9 1 rfl rfl (vp_in_nI (n := 1) (by decide) (by decide)) (by decide) dX4_knot_180 (fun H locs hP hD hS => ?_)
                  rw [oR_1] at hP hD
                  have hP : va_P G.1 vwCl ([kO o 4 [.ref rg, .ref pg, .ref rr, .ref sp, .ref ot, .ref wo, .int (nI ho), .int (nI un)], kGd G rg 12 (oA 12 ra), kGd G pg 12 (oA 12 pa), kH G rr 2 (oR e0 g_135), kGd G e0 (vT w0) (oA (vT w0) qa), kGd G e1 (vT w1) (oA (vT w1) qb), kC G sp 2 (nR (w2 (vS w0) (vS w1))), kC G ot 2 (nR (w2 (vO w0) (vO (knW w1 bf)))), kC G wo 8 (nR (takeB bf (vC w1 0))), kGd G g_135 (vT w1 - 1) (oA (vT w1 - 1) (fun j => qb (j + 1)))] ++ sT G ra pa qa qb (rugF w0 (knW w1 bf)) (planF w0 w1) (vT w0) (runF w0) (vT w1) (updR (runF w1) 0 1 (nI ((vN w1 0) - 1)))) H := hP
                  have hD : va_D A ([kO o 4 [.ref rg, .ref pg, .ref rr, .ref sp, .ref ot, .ref wo, .int (nI ho), .int (nI un)], kGd G rg 12 (oA 12 ra), kGd G pg 12 (oA 12 pa), kH G rr 2 (oR e0 g_135), kGd G e0 (vT w0) (oA (vT w0) qa), kGd G e1 (vT w1) (oA (vT w1) qb), kC G sp 2 (nR (w2 (vS w0) (vS w1))), kC G ot 2 (nR (w2 (vO w0) (vO (knW w1 bf)))), kC G wo 8 (nR (takeB bf (vC w1 0))), kGd G g_135 (vT w1 - 1) (oA (vT w1 - 1) (fun j => qb (j + 1)))] ++ sT G ra pa qa qb (rugF w0 (knW w1 bf)) (planF w0 w1) (vT w0) (runF w0) (vT w1) (updR (runF w1) 0 1 (nI ((vN w1 0) - 1)))) := hD
                  refine lv_iconst (v := nI 1) hx hb dX4_knot_181 (by decide) ?_
                  have hP : va_P G.1 vwCl ([kO o 4 [.ref rg, .ref pg, .ref rr, .ref sp, .ref ot, .ref wo, .int (nI ho), .int (nI un)], kGd G rg 12 (oA 12 ra), kGd G pg 12 (oA 12 pa), kH G rr 2 (oR e0 g_135), kGd G e0 (vT w0) (oA (vT w0) qa), kGd G g_135 (vT w1 - 1) (oA (vT w1 - 1) (fun j => qb (j + 1))), kC G sp 2 (nR (w2 (vS w0) (vS w1))), kC G ot 2 (nR (w2 (vO w0) (vO (knW w1 bf)))), kC G wo 8 (nR (takeB bf (vC w1 0)))] ++ sT G ra pa qa qb (rugF w0 (knW w1 bf)) (planF w0 w1) (vT w0) (runF w0) (vT w1) (updR (runF w1) 0 1 (nI ((vN w1 0) - 1)))) H := kP_x hP [0, 1, 2, 3, 4, 9, 6, 7, 8] rfl
                  have hD : va_D A ([kO o 4 [.ref rg, .ref pg, .ref rr, .ref sp, .ref ot, .ref wo, .int (nI ho), .int (nI un)], kGd G rg 12 (oA 12 ra), kGd G pg 12 (oA 12 pa), kH G rr 2 (oR e0 g_135), kGd G e0 (vT w0) (oA (vT w0) qa), kGd G g_135 (vT w1 - 1) (oA (vT w1 - 1) (fun j => qb (j + 1))), kC G sp 2 (nR (w2 (vS w0) (vS w1))), kC G ot 2 (nR (w2 (vO w0) (vO (knW w1 bf)))), kC G wo 8 (nR (takeB bf (vC w1 0)))] ++ sT G ra pa qa qb (rugF w0 (knW w1 bf)) (planF w0 w1) (vT w0) (runF w0) (vT w1) (updR (runF w1) 0 1 (nI ((vN w1 0) - 1)))) := kD_x hD [0, 1, 2, 3, 4, 9, 6, 7, 8] rfl rfl
                  have hP := kP_of hP (fun z9 hz9 => (sT_dropB).subset hz9)
                  have hD := kD_subl hD sT_dropB
                  rw [tail_D1 (B := bf) hn1, plan_knot1 (B := bf), ← knT_D (B := bf) hn1] at hP hD
                  exact k_zret (ws := ([kO o 4 [.ref rg, .ref pg, .ref rr, .ref sp, .ref ot, .ref wo, .int (nI ho), .int (nI un)], kGd G rg 12 (oA 12 ra), kGd G pg 12 (oA 12 pa), kH G rr 2 (oR e0 e1), kGd G e0 (vT w0) (oA (vT w0) qa), kGd G e1 (vT w1) (oA (vT w1) qb), kC G sp 2 (nR (w2 (vS w0) (vS w1))), kC G ot 2 (nR (w2 (vO w0) (vO w1))), kC G wo 8 (nR bf)] ++ sT G ra pa qa qb (rugF w0 w1) (planF w0 w1) (vT w0) (runF w0) (vT w1) (runF w1))) ((((knW w1 bf), takeB bf (vC w1 0)), (g_135, fun i => qb (i + 1)))) hx hb hr rfl hlocks hP hD hS hAe hQ (Nat.le_of_ble_eq_true rfl) (Nat.le_of_ble_eq_true rfl) dX4_knot_182 (rfl) (Or.inl ⟨rfl, by omega, rfl⟩)
                · have c_148 : ¬ ((vT w1 - 1) ≤ i) := fun h9 => c_148 ((nI_leI (a := (vT w1 - 1)) (b := i) (by omega) (by omega)).mpr h9)
                  refine lv_aload hx hb dX4_knot_151 (lv_at hl 2 rfl) ?_
                  refine lv_iload hx hb dX4_knot_153 (lv_at hl 3 rfl) ?_
                  refine lv_aload_n hx hb dX4_knot_155 rfl (lv_at hl 0 rfl) ?_
                  refine va_get (D := G.1) (ci := 4) (v := .ref rr) (C := RX4) (T := TX4) (N := 8) hx hb hts hq_0 hown hK.1 hP 0 rfl rfl 2 (by decide) hq_1 (fun _ h9 => h9) rfl dX4_knot_156 ?_
                  refine lv_iload_n hx hb dX4_knot_159 rfl (lv_at hl 1 rfl) ?_
                  refine k_ald3 hx hb hK hP 3 1 rfl (vp_in_nI (n := 1) (by decide) (by decide)) (by decide) rfl dX4_knot_160 ?_
                  refine lv_iload hx hb dX4_knot_161 (lv_at hl 3 rfl) ?_
                  refine lv_iconst (v := nI 1) hx hb dX4_knot_163 (by decide) ?_
                  refine lv_iadd hx hb dX4_knot_164 ?_
                  refine lv_topi (fun y_31 hy_31 => ?_)
                  obtain rfl : y_31 = nI (i + 1) := hy_31.trans (nI_add i 1)
                  have hi_32 : (i + 1) < (vT w1) := by omega
                  refine k_aldg hx hb hK hP 5 (i + 1) rfl (vp_in_nI hi_32 (by omega)) (nI_clamp (Nat.lt_of_lt_of_le hi_32 (by omega))) (oA_at hi_32) dX4_knot_165 ?_
                  have hi_33 : i < (vT w1 - 1) := by omega
                  refine k_astg hx hb hK hP hD hS 9 _ i rfl (sT_b (i := (i + 1)) (by omega)) (vp_in_nI hi_33 (by omega)) (nI_clamp (by omega)) dX4_knot_166 (fun H locs hP hD hS => ?_)
                  rw [oA_up1 (a := fun j => qb (j + 1))] at hP hD
                  have hP : va_P G.1 vwCl ([kO o 4 [.ref rg, .ref pg, .ref rr, .ref sp, .ref ot, .ref wo, .int (nI ho), .int (nI un)], kGd G rg 12 (oA 12 ra), kGd G pg 12 (oA 12 pa), kH G rr 2 (oR e0 e1), kGd G e0 (vT w0) (oA (vT w0) qa), kGd G e1 (vT w1) (oA (vT w1) qb), kC G sp 2 (nR (w2 (vS w0) (vS w1))), kC G ot 2 (nR (w2 (vO w0) (vO (knW w1 bf)))), kC G wo 8 (nR (takeB bf (vC w1 0))), kGd G g_135 (vT w1 - 1) (oA (i + 1) (fun j => qb (j + 1)))] ++ sT G ra pa qa qb (rugF w0 (knW w1 bf)) (planF w0 w1) (vT w0) (runF w0) (vT w1) (updR (runF w1) 0 1 (nI ((vN w1 0) - 1)))) H := hP
                  have hD : va_D A ([kO o 4 [.ref rg, .ref pg, .ref rr, .ref sp, .ref ot, .ref wo, .int (nI ho), .int (nI un)], kGd G rg 12 (oA 12 ra), kGd G pg 12 (oA 12 pa), kH G rr 2 (oR e0 e1), kGd G e0 (vT w0) (oA (vT w0) qa), kGd G e1 (vT w1) (oA (vT w1) qb), kC G sp 2 (nR (w2 (vS w0) (vS w1))), kC G ot 2 (nR (w2 (vO w0) (vO (knW w1 bf)))), kC G wo 8 (nR (takeB bf (vC w1 0))), kGd G g_135 (vT w1 - 1) (oA (i + 1) (fun j => qb (j + 1)))] ++ sT G ra pa qa qb (rugF w0 (knW w1 bf)) (planF w0 w1) (vT w0) (runF w0) (vT w1) (updR (runF w1) 0 1 (nI ((vN w1 0) - 1)))) := hD
                  refine lv_iinc (v := nI (i + 1)) (lv' := [(6, .int (nI (i + 1))), (0, .ref o), (1, .int (nI 1)), (5, .ref g_135)]) hx hb dX4_knot_167 hl (k := 3) rfl (nI_add i 1) (by decide) rfl (fun ls hl => ?_)
                  refine lv_goto (tgt := 143) hx hb dX4_knot_170 (by decide) ?_
                  exact ih_143 (i + 1) (by omega) (by omega) _ _ _ hP hD hS (lv_sub hl [1, 2, 3, 0] rfl)
            exact loop_143 (vT w1) 0 (by omega) (by omega) H locs ls hP hD hS (lv_sub hl [3, 4, 1, 0] rfl)
          · have c_121 : ¬ ((vN w1 0 - 1) = 0) := fun h9 => c_121 ((k_le0 (a := (vN w1 0 - 1)) (by omega)).mpr h9)
            have hn1 : ¬ vN w1 0 = 1 := by omega
            refine lv_iconst (v := nI 1) hx hb dX4_knot_124 (by decide) ?_
            rw [runF_knotS (B := bf) hn1, plan_knot1 (B := bf), ← knT_S (B := bf) hn1] at hP hD
            exact k_zret (ws := ([kO o 4 [.ref rg, .ref pg, .ref rr, .ref sp, .ref ot, .ref wo, .int (nI ho), .int (nI un)], kGd G rg 12 (oA 12 ra), kGd G pg 12 (oA 12 pa), kH G rr 2 (oR e0 e1), kGd G e0 (vT w0) (oA (vT w0) qa), kGd G e1 (vT w1) (oA (vT w1) qb), kC G sp 2 (nR (w2 (vS w0) (vS w1))), kC G ot 2 (nR (w2 (vO w0) (vO w1))), kC G wo 8 (nR bf)] ++ sT G ra pa qa qb (rugF w0 w1) (planF w0 w1) (vT w0) (runF w0) (vT w1) (runF w1))) ((((knW w1 bf), takeB bf (vC w1 0)), (e1, qb))) hx hb hr rfl hlocks hP hD hS hAe hQ (Nat.le_of_ble_eq_true rfl) (Nat.le_of_ble_eq_true rfl) dX4_knot_125 (rfl) (Or.inl ⟨rfl, by omega, rfl⟩)
        · have c_87 : ((vC w1 0 + b) % 8) = (vC w1 0) := (nI_eq (a := ((vC w1 0 + b) % 8)) (b := (vC w1 0)) (by omega) (by omega)).mp c_87
          refine lv_iconst (v := nI 0) hx hb dX4_knot_90 (by decide) ?_
          refine lv_goto (tgt := 95) hx hb dX4_knot_91 (by decide) ?_
          refine lv_iadd hx hb dX4_knot_95 ?_
          refine lv_topi (fun y_34 hy_34 => ?_)
          obtain rfl : y_34 = nI ((vO w1) + 0) := hy_34.trans (nI_add (vO w1) 0)
          have hi_35 : 1 < 2 := by omega
          refine va_iast (D := G.1) hx hb hK.1 hP hD hS 7 0 rfl rfl (vp_in_nI hi_35 (by omega)) dX4_knot_96 (fun H locs hP hD hS => ?_)
          rw [nR_upd (f := (w2 (vO w0) (vO w1))) (k := 1) (v := ((vO w1) + 0)) (by omega)] at hP hD
          rw [w2_1] at hP hD
          have hP : va_P G.1 vwCl ([kO o 4 [.ref rg, .ref pg, .ref rr, .ref sp, .ref ot, .ref wo, .int (nI ho), .int (nI un)], kGd G rg 12 (oA 12 ra), kGd G pg 12 (oA 12 pa), kH G rr 2 (oR e0 e1), kGd G e0 (vT w0) (oA (vT w0) qa), kGd G e1 (vT w1) (oA (vT w1) qb), kC G sp 2 (nR (w2 (vS w0) (vS w1))), kC G ot 2 (nR (w2 (vO w0) ((vO w1) + 0))), kC G wo 8 (nR (takeB bf (vC w1 0)))] ++ sT G ra pa qa qb (rugF w0 (knW w1 bf)) (planF w0 w1) (vT w0) (runF w0) (vT w1) (runF w1)) H := hP
          have hD : va_D A ([kO o 4 [.ref rg, .ref pg, .ref rr, .ref sp, .ref ot, .ref wo, .int (nI ho), .int (nI un)], kGd G rg 12 (oA 12 ra), kGd G pg 12 (oA 12 pa), kH G rr 2 (oR e0 e1), kGd G e0 (vT w0) (oA (vT w0) qa), kGd G e1 (vT w1) (oA (vT w1) qb), kC G sp 2 (nR (w2 (vS w0) (vS w1))), kC G ot 2 (nR (w2 (vO w0) ((vO w1) + 0))), kC G wo 8 (nR (takeB bf (vC w1 0)))] ++ sT G ra pa qa qb (rugF w0 (knW w1 bf)) (planF w0 w1) (vT w0) (runF w0) (vT w1) (runF w1)) := hD
          have hvo : vO w1 + 0 = vO (knW w1 bf) := knO_t (by omega)
          rw [hvo] at hP hD
          have hP : va_P G.1 vwCl ([kO o 4 [.ref rg, .ref pg, .ref rr, .ref sp, .ref ot, .ref wo, .int (nI ho), .int (nI un)], kGd G rg 12 (oA 12 ra), kGd G pg 12 (oA 12 pa), kH G rr 2 (oR e0 e1), kGd G e0 (vT w0) (oA (vT w0) qa), kGd G e1 (vT w1) (oA (vT w1) qb), kC G sp 2 (nR (w2 (vS w0) (vS w1))), kC G ot 2 (nR (w2 (vO w0) (vO (knW w1 bf)))), kC G wo 8 (nR (takeB bf (vC w1 0)))] ++ sT G ra pa qa qb (rugF w0 (knW w1 bf)) (planF w0 w1) (vT w0) (runF w0) (vT w1) (runF w1)) H := hP
          have hD : va_D A ([kO o 4 [.ref rg, .ref pg, .ref rr, .ref sp, .ref ot, .ref wo, .int (nI ho), .int (nI un)], kGd G rg 12 (oA 12 ra), kGd G pg 12 (oA 12 pa), kH G rr 2 (oR e0 e1), kGd G e0 (vT w0) (oA (vT w0) qa), kGd G e1 (vT w1) (oA (vT w1) qb), kC G sp 2 (nR (w2 (vS w0) (vS w1))), kC G ot 2 (nR (w2 (vO w0) (vO (knW w1 bf)))), kC G wo 8 (nR (takeB bf (vC w1 0)))] ++ sT G ra pa qa qb (rugF w0 (knW w1 bf)) (planF w0 w1) (vT w0) (runF w0) (vT w1) (runF w1)) := hD
          refine lv_aload_n hx hb dX4_knot_97 rfl (lv_at hl 1 rfl) ?_
          refine va_get (D := G.1) (ci := 4) (v := .ref rr) (C := RX4) (T := TX4) (N := 8) hx hb hts hq_0 hown hK.1 hP 0 rfl rfl 2 (by decide) hq_1 (fun _ h9 => h9) rfl dX4_knot_98 ?_
          refine lv_iload_n hx hb dX4_knot_101 rfl (lv_at hl 2 rfl) ?_
          refine k_ald3 hx hb hK hP 3 1 rfl (vp_in_nI (n := 1) (by decide) (by decide)) (by decide) rfl dX4_knot_102 ?_
          refine lv_iconst (v := nI 0) hx hb dX4_knot_103 (by decide) ?_
          have hi_36 : 0 < (vT w1) := by omega
          refine k_aldg hx hb hK hP 5 0 rfl (vp_in_nI hi_36 (by omega)) (nI_clamp (Nat.lt_of_lt_of_le hi_36 (by omega))) (oA_at hi_36) dX4_knot_104 ?_
          refine lv_iconst (v := nI 1) hx hb dX4_knot_105 (by decide) ?_
          refine lv_dup2_11 hx hb dX4_knot_106 rfl rfl ?_
          have hi_37 : 1 < 2 := by omega
          refine va_iald (D := G.1) hx hb hK.1 hP _ 0 (sT_b (i := 0) (by omega)) rfl (vp_in_nI hi_37 (by omega)) dX4_knot_107 ?_
          refine lv_topi (fun y_38 hy_38 => ?_)
          obtain rfl : y_38 = (runF w1) 0 1 := hy_38.trans (congrArg _ (nI_clamp (by omega)))
          refine lv_topi (fun y_39 hy_39 => ?_)
          obtain rfl : y_39 = nI (vN w1 0) := hy_39.trans (rfl)
          refine lv_iconst (v := nI 1) hx hb dX4_knot_108 (by decide) ?_
          refine lv_isub hx hb dX4_knot_109 ?_
          refine lv_topi (fun y_40 hy_40 => ?_)
          obtain rfl : y_40 = nI ((vN w1 0) - 1) := hy_40.trans (pk_sub (a := (vN w1 0)) (b := 1) (by omega))
          have hi_41 : 1 < 2 := by omega
          refine va_iast (D := G.1) hx hb hK.1 hP hD hS _ 0 (sT_b (i := 0) (by omega)) rfl (vp_in_nI hi_41 (by omega)) dX4_knot_110 (fun H locs hP hD hS => ?_)
          rw [nI_clamp (n := 1) (by omega), sT_bs (by omega)] at hP hD
          have hP : va_P G.1 vwCl ([kO o 4 [.ref rg, .ref pg, .ref rr, .ref sp, .ref ot, .ref wo, .int (nI ho), .int (nI un)], kGd G rg 12 (oA 12 ra), kGd G pg 12 (oA 12 pa), kH G rr 2 (oR e0 e1), kGd G e0 (vT w0) (oA (vT w0) qa), kGd G e1 (vT w1) (oA (vT w1) qb), kC G sp 2 (nR (w2 (vS w0) (vS w1))), kC G ot 2 (nR (w2 (vO w0) (vO (knW w1 bf)))), kC G wo 8 (nR (takeB bf (vC w1 0)))] ++ sT G ra pa qa qb (rugF w0 (knW w1 bf)) (planF w0 w1) (vT w0) (runF w0) (vT w1) (updR (runF w1) 0 1 (nI ((vN w1 0) - 1)))) H := hP
          have hD : va_D A ([kO o 4 [.ref rg, .ref pg, .ref rr, .ref sp, .ref ot, .ref wo, .int (nI ho), .int (nI un)], kGd G rg 12 (oA 12 ra), kGd G pg 12 (oA 12 pa), kH G rr 2 (oR e0 e1), kGd G e0 (vT w0) (oA (vT w0) qa), kGd G e1 (vT w1) (oA (vT w1) qb), kC G sp 2 (nR (w2 (vS w0) (vS w1))), kC G ot 2 (nR (w2 (vO w0) (vO (knW w1 bf)))), kC G wo 8 (nR (takeB bf (vC w1 0)))] ++ sT G ra pa qa qb (rugF w0 (knW w1 bf)) (planF w0 w1) (vT w0) (runF w0) (vT w1) (updR (runF w1) 0 1 (nI ((vN w1 0) - 1)))) := hD
          refine lv_aload_n hx hb dX4_knot_111 rfl (lv_at hl 1 rfl) ?_
          refine va_get (D := G.1) (ci := 4) (v := .ref rr) (C := RX4) (T := TX4) (N := 8) hx hb hts hq_0 hown hK.1 hP 0 rfl rfl 2 (by decide) hq_1 (fun _ h9 => h9) rfl dX4_knot_112 ?_
          refine lv_iload_n hx hb dX4_knot_115 rfl (lv_at hl 2 rfl) ?_
          refine k_ald3 hx hb hK hP 3 1 rfl (vp_in_nI (n := 1) (by decide) (by decide)) (by decide) rfl dX4_knot_116 ?_
          refine lv_iconst (v := nI 0) hx hb dX4_knot_117 (by decide) ?_
          have hi_42 : 0 < (vT w1) := by omega
          refine k_aldg hx hb hK hP 5 0 rfl (vp_in_nI hi_42 (by omega)) (nI_clamp (Nat.lt_of_lt_of_le hi_42 (by omega))) (oA_at hi_42) dX4_knot_118 ?_
          refine lv_iconst (v := nI 1) hx hb dX4_knot_119 (by decide) ?_
          have hi_43 : 1 < 2 := by omega
          refine va_iald (D := G.1) hx hb hK.1 hP _ 0 (sT_b (i := 0) (by omega)) rfl (vp_in_nI hi_43 (by omega)) dX4_knot_120 ?_
          refine lv_topi (fun y_44 hy_44 => ?_)
          obtain rfl : y_44 = (updR (runF w1) 0 1 (nI ((vN w1 0) - 1))) 0 1 := hy_44.trans (congrArg _ (nI_clamp (by omega)))
          refine lv_topi (fun y_45 hy_45 => ?_)
          obtain rfl : y_45 = nI (vN w1 0 - 1) := hy_45.trans (updR_at)
          refine lv_if_le (tgt := 126) hx hb dX4_knot_121 (by decide) (fun c_121 => ?_) (fun c_121 => ?_)
          · have c_121 : (vN w1 0 - 1) = 0 := (k_le0 (a := (vN w1 0 - 1)) (by omega)).mp c_121
            have hn1 : vN w1 0 = 1 := by omega
            refine lv_aload_n hx hb dX4_knot_126 rfl (lv_at hl 1 rfl) ?_
            refine va_get (D := G.1) (ci := 4) (v := .ref rr) (C := RX4) (T := TX4) (N := 8) hx hb hts hq_0 hown hK.1 hP 0 rfl rfl 2 (by decide) hq_1 (fun _ h9 => h9) rfl dX4_knot_127 ?_
            refine lv_iload_n hx hb dX4_knot_130 rfl (lv_at hl 2 rfl) ?_
            refine k_ald3 hx hb hK hP 3 1 rfl (vp_in_nI (n := 1) (by decide) (by decide)) (by decide) rfl dX4_knot_131 ?_
            refine va_alen (D := G.1) (v := nI (vT w1)) hx hb hK.1 hP 5 2 rfl rfl rfl dX4_knot_132 ?_
            refine lv_iconst (v := nI 1) hx hb dX4_knot_133 (by decide) ?_
            refine lv_isub hx hb dX4_knot_134 ?_
            refine lv_topi (fun y_46 hy_46 => ?_)
            obtain rfl : y_46 = nI ((vT w1) - 1) := hy_46.trans (pk_sub (a := (vT w1)) (b := 1) (by omega))
            refine k_newg hx hb hown hq_5 hK hP hD hS hA (N' := ((vT w1) - 1)) (nI_pos (by omega)) (nI_clamp (by omega)) (by omega) (Nat.le_of_ble_eq_true rfl) (by show 0 + ((vT w1) - 1) ≤ _; exact Nat.le_trans (by omega) (show 20 ≤ _ from Nat.le_of_ble_eq_true rfl)) dX4_knot_135 (fun g_135 H hP hD hS => ?_)
            refine W.widen (k := 1) (n := 20) (by show 1 ≤ 1; omega) (by show 0 + ((vT w1) - 1) ≤ 20; omega) ?_
            rw [oA_0 (a := fun j => qb (j + 1))] at hP hD
            have hP := va_P.swap (a := [kO o 4 [.ref rg, .ref pg, .ref rr, .ref sp, .ref ot, .ref wo, .int (nI ho), .int (nI un)], kGd G rg 12 (oA 12 ra), kGd G pg 12 (oA 12 pa), kH G rr 2 (oR e0 e1), kGd G e0 (vT w0) (oA (vT w0) qa), kGd G e1 (vT w1) (oA (vT w1) qb), kC G sp 2 (nR (w2 (vS w0) (vS w1))), kC G ot 2 (nR (w2 (vO w0) (vO (knW w1 bf)))), kC G wo 8 (nR (takeB bf (vC w1 0)))]) (b := sT G ra pa qa qb (rugF w0 (knW w1 bf)) (planF w0 w1) (vT w0) (runF w0) (vT w1) (updR (runF w1) 0 1 (nI ((vN w1 0) - 1)))) (c := [kGd G g_135 ((vT w1) - 1) (oA 0 (fun j => qb (j + 1)))]) hP
            have hD := va_D.swap (a := [kO o 4 [.ref rg, .ref pg, .ref rr, .ref sp, .ref ot, .ref wo, .int (nI ho), .int (nI un)], kGd G rg 12 (oA 12 ra), kGd G pg 12 (oA 12 pa), kH G rr 2 (oR e0 e1), kGd G e0 (vT w0) (oA (vT w0) qa), kGd G e1 (vT w1) (oA (vT w1) qb), kC G sp 2 (nR (w2 (vS w0) (vS w1))), kC G ot 2 (nR (w2 (vO w0) (vO (knW w1 bf)))), kC G wo 8 (nR (takeB bf (vC w1 0)))]) (b := sT G ra pa qa qb (rugF w0 (knW w1 bf)) (planF w0 w1) (vT w0) (runF w0) (vT w1) (updR (runF w1) 0 1 (nI ((vN w1 0) - 1)))) (c := [kGd G g_135 ((vT w1) - 1) (oA 0 (fun j => qb (j + 1)))]) hD
            have hP : va_P G.1 vwCl ([kO o 4 [.ref rg, .ref pg, .ref rr, .ref sp, .ref ot, .ref wo, .int (nI ho), .int (nI un)], kGd G rg 12 (oA 12 ra), kGd G pg 12 (oA 12 pa), kH G rr 2 (oR e0 e1), kGd G e0 (vT w0) (oA (vT w0) qa), kGd G e1 (vT w1) (oA (vT w1) qb), kC G sp 2 (nR (w2 (vS w0) (vS w1))), kC G ot 2 (nR (w2 (vO w0) (vO (knW w1 bf)))), kC G wo 8 (nR (takeB bf (vC w1 0))), kGd G g_135 ((vT w1) - 1) (oA 0 (fun j => qb (j + 1)))] ++ sT G ra pa qa qb (rugF w0 (knW w1 bf)) (planF w0 w1) (vT w0) (runF w0) (vT w1) (updR (runF w1) 0 1 (nI ((vN w1 0) - 1)))) H := hP
            have hD : va_D A ([kO o 4 [.ref rg, .ref pg, .ref rr, .ref sp, .ref ot, .ref wo, .int (nI ho), .int (nI un)], kGd G rg 12 (oA 12 ra), kGd G pg 12 (oA 12 pa), kH G rr 2 (oR e0 e1), kGd G e0 (vT w0) (oA (vT w0) qa), kGd G e1 (vT w1) (oA (vT w1) qb), kC G sp 2 (nR (w2 (vS w0) (vS w1))), kC G ot 2 (nR (w2 (vO w0) (vO (knW w1 bf)))), kC G wo 8 (nR (takeB bf (vC w1 0))), kGd G g_135 ((vT w1) - 1) (oA 0 (fun j => qb (j + 1)))] ++ sT G ra pa qa qb (rugF w0 (knW w1 bf)) (planF w0 w1) (vT w0) (runF w0) (vT w1) (updR (runF w1) 0 1 (nI ((vN w1 0) - 1)))) := hD
            refine lv_astore (lv' := [(5, .ref g_135), (4, .int (nI (vM w1))), (0, .ref o), (1, .int (nI 1)), (2, .int (nI (vC w1 0))), (3, .int (nI ((vC w1 0 + b) % 8)))]) hx hb dX4_knot_138 hl (by decide) rfl (fun ls hl => ?_)
            refine lv_iconst (v := nI 0) hx hb dX4_knot_140 (by decide) ?_
            refine lv_istore (lv' := [(6, .int (nI 0)), (5, .ref g_135), (4, .int (nI (vM w1))), (0, .ref o), (1, .int (nI 1)), (2, .int (nI (vC w1 0))), (3, .int (nI ((vC w1 0 + b) % 8)))]) hx hb dX4_knot_141 hl (by decide) rfl (fun ls hl => ?_)
            have loop_143 : ∀ (fu_143 : Nat) (i : Nat), i ≤ vT w1 - 1 → vT w1 - 1 < i + fu_143 → ∀ (H : Heap) (locs : List Loc) (ls : Array Slot), va_P G.1 vwCl ([kO o 4 [.ref rg, .ref pg, .ref rr, .ref sp, .ref ot, .ref wo, .int (nI ho), .int (nI un)], kGd G rg 12 (oA 12 ra), kGd G pg 12 (oA 12 pa), kH G rr 2 (oR e0 e1), kGd G e0 (vT w0) (oA (vT w0) qa), kGd G e1 (vT w1) (oA (vT w1) qb), kC G sp 2 (nR (w2 (vS w0) (vS w1))), kC G ot 2 (nR (w2 (vO w0) (vO (knW w1 bf)))), kC G wo 8 (nR (takeB bf (vC w1 0))), kGd G g_135 (vT w1 - 1) (oA i (fun j => qb (j + 1)))] ++ sT G ra pa qa qb (rugF w0 (knW w1 bf)) (planF w0 w1) (vT w0) (runF w0) (vT w1) (updR (runF w1) 0 1 (nI ((vN w1 0) - 1)))) H → va_D A ([kO o 4 [.ref rg, .ref pg, .ref rr, .ref sp, .ref ot, .ref wo, .int (nI ho), .int (nI un)], kGd G rg 12 (oA 12 ra), kGd G pg 12 (oA 12 pa), kH G rr 2 (oR e0 e1), kGd G e0 (vT w0) (oA (vT w0) qa), kGd G e1 (vT w1) (oA (vT w1) qb), kC G sp 2 (nR (w2 (vS w0) (vS w1))), kC G ot 2 (nR (w2 (vO w0) (vO (knW w1 bf)))), kC G wo 8 (nR (takeB bf (vC w1 0))), kGd G g_135 (vT w1 - 1) (oA i (fun j => qb (j + 1)))] ++ sT G ra pa qa qb (rugF w0 (knW w1 bf)) (planF w0 w1) (vT w0) (runF w0) (vT w1) (updR (runF w1) 0 1 (nI ((vN w1 0) - 1)))) → va_S A s.heap H locs → lv_has ls 7 [(0, .ref o), (1, .int (nI 1)), (5, .ref g_135), (6, .int (nI i))] → W p l e ({ frames := 2, cells := 1, slots := 20, locals := 43 } : Room) s m args below meth c H locs 1 20 Qs (F0 m 143 ls []) := by
              intro fu_143
              induction fu_143 with
              | zero =>
                intro i hi hf2
                exact absurd hf2 (by omega)
              | succ fu_143 ih_143 =>
                intro i hi hf2 H locs ls hP hD hS hl
                refine lv_iload hx hb dX4_knot_143 (lv_at hl 3 rfl) ?_
                refine lv_aload hx hb dX4_knot_145 (lv_at hl 2 rfl) ?_
                refine va_alen (D := G.1) (v := nI (vT w1 - 1)) hx hb hK.1 hP 9 2 rfl rfl rfl dX4_knot_147 ?_
                refine lv_icmp_ge (tgt := 173) hx hb dX4_knot_148 (by decide) (fun c_148 => ?_) (fun c_148 => ?_)
                · have c_148 : (vT w1 - 1) ≤ i := (nI_leI (a := (vT w1 - 1)) (b := i) (by omega) (by omega)).mp c_148
                  have hi9 : i = vT w1 - 1 := by omega
                  subst hi9
                  have hP : va_P G.1 vwCl ([kO o 4 [.ref rg, .ref pg, .ref rr, .ref sp, .ref ot, .ref wo, .int (nI ho), .int (nI un)], kGd G rg 12 (oA 12 ra), kGd G pg 12 (oA 12 pa), kH G rr 2 (oR e0 e1), kGd G e0 (vT w0) (oA (vT w0) qa), kGd G e1 (vT w1) (oA (vT w1) qb), kC G sp 2 (nR (w2 (vS w0) (vS w1))), kC G ot 2 (nR (w2 (vO w0) (vO (knW w1 bf)))), kC G wo 8 (nR (takeB bf (vC w1 0))), kGd G g_135 (vT w1 - 1) (oA (vT w1 - 1) (fun j => qb (j + 1)))] ++ sT G ra pa qa qb (rugF w0 (knW w1 bf)) (planF w0 w1) (vT w0) (runF w0) (vT w1) (updR (runF w1) 0 1 (nI ((vN w1 0) - 1)))) H := hP
                  have hD : va_D A ([kO o 4 [.ref rg, .ref pg, .ref rr, .ref sp, .ref ot, .ref wo, .int (nI ho), .int (nI un)], kGd G rg 12 (oA 12 ra), kGd G pg 12 (oA 12 pa), kH G rr 2 (oR e0 e1), kGd G e0 (vT w0) (oA (vT w0) qa), kGd G e1 (vT w1) (oA (vT w1) qb), kC G sp 2 (nR (w2 (vS w0) (vS w1))), kC G ot 2 (nR (w2 (vO w0) (vO (knW w1 bf)))), kC G wo 8 (nR (takeB bf (vC w1 0))), kGd G g_135 (vT w1 - 1) (oA (vT w1 - 1) (fun j => qb (j + 1)))] ++ sT G ra pa qa qb (rugF w0 (knW w1 bf)) (planF w0 w1) (vT w0) (runF w0) (vT w1) (updR (runF w1) 0 1 (nI ((vN w1 0) - 1)))) := hD
                  refine lv_aload_n hx hb dX4_knot_173 rfl (lv_at hl 0 rfl) ?_
                  refine va_get (D := G.1) (ci := 4) (v := .ref rr) (C := RX4) (T := TX4) (N := 8) hx hb hts hq_0 hown hK.1 hP 0 rfl rfl 2 (by decide) hq_1 (fun _ h9 => h9) rfl dX4_knot_174 ?_
                  refine lv_iload_n hx hb dX4_knot_177 rfl (lv_at hl 1 rfl) ?_
                  refine lv_aload hx hb dX4_knot_178 (lv_at hl 2 rfl) ?_
                  refine k_ast3 hx hb hK hP hD hS 3 9 1 rfl rfl (vp_in_nI (n := 1) (by decide) (by decide)) (by decide) dX4_knot_180 (fun H locs hP hD hS => ?_)
                  rw [oR_1] at hP hD
                  have hP : va_P G.1 vwCl ([kO o 4 [.ref rg, .ref pg, .ref rr, .ref sp, .ref ot, .ref wo, .int (nI ho), .int (nI un)], kGd G rg 12 (oA 12 ra), kGd G pg 12 (oA 12 pa), kH G rr 2 (oR e0 g_135), kGd G e0 (vT w0) (oA (vT w0) qa), kGd G e1 (vT w1) (oA (vT w1) qb), kC G sp 2 (nR (w2 (vS w0) (vS w1))), kC G ot 2 (nR (w2 (vO w0) (vO (knW w1 bf)))), kC G wo 8 (nR (takeB bf (vC w1 0))), kGd G g_135 (vT w1 - 1) (oA (vT w1 - 1) (fun j => qb (j + 1)))] ++ sT G ra pa qa qb (rugF w0 (knW w1 bf)) (planF w0 w1) (vT w0) (runF w0) (vT w1) (updR (runF w1) 0 1 (nI ((vN w1 0) - 1)))) H := hP
                  have hD : va_D A ([kO o 4 [.ref rg, .ref pg, .ref rr, .ref sp, .ref ot, .ref wo, .int (nI ho), .int (nI un)], kGd G rg 12 (oA 12 ra), kGd G pg 12 (oA 12 pa), kH G rr 2 (oR e0 g_135), kGd G e0 (vT w0) (oA (vT w0) qa), kGd G e1 (vT w1) (oA (vT w1) qb), kC G sp 2 (nR (w2 (vS w0) (vS w1))), kC G ot 2 (nR (w2 (vO w0) (vO (knW w1 bf)))), kC G wo 8 (nR (takeB bf (vC w1 0))), kGd G g_135 (vT w1 - 1) (oA (vT w1 - 1) (fun j => qb (j + 1)))] ++ sT G ra pa qa qb (rugF w0 (knW w1 bf)) (planF w0 w1) (vT w0) (runF w0) (vT w1) (updR (runF w1) 0 1 (nI ((vN w1 0) - 1)))) := hD
                  refine lv_iconst (v := nI 1) hx hb dX4_knot_181 (by decide) ?_
                  have hP : va_P G.1 vwCl ([kO o 4 [.ref rg, .ref pg, .ref rr, .ref sp, .ref ot, .ref wo, .int (nI ho), .int (nI un)], kGd G rg 12 (oA 12 ra), kGd G pg 12 (oA 12 pa), kH G rr 2 (oR e0 g_135), kGd G e0 (vT w0) (oA (vT w0) qa), kGd G g_135 (vT w1 - 1) (oA (vT w1 - 1) (fun j => qb (j + 1))), kC G sp 2 (nR (w2 (vS w0) (vS w1))), kC G ot 2 (nR (w2 (vO w0) (vO (knW w1 bf)))), kC G wo 8 (nR (takeB bf (vC w1 0)))] ++ sT G ra pa qa qb (rugF w0 (knW w1 bf)) (planF w0 w1) (vT w0) (runF w0) (vT w1) (updR (runF w1) 0 1 (nI ((vN w1 0) - 1)))) H := kP_x hP [0, 1, 2, 3, 4, 9, 6, 7, 8] rfl
                  have hD : va_D A ([kO o 4 [.ref rg, .ref pg, .ref rr, .ref sp, .ref ot, .ref wo, .int (nI ho), .int (nI un)], kGd G rg 12 (oA 12 ra), kGd G pg 12 (oA 12 pa), kH G rr 2 (oR e0 g_135), kGd G e0 (vT w0) (oA (vT w0) qa), kGd G g_135 (vT w1 - 1) (oA (vT w1 - 1) (fun j => qb (j + 1))), kC G sp 2 (nR (w2 (vS w0) (vS w1))), kC G ot 2 (nR (w2 (vO w0) (vO (knW w1 bf)))), kC G wo 8 (nR (takeB bf (vC w1 0)))] ++ sT G ra pa qa qb (rugF w0 (knW w1 bf)) (planF w0 w1) (vT w0) (runF w0) (vT w1) (updR (runF w1) 0 1 (nI ((vN w1 0) - 1)))) := kD_x hD [0, 1, 2, 3, 4, 9, 6, 7, 8] rfl rfl
                  have hP := kP_of hP (fun z9 hz9 => (sT_dropB).subset hz9)
                  have hD := kD_subl hD sT_dropB
                  rw [tail_D1 (B := bf) hn1, plan_knot1 (B := bf), ← knT_D (B := bf) hn1] at hP hD
                  exact k_zret (ws := ([kO o 4 [.ref rg, .ref pg, .ref rr, .ref sp, .ref ot, .ref wo, .int (nI ho), .int (nI un)], kGd G rg 12 (oA 12 ra), kGd G pg 12 (oA 12 pa), kH G rr 2 (oR e0 e1), kGd G e0 (vT w0) (oA (vT w0) qa), kGd G e1 (vT w1) (oA (vT w1) qb), kC G sp 2 (nR (w2 (vS w0) (vS w1))), kC G ot 2 (nR (w2 (vO w0) (vO w1))), kC G wo 8 (nR bf)] ++ sT G ra pa qa qb (rugF w0 w1) (planF w0 w1) (vT w0) (runF w0) (vT w1) (runF w1))) ((((knW w1 bf), takeB bf (vC w1 0)), (g_135, fun i => qb (i + 1)))) hx hb hr rfl hlocks hP hD hS hAe hQ (Nat.le_of_ble_eq_true rfl) (Nat.le_of_ble_eq_true rfl) dX4_knot_182 (rfl) (Or.inl ⟨rfl, by omega, rfl⟩)
                · have c_148 : ¬ ((vT w1 - 1) ≤ i) := fun h9 => c_148 ((nI_leI (a := (vT w1 - 1)) (b := i) (by omega) (by omega)).mpr h9)
                  refine lv_aload hx hb dX4_knot_151 (lv_at hl 2 rfl) ?_
                  refine lv_iload hx hb dX4_knot_153 (lv_at hl 3 rfl) ?_
                  refine lv_aload_n hx hb dX4_knot_155 rfl (lv_at hl 0 rfl) ?_
                  refine va_get (D := G.1) (ci := 4) (v := .ref rr) (C := RX4) (T := TX4) (N := 8) hx hb hts hq_0 hown hK.1 hP 0 rfl rfl 2 (by decide) hq_1 (fun _ h9 => h9) rfl dX4_knot_156 ?_
                  refine lv_iload_n hx hb dX4_knot_159 rfl (lv_at hl 1 rfl) ?_
                  refine k_ald3 hx hb hK hP 3 1 rfl (vp_in_nI (n := 1) (by decide) (by decide)) (by decide) rfl dX4_knot_160 ?_
                  refine lv_iload hx hb dX4_knot_161 (lv_at hl 3 rfl) ?_
                  refine lv_iconst (v := nI 1) hx hb dX4_knot_163 (by decide) ?_
                  refine lv_iadd hx hb dX4_knot_164 ?_
                  refine lv_topi (fun y_47 hy_47 => ?_)
                  obtain rfl : y_47 = nI (i + 1) := hy_47.trans (nI_add i 1)
                  have hi_48 : (i + 1) < (vT w1) := by omega
                  refine k_aldg hx hb hK hP 5 (i + 1) rfl (vp_in_nI hi_48 (by omega)) (nI_clamp (Nat.lt_of_lt_of_le hi_48 (by omega))) (oA_at hi_48) dX4_knot_165 ?_
                  have hi_49 : i < (vT w1 - 1) := by omega
                  refine k_astg hx hb hK hP hD hS 9 _ i rfl (sT_b (i := (i + 1)) (by omega)) (vp_in_nI hi_49 (by omega)) (nI_clamp (by omega)) dX4_knot_166 (fun H locs hP hD hS => ?_)
                  rw [oA_up1 (a := fun j => qb (j + 1))] at hP hD
                  have hP : va_P G.1 vwCl ([kO o 4 [.ref rg, .ref pg, .ref rr, .ref sp, .ref ot, .ref wo, .int (nI ho), .int (nI un)], kGd G rg 12 (oA 12 ra), kGd G pg 12 (oA 12 pa), kH G rr 2 (oR e0 e1), kGd G e0 (vT w0) (oA (vT w0) qa), kGd G e1 (vT w1) (oA (vT w1) qb), kC G sp 2 (nR (w2 (vS w0) (vS w1))), kC G ot 2 (nR (w2 (vO w0) (vO (knW w1 bf)))), kC G wo 8 (nR (takeB bf (vC w1 0))), kGd G g_135 (vT w1 - 1) (oA (i + 1) (fun j => qb (j + 1)))] ++ sT G ra pa qa qb (rugF w0 (knW w1 bf)) (planF w0 w1) (vT w0) (runF w0) (vT w1) (updR (runF w1) 0 1 (nI ((vN w1 0) - 1)))) H := hP
                  have hD : va_D A ([kO o 4 [.ref rg, .ref pg, .ref rr, .ref sp, .ref ot, .ref wo, .int (nI ho), .int (nI un)], kGd G rg 12 (oA 12 ra), kGd G pg 12 (oA 12 pa), kH G rr 2 (oR e0 e1), kGd G e0 (vT w0) (oA (vT w0) qa), kGd G e1 (vT w1) (oA (vT w1) qb), kC G sp 2 (nR (w2 (vS w0) (vS w1))), kC G ot 2 (nR (w2 (vO w0) (vO (knW w1 bf)))), kC G wo 8 (nR (takeB bf (vC w1 0))), kGd G g_135 (vT w1 - 1) (oA (i + 1) (fun j => qb (j + 1)))] ++ sT G ra pa qa qb (rugF w0 (knW w1 bf)) (planF w0 w1) (vT w0) (runF w0) (vT w1) (updR (runF w1) 0 1 (nI ((vN w1 0) - 1)))) := hD
                  refine lv_iinc (v := nI (i + 1)) (lv' := [(6, .int (nI (i + 1))), (0, .ref o), (1, .int (nI 1)), (5, .ref g_135)]) hx hb dX4_knot_167 hl (k := 3) rfl (nI_add i 1) (by decide) rfl (fun ls hl => ?_)
                  refine lv_goto (tgt := 143) hx hb dX4_knot_170 (by decide) ?_
                  exact ih_143 (i + 1) (by omega) (by omega) _ _ _ hP hD hS (lv_sub hl [1, 2, 3, 0] rfl)
            exact loop_143 (vT w1) 0 (by omega) (by omega) H locs ls hP hD hS (lv_sub hl [3, 4, 1, 0] rfl)
          · have c_121 : ¬ ((vN w1 0 - 1) = 0) := fun h9 => c_121 ((k_le0 (a := (vN w1 0 - 1)) (by omega)).mpr h9)
            have hn1 : ¬ vN w1 0 = 1 := by omega
            refine lv_iconst (v := nI 1) hx hb dX4_knot_124 (by decide) ?_
            rw [runF_knotS (B := bf) hn1, plan_knot1 (B := bf), ← knT_S (B := bf) hn1] at hP hD
            exact k_zret (ws := ([kO o 4 [.ref rg, .ref pg, .ref rr, .ref sp, .ref ot, .ref wo, .int (nI ho), .int (nI un)], kGd G rg 12 (oA 12 ra), kGd G pg 12 (oA 12 pa), kH G rr 2 (oR e0 e1), kGd G e0 (vT w0) (oA (vT w0) qa), kGd G e1 (vT w1) (oA (vT w1) qb), kC G sp 2 (nR (w2 (vS w0) (vS w1))), kC G ot 2 (nR (w2 (vO w0) (vO w1))), kC G wo 8 (nR bf)] ++ sT G ra pa qa qb (rugF w0 w1) (planF w0 w1) (vT w0) (runF w0) (vT w1) (runF w1))) ((((knW w1 bf), takeB bf (vC w1 0)), (e1, qb))) hx hb hr rfl hlocks hP hD hS hAe hQ (Nat.le_of_ble_eq_true rfl) (Nat.le_of_ble_eq_true rfl) dX4_knot_125 (rfl) (Or.inl ⟨rfl, by omega, rfl⟩)
      · have c_19 : (bf ((vC w1 0 + b) % 8)) = 0 := (k_eq0 (a := (bf ((vC w1 0 + b) % 8))) (by omega)).mp c_19
        refine lv_iload_n hx hb dX4_knot_22 rfl (lv_at hl 3 rfl) ?_
        refine lv_bipush (v := nI 7) hx hb dX4_knot_23 (by decide) ?_
        refine lv_icmp_ne (tgt := 32) hx hb dX4_knot_25 (by decide) (fun c_25 => ?_) (fun c_25 => ?_)
        · have c_25 : ¬ (((vC w1 0 + b) % 8) = 7) := fun h9 => c_25 ((nI_eq (a := ((vC w1 0 + b) % 8)) (b := 7) (by omega) (by omega)).mpr h9)
          refine lv_iload_n hx hb dX4_knot_32 rfl (lv_at hl 3 rfl) ?_
          refine lv_iconst (v := nI 1) hx hb dX4_knot_33 (by decide) ?_
          refine lv_iadd hx hb dX4_knot_34 ?_
          refine lv_topi (fun y_50 hy_50 => ?_)
          obtain rfl : y_50 = nI ((vC w1 0 + (b + 1)) % 8) := hy_50.trans ((nI_add _ _).trans (congrArg nI (by omega)))
          refine lv_istore_n (lv' := [(3, .int (nI ((vC w1 0 + (b + 1)) % 8))), (0, .ref o), (1, .int (nI 1)), (2, .int (nI (vC w1 0)))]) hx hb dX4_knot_35 rfl hl (by decide) rfl (fun ls hl => ?_)
          refine lv_iload_n hx hb dX4_knot_36 rfl (lv_at hl 0 rfl) ?_
          refine lv_iload_n hx hb dX4_knot_37 rfl (lv_at hl 3 rfl) ?_
          refine lv_icmp_ne (tgt := 13) hx hb dX4_knot_38 (by decide) (fun c_38 => ?_) (fun c_38 => ?_)
          · have c_38 : ¬ (((vC w1 0 + (b + 1)) % 8) = (vC w1 0)) := fun h9 => c_38 ((nI_eq (a := ((vC w1 0 + (b + 1)) % 8)) (b := (vC w1 0)) (by omega) (by omega)).mpr h9)
            exact ih_13 (b + 1) (by omega) (tk_miss (by omega) hv c_19) (by omega) _ _ _ hP hD hS (lv_sub hl [1, 2, 3, 0] rfl)
          · have c_38 : ((vC w1 0 + (b + 1)) % 8) = (vC w1 0) := (nI_eq (a := ((vC w1 0 + (b + 1)) % 8)) (b := (vC w1 0)) (by omega) (by omega)).mp c_38
            have hb7 : b = 7 := by omega
            have hby8 : takeBy bf (vC w1 0) = 8 := tk_end (b := b + 1) (by omega) (tk_miss (by omega) hv c_19)
            refine lv_iconst (v := nI 0) hx hb dX4_knot_41 (by decide) ?_
            exact k_zret (ws := ([kO o 4 [.ref rg, .ref pg, .ref rr, .ref sp, .ref ot, .ref wo, .int (nI ho), .int (nI un)], kGd G rg 12 (oA 12 ra), kGd G pg 12 (oA 12 pa), kH G rr 2 (oR e0 e1), kGd G e0 (vT w0) (oA (vT w0) qa), kGd G e1 (vT w1) (oA (vT w1) qb), kC G sp 2 (nR (w2 (vS w0) (vS w1))), kC G ot 2 (nR (w2 (vO w0) (vO w1))), kC G wo 8 (nR bf)] ++ sT G ra pa qa qb (rugF w0 w1) (planF w0 w1) (vT w0) (runF w0) (vT w1) (runF w1))) (((w1, bf), (e1, qb))) hx hb hr rfl hlocks hP hD hS hAe hQ (Nat.le_of_ble_eq_true rfl) (Nat.le_of_ble_eq_true rfl) dX4_knot_42 (rfl) (Or.inr ⟨rfl, by omega, rfl⟩)
        · have c_25 : ((vC w1 0 + b) % 8) = 7 := (nI_eq (a := ((vC w1 0 + b) % 8)) (b := 7) (by omega) (by omega)).mp c_25
          refine lv_iconst (v := nI 0) hx hb dX4_knot_28 (by decide) ?_
          refine lv_goto (tgt := 35) hx hb dX4_knot_29 (by decide) ?_
          refine lv_topi (fun y_51 hy_51 => ?_)
          obtain rfl : y_51 = nI ((vC w1 0 + (b + 1)) % 8) := hy_51.trans (congrArg nI (by omega))
          refine lv_istore_n (lv' := [(3, .int (nI ((vC w1 0 + (b + 1)) % 8))), (0, .ref o), (1, .int (nI 1)), (2, .int (nI (vC w1 0)))]) hx hb dX4_knot_35 rfl hl (by decide) rfl (fun ls hl => ?_)
          refine lv_iload_n hx hb dX4_knot_36 rfl (lv_at hl 0 rfl) ?_
          refine lv_iload_n hx hb dX4_knot_37 rfl (lv_at hl 3 rfl) ?_
          refine lv_icmp_ne (tgt := 13) hx hb dX4_knot_38 (by decide) (fun c_38 => ?_) (fun c_38 => ?_)
          · have c_38 : ¬ (((vC w1 0 + (b + 1)) % 8) = (vC w1 0)) := fun h9 => c_38 ((nI_eq (a := ((vC w1 0 + (b + 1)) % 8)) (b := (vC w1 0)) (by omega) (by omega)).mpr h9)
            exact ih_13 (b + 1) (by omega) (tk_miss (by omega) hv c_19) (by omega) _ _ _ hP hD hS (lv_sub hl [1, 2, 3, 0] rfl)
          · have c_38 : ((vC w1 0 + (b + 1)) % 8) = (vC w1 0) := (nI_eq (a := ((vC w1 0 + (b + 1)) % 8)) (b := (vC w1 0)) (by omega) (by omega)).mp c_38
            have hb7 : b = 7 := by omega
            have hby8 : takeBy bf (vC w1 0) = 8 := tk_end (b := b + 1) (by omega) (tk_miss (by omega) hv c_19)
            refine lv_iconst (v := nI 0) hx hb dX4_knot_41 (by decide) ?_
            exact k_zret (ws := ([kO o 4 [.ref rg, .ref pg, .ref rr, .ref sp, .ref ot, .ref wo, .int (nI ho), .int (nI un)], kGd G rg 12 (oA 12 ra), kGd G pg 12 (oA 12 pa), kH G rr 2 (oR e0 e1), kGd G e0 (vT w0) (oA (vT w0) qa), kGd G e1 (vT w1) (oA (vT w1) qb), kC G sp 2 (nR (w2 (vS w0) (vS w1))), kC G ot 2 (nR (w2 (vO w0) (vO w1))), kC G wo 8 (nR bf)] ++ sT G ra pa qa qb (rugF w0 w1) (planF w0 w1) (vT w0) (runF w0) (vT w1) (runF w1))) (((w1, bf), (e1, qb))) hx hb hr rfl hlocks hP hD hS hAe hQ (Nat.le_of_ble_eq_true rfl) (Nat.le_of_ble_eq_true rfl) dX4_knot_42 (rfl) (Or.inr ⟨rfl, by omega, rfl⟩)
  exact loop_13 9 0 (by omega) rfl (by omega) H locs ls hP hD hS (lv_sub hl [2, 3, 1, 0] rfl)
