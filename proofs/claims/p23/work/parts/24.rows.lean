set_option maxHeartbeats 4000000 in
set_option maxRecDepth 100000 in
theorem s_differ (l : Launch) (G : kG) (o : Nat) (rg : Nat) (pg : Nat) (rr : Nat) (e0 : Nat) (e1 : Nat) (sp : Nat) (ot : Nat) (wo : Nat) (ra : Nat → Nat) (pa : Nat → Nat) (qa : Nat → Nat) (qb : Nat → Nat) (w0 : Wv) (w1 : Wv) (bf : Nat → Nat) (ho : Nat) (un : Nat) (h0 : wOk w0) (h1 : wOk w1) (hB : bOk bf) : kM l G yX4_differ wsX4_differ ({ frames := 0, cells := 0, slots := 0, locals := 0 } : Room) [.ref o] ([kO o 4 [.ref rg, .ref pg, .ref rr, .ref sp, .ref ot, .ref wo, .int (nI ho), .int (nI un)], kGd G rg 12 (oA 12 ra), kGd G pg 12 (oA 12 pa), kH G rr 2 (oR e0 e1), kGd G e0 (vT w0) (oA (vT w0) qa), kGd G e1 (vT w1) (oA (vT w1) qb), kC G sp 2 (nR (w2 (vS w0) (vS w1))), kC G ot 2 (nR (w2 (vO w0) (vO w1))), kC G wo 8 (nR bf)] ++ sT G ra pa qa qb (rugF w0 w1) (planF w0 w1) (vT w0) (runF w0) (vT w1) (runF w1)) (kQi G ([kO o 4 [.ref rg, .ref pg, .ref rr, .ref sp, .ref ot, .ref wo, .int (nI ho), .int (nI un)], kGd G rg 12 (oA 12 ra), kGd G pg 12 (oA 12 pa), kH G rr 2 (oR e0 e1), kGd G e0 (vT w0) (oA (vT w0) qa), kGd G e1 (vT w1) (oA (vT w1) qb), kC G sp 2 (nR (w2 (vS w0) (vS w1))), kC G ot 2 (nR (w2 (vO w0) (vO w1))), kC G wo 8 (nR bf)] ++ sT G ra pa qa qb (rugF w0 w1) (planF w0 w1) (vT w0) (runF w0) (vT w1) (runF w1)) (fun (r : Int32) (_ : Unit) => r = nI (ofN w0 w1)) (fun (_ : Unit) => ([kO o 4 [.ref rg, .ref pg, .ref rr, .ref sp, .ref ot, .ref wo, .int (nI ho), .int (nI un)], kGd G rg 12 (oA 12 ra), kGd G pg 12 (oA 12 pa), kH G rr 2 (oR e0 e1), kGd G e0 (vT w0) (oA (vT w0) qa), kGd G e1 (vT w1) (oA (vT w1) qb), kC G sp 2 (nR (w2 (vS w0) (vS w1))), kC G ot 2 (nR (w2 (vO w0) (vO w1))), kC G wo 8 (nR bf)] ++ sT G ra pa qa qb (rugF w0 w1) (planF w0 w1) (vT w0) (runF w0) (vT w1) (runF w1)))) := by
  refine k_ofW (cc := cX4_differ) (maxL := 4) (rt := (some .int)) (by decide) rfl (Nat.le_of_ble_eq_true rfl) ?_
  intro p e s m args below meth c A ls Qs H locs hQ hAe hx hb hr hml hts hown hlocks hin hK hZ hP hD hS hA hl
  have hown : s.vm.findClass RX4 = some m.cls := hown
  have hl : lv_has ls 4 [(0, .ref o)] := hl
  have m0b : vM w0 ≤ 60 := h0.2.2.2.1
  have m1b : vM w1 ≤ 60 := h1.2.2.2.1
  have t0b : vT w0 ≤ 20 := h0.2.2.1
  have t1b : vT w1 ≤ 20 := h1.2.2.1
  have pb0 : ∀ i, i < 60 → vP w0 i < 8 := h0.2.2.2.2.1
  have pb1 : ∀ i, i < 60 → vP w1 i < 8 := h1.2.2.2.2.1
  have kb0 : ∀ i, i < 60 → vK w0 i < 8 := h0.2.2.2.2.2.1
  have kb1 : ∀ i, i < 60 → vK w1 i < 8 := h1.2.2.2.2.2.1
  have cb0 : ∀ i, i < vT w0 → vC w0 i < 8 := h0.2.2.2.2.2.2.1
  have cb1 : ∀ i, i < vT w1 → vC w1 i < 8 := h1.2.2.2.2.2.2.1
  have nb0 : ∀ i, i < vT w0 → 1 ≤ vN w0 i ∧ vN w0 i ≤ 60 := h0.2.2.2.2.2.2.2
  have nb1 : ∀ i, i < vT w1 → 1 ≤ vN w1 i ∧ vN w1 i ≤ 60 := h1.2.2.2.2.2.2.2
  have sb0 : vS w0 ≤ 6 := h0.2.1
  have sb1 : vS w1 ≤ 6 := h1.2.1
  have hq_0 : ∀ w ∈ wsX40, w ∈ wsX4_differ := by decide +kernel
  have hq_1 : (Cond.fieldLink RX4 9 "KnotRugsLaw$Sim" "rug" "[[I").before args s = true := hts _ (by decide +kernel)
  have hq_2 : (Cond.fieldLink RX4 14 "KnotRugsLaw$Sim" "plan" "[[I").before args s = true := hts _ (by decide +kernel)
  refine lv_iconst (v := nI 0) hx hb dX4_differ_0 (by decide) ?_
  refine lv_istore_n (lv' := [(1, .int (nI 0)), (0, .ref o)]) hx hb dX4_differ_1 rfl hl (by decide) rfl (fun ls hl => ?_)
  refine lv_iconst (v := nI 0) hx hb dX4_differ_2 (by decide) ?_
  refine lv_istore_n (lv' := [(2, .int (nI 0)), (1, .int (nI 0)), (0, .ref o)]) hx hb dX4_differ_3 rfl hl (by decide) rfl (fun ls hl => ?_)
  have loop_4 : ∀ (fu_4 : Nat) (x : Nat) (z : Nat), x ≤ 12 → z = sumN (fun x => sumN (fun y => dfE w0 w1 x y) 10) x → 12 < x + fu_4 → ∀ (H : Heap) (locs : List Loc) (ls : Array Slot), va_P G.1 vwCl ([kO o 4 [.ref rg, .ref pg, .ref rr, .ref sp, .ref ot, .ref wo, .int (nI ho), .int (nI un)], kGd G rg 12 (oA 12 ra), kGd G pg 12 (oA 12 pa), kH G rr 2 (oR e0 e1), kGd G e0 (vT w0) (oA (vT w0) qa), kGd G e1 (vT w1) (oA (vT w1) qb), kC G sp 2 (nR (w2 (vS w0) (vS w1))), kC G ot 2 (nR (w2 (vO w0) (vO w1))), kC G wo 8 (nR bf)] ++ sT G ra pa qa qb (rugF w0 w1) (planF w0 w1) (vT w0) (runF w0) (vT w1) (runF w1)) H → va_D A ([kO o 4 [.ref rg, .ref pg, .ref rr, .ref sp, .ref ot, .ref wo, .int (nI ho), .int (nI un)], kGd G rg 12 (oA 12 ra), kGd G pg 12 (oA 12 pa), kH G rr 2 (oR e0 e1), kGd G e0 (vT w0) (oA (vT w0) qa), kGd G e1 (vT w1) (oA (vT w1) qb), kC G sp 2 (nR (w2 (vS w0) (vS w1))), kC G ot 2 (nR (w2 (vO w0) (vO w1))), kC G wo 8 (nR bf)] ++ sT G ra pa qa qb (rugF w0 w1) (planF w0 w1) (vT w0) (runF w0) (vT w1) (runF w1)) → va_S A s.heap H locs → lv_has ls 4 [(0, .ref o), (1, .int (nI z)), (2, .int (nI x))] → W p l e ({ frames := 0, cells := 0, slots := 0, locals := 0 } : Room) s m args below meth c H locs 0 0 Qs (F0 m 4 ls []) := by
    intro fu_4
    induction fu_4 with
    | zero =>
      intro x z hx12 hz hf
      exact absurd hf (by omega)
    | succ fu_4 ih_4 =>
      intro x z hx12 hz hf H locs ls hP hD hS hl
      refine lv_iload_n hx hb dX4_differ_4 rfl (lv_at hl 2 rfl) ?_
      refine lv_bipush (v := nI 12) hx hb dX4_differ_5 (by decide) ?_
      refine lv_icmp_ge (tgt := 68) hx hb dX4_differ_7 (by decide) (fun c_7 => ?_) (fun c_7 => ?_)
      · have c_7 : 12 ≤ x := (nI_leI (a := 12) (b := x) (by omega) (by omega)).mp c_7
        have hx9 : x = 12 := by omega
        refine lv_iload_n hx hb dX4_differ_68 rfl (lv_at hl 1 rfl) ?_
        exact k_iret (ws := ([kO o 4 [.ref rg, .ref pg, .ref rr, .ref sp, .ref ot, .ref wo, .int (nI ho), .int (nI un)], kGd G rg 12 (oA 12 ra), kGd G pg 12 (oA 12 pa), kH G rr 2 (oR e0 e1), kGd G e0 (vT w0) (oA (vT w0) qa), kGd G e1 (vT w1) (oA (vT w1) qb), kC G sp 2 (nR (w2 (vS w0) (vS w1))), kC G ot 2 (nR (w2 (vO w0) (vO w1))), kC G wo 8 (nR bf)] ++ sT G ra pa qa qb (rugF w0 w1) (planF w0 w1) (vT w0) (runF w0) (vT w1) (runF w1))) (()) hx hb hr hlocks hP hD hS hAe hQ (Nat.le_of_ble_eq_true rfl) (Nat.le_of_ble_eq_true rfl) dX4_differ_69 (rfl) (by rw [hz, hx9]; exact congrArg nI (dfN_eq h0 h1))
      · have c_7 : ¬ (12 ≤ x) := fun h9 => c_7 ((nI_leI (a := 12) (b := x) (by omega) (by omega)).mpr h9)
        refine lv_iconst (v := nI 0) hx hb dX4_differ_10 (by decide) ?_
        refine lv_istore_n (lv' := [(3, .int (nI 0)), (0, .ref o), (1, .int (nI z)), (2, .int (nI x))]) hx hb dX4_differ_11 rfl hl (by decide) rfl (fun ls hl => ?_)
        have loop_12 : ∀ (fu_12 : Nat) (y : Nat) (z2 : Nat), y ≤ 10 → z2 = sumN (fun x => sumN (fun y => dfE w0 w1 x y) 10) x + sumN (fun y => dfE w0 w1 x y) y → 10 < y + fu_12 → ∀ (H : Heap) (locs : List Loc) (ls : Array Slot), va_P G.1 vwCl ([kO o 4 [.ref rg, .ref pg, .ref rr, .ref sp, .ref ot, .ref wo, .int (nI ho), .int (nI un)], kGd G rg 12 (oA 12 ra), kGd G pg 12 (oA 12 pa), kH G rr 2 (oR e0 e1), kGd G e0 (vT w0) (oA (vT w0) qa), kGd G e1 (vT w1) (oA (vT w1) qb), kC G sp 2 (nR (w2 (vS w0) (vS w1))), kC G ot 2 (nR (w2 (vO w0) (vO w1))), kC G wo 8 (nR bf)] ++ sT G ra pa qa qb (rugF w0 w1) (planF w0 w1) (vT w0) (runF w0) (vT w1) (runF w1)) H → va_D A ([kO o 4 [.ref rg, .ref pg, .ref rr, .ref sp, .ref ot, .ref wo, .int (nI ho), .int (nI un)], kGd G rg 12 (oA 12 ra), kGd G pg 12 (oA 12 pa), kH G rr 2 (oR e0 e1), kGd G e0 (vT w0) (oA (vT w0) qa), kGd G e1 (vT w1) (oA (vT w1) qb), kC G sp 2 (nR (w2 (vS w0) (vS w1))), kC G ot 2 (nR (w2 (vO w0) (vO w1))), kC G wo 8 (nR bf)] ++ sT G ra pa qa qb (rugF w0 w1) (planF w0 w1) (vT w0) (runF w0) (vT w1) (runF w1)) → va_S A s.heap H locs → lv_has ls 4 [(0, .ref o), (1, .int (nI z2)), (2, .int (nI x)), (3, .int (nI y))] → W p l e ({ frames := 0, cells := 0, slots := 0, locals := 0 } : Room) s m args below meth c H locs 0 0 Qs (F0 m 12 ls []) := by
          intro fu_12
          induction fu_12 with
          | zero =>
            intro y z2 hy hz2 hf2
            exact absurd hf2 (by omega)
          | succ fu_12 ih_12 =>
            intro y z2 hy hz2 hf2 H locs ls hP hD hS hl
            refine lv_iload_n hx hb dX4_differ_12 rfl (lv_at hl 3 rfl) ?_
            refine lv_bipush (v := nI 10) hx hb dX4_differ_13 (by decide) ?_
            refine lv_icmp_ge (tgt := 62) hx hb dX4_differ_15 (by decide) (fun c_15 => ?_) (fun c_15 => ?_)
            · have c_15 : 10 ≤ y := (nI_leI (a := 10) (b := y) (by omega) (by omega)).mp c_15
              refine lv_iinc (v := nI (x + 1)) (lv' := [(2, .int (nI (x + 1))), (0, .ref o), (1, .int (nI z2)), (3, .int (nI y))]) hx hb dX4_differ_62 hl (k := 2) rfl (nI_add x 1) (by decide) rfl (fun ls hl => ?_)
              refine lv_goto (tgt := 4) hx hb dX4_differ_65 (by decide) ?_
              exact ih_4 (x + 1) z2 (by omega) (by rw [hz2, show y = 10 by omega]; rfl) (by omega) _ _ _ hP hD hS (lv_sub hl [1, 2, 0] rfl)
            · have c_15 : ¬ (10 ≤ y) := fun h9 => c_15 ((nI_leI (a := 10) (b := y) (by omega) (by omega)).mpr h9)
              refine lv_iload_n hx hb dX4_differ_18 rfl (lv_at hl 1 rfl) ?_
              refine lv_aload_n hx hb dX4_differ_19 rfl (lv_at hl 0 rfl) ?_
              refine va_get (D := G.1) (ci := 4) (v := .ref rg) (C := RX4) (T := TX4) (N := 8) hx hb hts hq_0 hown hK.1 hP 0 rfl rfl 0 (by decide) hq_1 (fun _ h9 => h9) rfl dX4_differ_20 ?_
              refine lv_iload_n hx hb dX4_differ_23 rfl (lv_at hl 2 rfl) ?_
              have hi_1 : x < 12 := by omega
              refine k_aldg hx hb hK hP 1 x rfl (vp_in_nI hi_1 (by omega)) (nI_clamp (Nat.lt_of_lt_of_le hi_1 (by omega))) (oA_at hi_1) dX4_differ_24 ?_
              refine lv_iload_n hx hb dX4_differ_25 rfl (lv_at hl 3 rfl) ?_
              have hi_2 : y < 10 := by omega
              refine va_iald (D := G.1) hx hb hK.1 hP _ 0 (sT_r (i := x) (by omega)) rfl (vp_in_nI hi_2 (by omega)) dX4_differ_26 ?_
              refine lv_topi (fun y_3 hy_3 => ?_)
              obtain rfl : y_3 = (rugF w0 w1) x y := hy_3.trans (congrArg _ (nI_clamp (by omega)))
              refine lv_topi (fun y_4 hy_4 => ?_)
              obtain rfl : y_4 = ktN w0 w1 x y := hy_4.trans (rugF_at (by omega) (by omega))
              refine lv_if_lt (tgt := 53) hx hb dX4_differ_27 (by decide) (fun c_27 => ?_) (fun c_27 => ?_)
              · have hde : dfE w0 w1 x y = 0 := dfE_a c_27
                refine lv_iconst (v := nI 0) hx hb dX4_differ_53 (by decide) ?_
                refine lv_iadd hx hb dX4_differ_54 ?_
                refine lv_topi (fun y_5 hy_5 => ?_)
                obtain rfl : y_5 = nI (z2 + 0) := hy_5.trans (nI_add z2 0)
                refine lv_istore_n (lv' := [(1, .int (nI (z2 + 0))), (0, .ref o), (2, .int (nI x)), (3, .int (nI y))]) hx hb dX4_differ_55 rfl hl (by decide) rfl (fun ls hl => ?_)
                refine lv_iinc (v := nI (y + 1)) (lv' := [(3, .int (nI (y + 1))), (1, .int (nI (z2 + 0))), (0, .ref o), (2, .int (nI x))]) hx hb dX4_differ_56 hl (k := 3) rfl (nI_add y 1) (by decide) rfl (fun ls hl => ?_)
                refine lv_goto (tgt := 12) hx hb dX4_differ_59 (by decide) ?_
                exact ih_12 (y + 1) (z2 + 0) (by omega) (by rw [hz2]; show _ = _ + (_ + dfE w0 w1 x y); rw [hde]; omega) (by omega) _ _ _ hP hD hS (lv_sub hl [2, 1, 3, 0] rfl)
              · refine lv_aload_n hx hb dX4_differ_30 rfl (lv_at hl 0 rfl) ?_
                refine va_get (D := G.1) (ci := 4) (v := .ref rg) (C := RX4) (T := TX4) (N := 8) hx hb hts hq_0 hown hK.1 hP 0 rfl rfl 0 (by decide) hq_1 (fun _ h9 => h9) rfl dX4_differ_31 ?_
                refine lv_iload_n hx hb dX4_differ_34 rfl (lv_at hl 2 rfl) ?_
                have hi_6 : x < 12 := by omega
                refine k_aldg hx hb hK hP 1 x rfl (vp_in_nI hi_6 (by omega)) (nI_clamp (Nat.lt_of_lt_of_le hi_6 (by omega))) (oA_at hi_6) dX4_differ_35 ?_
                refine lv_iload_n hx hb dX4_differ_36 rfl (lv_at hl 3 rfl) ?_
                have hi_7 : y < 10 := by omega
                refine va_iald (D := G.1) hx hb hK.1 hP _ 0 (sT_r (i := x) (by omega)) rfl (vp_in_nI hi_7 (by omega)) dX4_differ_37 ?_
                refine lv_topi (fun y_8 hy_8 => ?_)
                obtain rfl : y_8 = (rugF w0 w1) x y := hy_8.trans (congrArg _ (nI_clamp (by omega)))
                refine lv_topi (fun y_9 hy_9 => ?_)
                obtain rfl : y_9 = ktN w0 w1 x y := hy_9.trans (rugF_at (by omega) (by omega))
                refine lv_aload_n hx hb dX4_differ_38 rfl (lv_at hl 0 rfl) ?_
                refine va_get (D := G.1) (ci := 4) (v := .ref pg) (C := RX4) (T := TX4) (N := 8) hx hb hts hq_0 hown hK.1 hP 0 rfl rfl 1 (by decide) hq_2 (fun _ h9 => h9) rfl dX4_differ_39 ?_
                refine lv_iload_n hx hb dX4_differ_42 rfl (lv_at hl 2 rfl) ?_
                have hi_10 : x < 12 := by omega
                refine k_aldg hx hb hK hP 2 x rfl (vp_in_nI hi_10 (by omega)) (nI_clamp (Nat.lt_of_lt_of_le hi_10 (by omega))) (oA_at hi_10) dX4_differ_43 ?_
                refine lv_iload_n hx hb dX4_differ_44 rfl (lv_at hl 3 rfl) ?_
                have hi_11 : y < 10 := by omega
                refine va_iald (D := G.1) hx hb hK.1 hP _ 0 (sT_p (i := x) (by omega)) rfl (vp_in_nI hi_11 (by omega)) dX4_differ_45 ?_
                refine lv_topi (fun y_12 hy_12 => ?_)
                obtain rfl : y_12 = (planF w0 w1) x y := hy_12.trans (congrArg _ (nI_clamp (by omega)))
                refine lv_topi (fun y_13 hy_13 => ?_)
                obtain rfl : y_13 = nI (ptN w0 w1 x y) := hy_13.trans (planF_at (by omega) (by omega))
                refine lv_icmp_eq (tgt := 53) hx hb dX4_differ_46 (by decide) (fun c_46 => ?_) (fun c_46 => ?_)
                · have hde : dfE w0 w1 x y = 0 := dfE_b c_46
                  refine lv_iconst (v := nI 0) hx hb dX4_differ_53 (by decide) ?_
                  refine lv_iadd hx hb dX4_differ_54 ?_
                  refine lv_topi (fun y_14 hy_14 => ?_)
                  obtain rfl : y_14 = nI (z2 + 0) := hy_14.trans (nI_add z2 0)
                  refine lv_istore_n (lv' := [(1, .int (nI (z2 + 0))), (0, .ref o), (2, .int (nI x)), (3, .int (nI y))]) hx hb dX4_differ_55 rfl hl (by decide) rfl (fun ls hl => ?_)
                  refine lv_iinc (v := nI (y + 1)) (lv' := [(3, .int (nI (y + 1))), (1, .int (nI (z2 + 0))), (0, .ref o), (2, .int (nI x))]) hx hb dX4_differ_56 hl (k := 3) rfl (nI_add y 1) (by decide) rfl (fun ls hl => ?_)
                  refine lv_goto (tgt := 12) hx hb dX4_differ_59 (by decide) ?_
                  exact ih_12 (y + 1) (z2 + 0) (by omega) (by rw [hz2]; show _ = _ + (_ + dfE w0 w1 x y); rw [hde]; omega) (by omega) _ _ _ hP hD hS (lv_sub hl [2, 1, 3, 0] rfl)
                · have hde : dfE w0 w1 x y = 1 := dfE_1 c_27 c_46
                  refine lv_iconst (v := nI 1) hx hb dX4_differ_49 (by decide) ?_
                  refine lv_goto (tgt := 54) hx hb dX4_differ_50 (by decide) ?_
                  refine lv_iadd hx hb dX4_differ_54 ?_
                  refine lv_topi (fun y_15 hy_15 => ?_)
                  obtain rfl : y_15 = nI (z2 + 1) := hy_15.trans (nI_add z2 1)
                  refine lv_istore_n (lv' := [(1, .int (nI (z2 + 1))), (0, .ref o), (2, .int (nI x)), (3, .int (nI y))]) hx hb dX4_differ_55 rfl hl (by decide) rfl (fun ls hl => ?_)
                  refine lv_iinc (v := nI (y + 1)) (lv' := [(3, .int (nI (y + 1))), (1, .int (nI (z2 + 1))), (0, .ref o), (2, .int (nI x))]) hx hb dX4_differ_56 hl (k := 3) rfl (nI_add y 1) (by decide) rfl (fun ls hl => ?_)
                  refine lv_goto (tgt := 12) hx hb dX4_differ_59 (by decide) ?_
                  exact ih_12 (y + 1) (z2 + 1) (by omega) (by rw [hz2]; show _ = _ + (_ + dfE w0 w1 x y); rw [hde]; omega) (by omega) _ _ _ hP hD hS (lv_sub hl [2, 1, 3, 0] rfl)
        exact loop_12 11 0 z (by omega) (by rw [hz]; rfl) (by omega) H locs ls hP hD hS (lv_sub hl [1, 2, 3, 0] rfl)
  exact loop_4 13 0 0 (by omega) rfl (by omega) H locs ls hP hD hS (lv_sub hl [2, 1, 0] rfl)
set_option maxHeartbeats 4000000 in
set_option maxRecDepth 100000 in
theorem s_isRow0 (l : Launch) (G : kG) (o : Nat) (rg : Nat) (pg : Nat) (rr : Nat) (e0 : Nat) (e1 : Nat) (sp : Nat) (ot : Nat) (wo : Nat) (ra : Nat → Nat) (pa : Nat → Nat) (qa : Nat → Nat) (qb : Nat → Nat) (w0 : Wv) (w1 : Wv) (bf : Nat → Nat) (ho : Nat) (un : Nat) (y : Nat) (h0 : wOk w0) (h1 : wOk w1) (hB : bOk bf) (hy10 : y < 10) : kM l G yX4_isRow wsX4_isRow ({ frames := 1, cells := 0, slots := 0, locals := 21 } : Room) [.ref o, .int (nI 0), .int (nI y)] ([kO o 4 [.ref rg, .ref pg, .ref rr, .ref sp, .ref ot, .ref wo, .int (nI ho), .int (nI un)], kGd G rg 12 (oA 12 ra), kGd G pg 12 (oA 12 pa), kH G rr 2 (oR e0 e1), kGd G e0 (vT w0) (oA (vT w0) qa), kGd G e1 (vT w1) (oA (vT w1) qb), kC G sp 2 (nR (w2 (vS w0) (vS w1))), kC G ot 2 (nR (w2 (vO w0) (vO w1))), kC G wo 8 (nR bf)] ++ sT G ra pa qa qb (rugF w0 w1) (planF w0 w1) (vT w0) (runF w0) (vT w1) (runF w1)) (kQi G ([kO o 4 [.ref rg, .ref pg, .ref rr, .ref sp, .ref ot, .ref wo, .int (nI ho), .int (nI un)], kGd G rg 12 (oA 12 ra), kGd G pg 12 (oA 12 pa), kH G rr 2 (oR e0 e1), kGd G e0 (vT w0) (oA (vT w0) qa), kGd G e1 (vT w1) (oA (vT w1) qb), kC G sp 2 (nR (w2 (vS w0) (vS w1))), kC G ot 2 (nR (w2 (vO w0) (vO w1))), kC G wo 8 (nR bf)] ++ sT G ra pa qa qb (rugF w0 w1) (planF w0 w1) (vT w0) (runF w0) (vT w1) (runF w1)) (fun (r : Int32) (_ : Unit) => (r = nI 1 ∧ (y < vM w0 / 6)) ∨ (r = nI 0 ∧ ¬ (y < vM w0 / 6))) (fun (_ : Unit) => ([kO o 4 [.ref rg, .ref pg, .ref rr, .ref sp, .ref ot, .ref wo, .int (nI ho), .int (nI un)], kGd G rg 12 (oA 12 ra), kGd G pg 12 (oA 12 pa), kH G rr 2 (oR e0 e1), kGd G e0 (vT w0) (oA (vT w0) qa), kGd G e1 (vT w1) (oA (vT w1) qb), kC G sp 2 (nR (w2 (vS w0) (vS w1))), kC G ot 2 (nR (w2 (vO w0) (vO w1))), kC G wo 8 (nR bf)] ++ sT G ra pa qa qb (rugF w0 w1) (planF w0 w1) (vT w0) (runF w0) (vT w1) (runF w1)))) := by
  refine k_ofW (cc := cX4_isRow) (maxL := 4) (rt := (some .boolean)) (by decide) rfl (Nat.le_of_ble_eq_true rfl) ?_
  intro p e s m args below meth c A ls Qs H locs hQ hAe hx hb hr hml hts hown hlocks hin hK hZ hP hD hS hA hl
  have hown : s.vm.findClass RX4 = some m.cls := hown
  have hl : lv_has ls 4 [(0, .ref o), (1, .int (nI 0)), (2, .int (nI y))] := hl
  have m0b : vM w0 ≤ 60 := h0.2.2.2.1
  have m1b : vM w1 ≤ 60 := h1.2.2.2.1
  have t0b : vT w0 ≤ 20 := h0.2.2.1
  have t1b : vT w1 ≤ 20 := h1.2.2.1
  have pb0 : ∀ i, i < 60 → vP w0 i < 8 := h0.2.2.2.2.1
  have pb1 : ∀ i, i < 60 → vP w1 i < 8 := h1.2.2.2.2.1
  have kb0 : ∀ i, i < 60 → vK w0 i < 8 := h0.2.2.2.2.2.1
  have kb1 : ∀ i, i < 60 → vK w1 i < 8 := h1.2.2.2.2.2.1
  have cb0 : ∀ i, i < vT w0 → vC w0 i < 8 := h0.2.2.2.2.2.2.1
  have cb1 : ∀ i, i < vT w1 → vC w1 i < 8 := h1.2.2.2.2.2.2.1
  have nb0 : ∀ i, i < vT w0 → 1 ≤ vN w0 i ∧ vN w0 i ≤ 60 := h0.2.2.2.2.2.2.2
  have nb1 : ∀ i, i < vT w1 → 1 ≤ vN w1 i ∧ vN w1 i ≤ 60 := h1.2.2.2.2.2.2.2
  have sb0 : vS w0 ≤ 6 := h0.2.1
  have sb1 : vS w1 ≤ 6 := h1.2.1
  have hq_0 : ∀ w ∈ wsX40, w ∈ wsX4_isRow := by decide +kernel
  have hq_1 : (Cond.fieldLink RX4 9 "KnotRugsLaw$Sim" "rug" "[[I").before args s = true := hts _ (by decide +kernel)
  refine lv_iconst (v := nI 0) hx hb dX4_isRow_0 (by decide) ?_
  refine lv_istore_n (lv' := [(3, .int (nI 0)), (0, .ref o), (1, .int (nI 0)), (2, .int (nI y))]) hx hb dX4_isRow_1 rfl hl (by decide) rfl (fun ls hl => ?_)
  have loop_2 : ∀ (fu_2 : Nat) (k : Nat), k ≤ 6 → k = 0 ∨ 6 * y + k ≤ vM w0 → 6 < k + fu_2 → ∀ (H : Heap) (locs : List Loc) (ls : Array Slot), va_P G.1 vwCl ([kO o 4 [.ref rg, .ref pg, .ref rr, .ref sp, .ref ot, .ref wo, .int (nI ho), .int (nI un)], kGd G rg 12 (oA 12 ra), kGd G pg 12 (oA 12 pa), kH G rr 2 (oR e0 e1), kGd G e0 (vT w0) (oA (vT w0) qa), kGd G e1 (vT w1) (oA (vT w1) qb), kC G sp 2 (nR (w2 (vS w0) (vS w1))), kC G ot 2 (nR (w2 (vO w0) (vO w1))), kC G wo 8 (nR bf)] ++ sT G ra pa qa qb (rugF w0 w1) (planF w0 w1) (vT w0) (runF w0) (vT w1) (runF w1)) H → va_D A ([kO o 4 [.ref rg, .ref pg, .ref rr, .ref sp, .ref ot, .ref wo, .int (nI ho), .int (nI un)], kGd G rg 12 (oA 12 ra), kGd G pg 12 (oA 12 pa), kH G rr 2 (oR e0 e1), kGd G e0 (vT w0) (oA (vT w0) qa), kGd G e1 (vT w1) (oA (vT w1) qb), kC G sp 2 (nR (w2 (vS w0) (vS w1))), kC G ot 2 (nR (w2 (vO w0) (vO w1))), kC G wo 8 (nR bf)] ++ sT G ra pa qa qb (rugF w0 w1) (planF w0 w1) (vT w0) (runF w0) (vT w1) (runF w1)) → va_S A s.heap H locs → lv_has ls 4 [(0, .ref o), (1, .int (nI 0)), (2, .int (nI y)), (3, .int (nI k))] → W p l e ({ frames := 1, cells := 0, slots := 0, locals := 21 } : Room) s m args below meth c H locs 0 0 Qs (F0 m 2 ls []) := by
    intro fu_2
    induction fu_2 with
    | zero =>
      intro k hk hq hf
      exact absurd hf (by omega)
    | succ fu_2 ih_2 =>
      intro k hk hq hf H locs ls hP hD hS hl
      refine lv_iload_n hx hb dX4_isRow_2 rfl (lv_at hl 3 rfl) ?_
      refine lv_bipush (v := nI 6) hx hb dX4_isRow_3 (by decide) ?_
      refine lv_icmp_ge (tgt := 31) hx hb dX4_isRow_5 (by decide) (fun c_5 => ?_) (fun c_5 => ?_)
      · have c_5 : 6 ≤ k := (nI_leI (a := 6) (b := k) (by omega) (by omega)).mp c_5
        refine lv_iconst (v := nI 1) hx hb dX4_isRow_31 (by decide) ?_
        exact k_zret (ws := ([kO o 4 [.ref rg, .ref pg, .ref rr, .ref sp, .ref ot, .ref wo, .int (nI ho), .int (nI un)], kGd G rg 12 (oA 12 ra), kGd G pg 12 (oA 12 pa), kH G rr 2 (oR e0 e1), kGd G e0 (vT w0) (oA (vT w0) qa), kGd G e1 (vT w1) (oA (vT w1) qb), kC G sp 2 (nR (w2 (vS w0) (vS w1))), kC G ot 2 (nR (w2 (vO w0) (vO w1))), kC G wo 8 (nR bf)] ++ sT G ra pa qa qb (rugF w0 w1) (planF w0 w1) (vT w0) (runF w0) (vT w1) (runF w1))) (()) hx hb hr rfl hlocks hP hD hS hAe hQ (Nat.le_of_ble_eq_true rfl) (Nat.le_of_ble_eq_true rfl) dX4_isRow_32 (rfl) (Or.inl ⟨rfl, by omega⟩)
      · have c_5 : ¬ (6 ≤ k) := fun h9 => c_5 ((nI_leI (a := 6) (b := k) (by omega) (by omega)).mpr h9)
        refine lv_aload_n hx hb dX4_isRow_8 rfl (lv_at hl 0 rfl) ?_
        refine va_get (D := G.1) (ci := 4) (v := .ref rg) (C := RX4) (T := TX4) (N := 8) hx hb hts hq_0 hown hK.1 hP 0 rfl rfl 0 (by decide) hq_1 (fun _ h9 => h9) rfl dX4_isRow_9 ?_
        refine lv_iload_n hx hb dX4_isRow_12 rfl (lv_at hl 1 rfl) ?_
        refine lv_iload_n hx hb dX4_isRow_13 rfl (lv_at hl 3 rfl) ?_
        refine k_callQi (S := Unit) (wfx := fun _ => []) (fun _ => [kO o 4 [.ref rg, .ref pg, .ref rr, .ref sp, .ref ot, .ref wo, .int (nI ho), .int (nI un)], kGd G rg 12 (oA 12 ra), kGd G pg 12 (oA 12 pa), kH G rr 2 (oR e0 e1), kGd G e0 (vT w0) (oA (vT w0) qa), kGd G e1 (vT w1) (oA (vT w1) qb), kC G sp 2 (nR (w2 (vS w0) (vS w1))), kC G ot 2 (nR (w2 (vO w0) (vO w1))), kC G wo 8 (nR bf)]) [kO o 4 [.ref rg, .ref pg, .ref rr, .ref sp, .ref ot, .ref wo, .int (nI ho), .int (nI un)], kGd G rg 12 (oA 12 ra), kGd G pg 12 (oA 12 pa), kH G rr 2 (oR e0 e1), kGd G e0 (vT w0) (oA (vT w0) qa), kGd G e1 (vT w1) (oA (vT w1) qb), kC G sp 2 (nR (w2 (vS w0) (vS w1))), kC G ot 2 (nR (w2 (vO w0) (vO w1))), kC G wo 8 (nR bf)] (k_runS (As := [.int (nI 0), .int (nI k)]) (rest := [.ref rg]) (wc := []) ⟨hx, hb, hml, hown, hts⟩ (s_x0 l G k (by omega)) (va_cwS 2 hts gX4_isRow_X4_x rfl rfl rfl (by decide +kernel) ⟨Nat.le_of_ble_eq_true rfl, Nat.le_of_ble_eq_true rfl⟩) hK hZ hP hD hS hA [] rfl rfl rfl hl.1 rfl (Nat.le_of_ble_eq_true rfl) dX4_isRow_14 ⟨(Nat.le_of_ble_eq_true rfl), (Nat.le_of_ble_eq_true rfl)⟩) hP hD hS hA [] [0, 1, 2, 3, 4, 5, 6, 7, 8] [0, 1, 2, 3, 4, 5, 6, 7, 8] rfl rfl rfl rfl (by decide) (fun _ => rfl) rfl (fun r_14 u_14 H locs hp_14 hP hD hS => ?_)
        have hp_14 : r_14 = nI (colOf 0 k) := hp_14
        subst hp_14
        have hi_1 : (colOf 0 k) < 12 := colOf_lt
        refine k_aldg hx hb hK hP 1 (colOf 0 k) rfl (vp_in_nI hi_1 (by omega)) (nI_clamp (Nat.lt_of_lt_of_le hi_1 (by omega))) (oA_at hi_1) dX4_isRow_17 ?_
        refine lv_iload_n hx hb dX4_isRow_18 rfl (lv_at hl 2 rfl) ?_
        have hi_2 : y < 10 := by omega
        refine va_iald (D := G.1) hx hb hK.1 hP _ 0 (sT_r (i := (colOf 0 k)) colOf_lt) rfl (vp_in_nI hi_2 (by omega)) dX4_isRow_19 ?_
        refine lv_topi (fun y_3 hy_3 => ?_)
        obtain rfl : y_3 = (rugF w0 w1) (colOf 0 k) y := hy_3.trans (congrArg _ (nI_clamp (by omega)))
        refine lv_topi (fun y_4 hy_4 => ?_)
        obtain rfl : y_4 = kaW w0 (6 * y + k) := hy_4.trans (rug_r0 (by omega) (by omega))
        refine lv_if_ge (tgt := 25) hx hb dX4_isRow_20 (by decide) (fun c_20 => ?_) (fun c_20 => ?_)
        · have hk8 : 6 * y + k < vM w0 := Classical.byContradiction (fun q => (Int32.not_lt.mpr c_20) ((kaW_iff h0 (by omega)).mpr q))
          refine lv_iinc (v := nI (k + 1)) (lv' := [(3, .int (nI (k + 1))), (0, .ref o), (1, .int (nI 0)), (2, .int (nI y))]) hx hb dX4_isRow_25 hl (k := 3) rfl (nI_add k 1) (by decide) rfl (fun ls hl => ?_)
          refine lv_goto (tgt := 2) hx hb dX4_isRow_28 (by decide) ?_
          exact ih_2 (k + 1) (by omega) (Or.inr (by omega)) (by omega) _ _ _ hP hD hS (lv_sub hl [1, 2, 3, 0] rfl)
        · have hk9 : ¬ 6 * y + k < vM w0 := (kaW_iff h0 (by omega)).mp (Classical.byContradiction (fun q => c_20 (Int32.not_lt.mp q)))
          refine lv_iconst (v := nI 0) hx hb dX4_isRow_23 (by decide) ?_
          exact k_zret (ws := ([kO o 4 [.ref rg, .ref pg, .ref rr, .ref sp, .ref ot, .ref wo, .int (nI ho), .int (nI un)], kGd G rg 12 (oA 12 ra), kGd G pg 12 (oA 12 pa), kH G rr 2 (oR e0 e1), kGd G e0 (vT w0) (oA (vT w0) qa), kGd G e1 (vT w1) (oA (vT w1) qb), kC G sp 2 (nR (w2 (vS w0) (vS w1))), kC G ot 2 (nR (w2 (vO w0) (vO w1))), kC G wo 8 (nR bf)] ++ sT G ra pa qa qb (rugF w0 w1) (planF w0 w1) (vT w0) (runF w0) (vT w1) (runF w1))) (()) hx hb hr rfl hlocks hP hD hS hAe hQ (Nat.le_of_ble_eq_true rfl) (Nat.le_of_ble_eq_true rfl) dX4_isRow_24 (rfl) (Or.inr ⟨rfl, by omega⟩)
  exact loop_2 7 0 (by omega) (Or.inl rfl) (by omega) H locs ls hP hD hS (lv_sub hl [1, 2, 3, 0] rfl)
set_option maxHeartbeats 4000000 in
set_option maxRecDepth 100000 in
theorem s_isRow1 (l : Launch) (G : kG) (o : Nat) (rg : Nat) (pg : Nat) (rr : Nat) (e0 : Nat) (e1 : Nat) (sp : Nat) (ot : Nat) (wo : Nat) (ra : Nat → Nat) (pa : Nat → Nat) (qa : Nat → Nat) (qb : Nat → Nat) (w0 : Wv) (w1 : Wv) (bf : Nat → Nat) (ho : Nat) (un : Nat) (y : Nat) (h0 : wOk w0) (h1 : wOk w1) (hB : bOk bf) (hy10 : y < 10) : kM l G yX4_isRow wsX4_isRow ({ frames := 1, cells := 0, slots := 0, locals := 21 } : Room) [.ref o, .int (nI 1), .int (nI y)] ([kO o 4 [.ref rg, .ref pg, .ref rr, .ref sp, .ref ot, .ref wo, .int (nI ho), .int (nI un)], kGd G rg 12 (oA 12 ra), kGd G pg 12 (oA 12 pa), kH G rr 2 (oR e0 e1), kGd G e0 (vT w0) (oA (vT w0) qa), kGd G e1 (vT w1) (oA (vT w1) qb), kC G sp 2 (nR (w2 (vS w0) (vS w1))), kC G ot 2 (nR (w2 (vO w0) (vO w1))), kC G wo 8 (nR bf)] ++ sT G ra pa qa qb (rugF w0 w1) (planF w0 w1) (vT w0) (runF w0) (vT w1) (runF w1)) (kQi G ([kO o 4 [.ref rg, .ref pg, .ref rr, .ref sp, .ref ot, .ref wo, .int (nI ho), .int (nI un)], kGd G rg 12 (oA 12 ra), kGd G pg 12 (oA 12 pa), kH G rr 2 (oR e0 e1), kGd G e0 (vT w0) (oA (vT w0) qa), kGd G e1 (vT w1) (oA (vT w1) qb), kC G sp 2 (nR (w2 (vS w0) (vS w1))), kC G ot 2 (nR (w2 (vO w0) (vO w1))), kC G wo 8 (nR bf)] ++ sT G ra pa qa qb (rugF w0 w1) (planF w0 w1) (vT w0) (runF w0) (vT w1) (runF w1)) (fun (r : Int32) (_ : Unit) => (r = nI 1 ∧ (y < vM w1 / 6)) ∨ (r = nI 0 ∧ ¬ (y < vM w1 / 6))) (fun (_ : Unit) => ([kO o 4 [.ref rg, .ref pg, .ref rr, .ref sp, .ref ot, .ref wo, .int (nI ho), .int (nI un)], kGd G rg 12 (oA 12 ra), kGd G pg 12 (oA 12 pa), kH G rr 2 (oR e0 e1), kGd G e0 (vT w0) (oA (vT w0) qa), kGd G e1 (vT w1) (oA (vT w1) qb), kC G sp 2 (nR (w2 (vS w0) (vS w1))), kC G ot 2 (nR (w2 (vO w0) (vO w1))), kC G wo 8 (nR bf)] ++ sT G ra pa qa qb (rugF w0 w1) (planF w0 w1) (vT w0) (runF w0) (vT w1) (runF w1)))) := by
  refine k_ofW (cc := cX4_isRow) (maxL := 4) (rt := (some .boolean)) (by decide) rfl (Nat.le_of_ble_eq_true rfl) ?_
  intro p e s m args below meth c A ls Qs H locs hQ hAe hx hb hr hml hts hown hlocks hin hK hZ hP hD hS hA hl
  have hown : s.vm.findClass RX4 = some m.cls := hown
  have hl : lv_has ls 4 [(0, .ref o), (1, .int (nI 1)), (2, .int (nI y))] := hl
  have m0b : vM w0 ≤ 60 := h0.2.2.2.1
  have m1b : vM w1 ≤ 60 := h1.2.2.2.1
  have t0b : vT w0 ≤ 20 := h0.2.2.1
  have t1b : vT w1 ≤ 20 := h1.2.2.1
  have pb0 : ∀ i, i < 60 → vP w0 i < 8 := h0.2.2.2.2.1
  have pb1 : ∀ i, i < 60 → vP w1 i < 8 := h1.2.2.2.2.1
  have kb0 : ∀ i, i < 60 → vK w0 i < 8 := h0.2.2.2.2.2.1
  have kb1 : ∀ i, i < 60 → vK w1 i < 8 := h1.2.2.2.2.2.1
  have cb0 : ∀ i, i < vT w0 → vC w0 i < 8 := h0.2.2.2.2.2.2.1
  have cb1 : ∀ i, i < vT w1 → vC w1 i < 8 := h1.2.2.2.2.2.2.1
  have nb0 : ∀ i, i < vT w0 → 1 ≤ vN w0 i ∧ vN w0 i ≤ 60 := h0.2.2.2.2.2.2.2
  have nb1 : ∀ i, i < vT w1 → 1 ≤ vN w1 i ∧ vN w1 i ≤ 60 := h1.2.2.2.2.2.2.2
  have sb0 : vS w0 ≤ 6 := h0.2.1
  have sb1 : vS w1 ≤ 6 := h1.2.1
  have hq_0 : ∀ w ∈ wsX40, w ∈ wsX4_isRow := by decide +kernel
  have hq_1 : (Cond.fieldLink RX4 9 "KnotRugsLaw$Sim" "rug" "[[I").before args s = true := hts _ (by decide +kernel)
  refine lv_iconst (v := nI 0) hx hb dX4_isRow_0 (by decide) ?_
  refine lv_istore_n (lv' := [(3, .int (nI 0)), (0, .ref o), (1, .int (nI 1)), (2, .int (nI y))]) hx hb dX4_isRow_1 rfl hl (by decide) rfl (fun ls hl => ?_)
  have loop_2 : ∀ (fu_2 : Nat) (k : Nat), k ≤ 6 → k = 0 ∨ 6 * y + k ≤ vM w1 → 6 < k + fu_2 → ∀ (H : Heap) (locs : List Loc) (ls : Array Slot), va_P G.1 vwCl ([kO o 4 [.ref rg, .ref pg, .ref rr, .ref sp, .ref ot, .ref wo, .int (nI ho), .int (nI un)], kGd G rg 12 (oA 12 ra), kGd G pg 12 (oA 12 pa), kH G rr 2 (oR e0 e1), kGd G e0 (vT w0) (oA (vT w0) qa), kGd G e1 (vT w1) (oA (vT w1) qb), kC G sp 2 (nR (w2 (vS w0) (vS w1))), kC G ot 2 (nR (w2 (vO w0) (vO w1))), kC G wo 8 (nR bf)] ++ sT G ra pa qa qb (rugF w0 w1) (planF w0 w1) (vT w0) (runF w0) (vT w1) (runF w1)) H → va_D A ([kO o 4 [.ref rg, .ref pg, .ref rr, .ref sp, .ref ot, .ref wo, .int (nI ho), .int (nI un)], kGd G rg 12 (oA 12 ra), kGd G pg 12 (oA 12 pa), kH G rr 2 (oR e0 e1), kGd G e0 (vT w0) (oA (vT w0) qa), kGd G e1 (vT w1) (oA (vT w1) qb), kC G sp 2 (nR (w2 (vS w0) (vS w1))), kC G ot 2 (nR (w2 (vO w0) (vO w1))), kC G wo 8 (nR bf)] ++ sT G ra pa qa qb (rugF w0 w1) (planF w0 w1) (vT w0) (runF w0) (vT w1) (runF w1)) → va_S A s.heap H locs → lv_has ls 4 [(0, .ref o), (1, .int (nI 1)), (2, .int (nI y)), (3, .int (nI k))] → W p l e ({ frames := 1, cells := 0, slots := 0, locals := 21 } : Room) s m args below meth c H locs 0 0 Qs (F0 m 2 ls []) := by
    intro fu_2
    induction fu_2 with
    | zero =>
      intro k hk hq hf
      exact absurd hf (by omega)
    | succ fu_2 ih_2 =>
      intro k hk hq hf H locs ls hP hD hS hl
      refine lv_iload_n hx hb dX4_isRow_2 rfl (lv_at hl 3 rfl) ?_
      refine lv_bipush (v := nI 6) hx hb dX4_isRow_3 (by decide) ?_
      refine lv_icmp_ge (tgt := 31) hx hb dX4_isRow_5 (by decide) (fun c_5 => ?_) (fun c_5 => ?_)
      · have c_5 : 6 ≤ k := (nI_leI (a := 6) (b := k) (by omega) (by omega)).mp c_5
        refine lv_iconst (v := nI 1) hx hb dX4_isRow_31 (by decide) ?_
        exact k_zret (ws := ([kO o 4 [.ref rg, .ref pg, .ref rr, .ref sp, .ref ot, .ref wo, .int (nI ho), .int (nI un)], kGd G rg 12 (oA 12 ra), kGd G pg 12 (oA 12 pa), kH G rr 2 (oR e0 e1), kGd G e0 (vT w0) (oA (vT w0) qa), kGd G e1 (vT w1) (oA (vT w1) qb), kC G sp 2 (nR (w2 (vS w0) (vS w1))), kC G ot 2 (nR (w2 (vO w0) (vO w1))), kC G wo 8 (nR bf)] ++ sT G ra pa qa qb (rugF w0 w1) (planF w0 w1) (vT w0) (runF w0) (vT w1) (runF w1))) (()) hx hb hr rfl hlocks hP hD hS hAe hQ (Nat.le_of_ble_eq_true rfl) (Nat.le_of_ble_eq_true rfl) dX4_isRow_32 (rfl) (Or.inl ⟨rfl, by omega⟩)
      · have c_5 : ¬ (6 ≤ k) := fun h9 => c_5 ((nI_leI (a := 6) (b := k) (by omega) (by omega)).mpr h9)
        refine lv_aload_n hx hb dX4_isRow_8 rfl (lv_at hl 0 rfl) ?_
        refine va_get (D := G.1) (ci := 4) (v := .ref rg) (C := RX4) (T := TX4) (N := 8) hx hb hts hq_0 hown hK.1 hP 0 rfl rfl 0 (by decide) hq_1 (fun _ h9 => h9) rfl dX4_isRow_9 ?_
        refine lv_iload_n hx hb dX4_isRow_12 rfl (lv_at hl 1 rfl) ?_
        refine lv_iload_n hx hb dX4_isRow_13 rfl (lv_at hl 3 rfl) ?_
        refine k_callQi (S := Unit) (wfx := fun _ => []) (fun _ => [kO o 4 [.ref rg, .ref pg, .ref rr, .ref sp, .ref ot, .ref wo, .int (nI ho), .int (nI un)], kGd G rg 12 (oA 12 ra), kGd G pg 12 (oA 12 pa), kH G rr 2 (oR e0 e1), kGd G e0 (vT w0) (oA (vT w0) qa), kGd G e1 (vT w1) (oA (vT w1) qb), kC G sp 2 (nR (w2 (vS w0) (vS w1))), kC G ot 2 (nR (w2 (vO w0) (vO w1))), kC G wo 8 (nR bf)]) [kO o 4 [.ref rg, .ref pg, .ref rr, .ref sp, .ref ot, .ref wo, .int (nI ho), .int (nI un)], kGd G rg 12 (oA 12 ra), kGd G pg 12 (oA 12 pa), kH G rr 2 (oR e0 e1), kGd G e0 (vT w0) (oA (vT w0) qa), kGd G e1 (vT w1) (oA (vT w1) qb), kC G sp 2 (nR (w2 (vS w0) (vS w1))), kC G ot 2 (nR (w2 (vO w0) (vO w1))), kC G wo 8 (nR bf)] (k_runS (As := [.int (nI 1), .int (nI k)]) (rest := [.ref rg]) (wc := []) ⟨hx, hb, hml, hown, hts⟩ (s_x1 l G k (by omega)) (va_cwS 2 hts gX4_isRow_X4_x rfl rfl rfl (by decide +kernel) ⟨Nat.le_of_ble_eq_true rfl, Nat.le_of_ble_eq_true rfl⟩) hK hZ hP hD hS hA [] rfl rfl rfl hl.1 rfl (Nat.le_of_ble_eq_true rfl) dX4_isRow_14 ⟨(Nat.le_of_ble_eq_true rfl), (Nat.le_of_ble_eq_true rfl)⟩) hP hD hS hA [] [0, 1, 2, 3, 4, 5, 6, 7, 8] [0, 1, 2, 3, 4, 5, 6, 7, 8] rfl rfl rfl rfl (by decide) (fun _ => rfl) rfl (fun r_14 u_14 H locs hp_14 hP hD hS => ?_)
        have hp_14 : r_14 = nI (colOf 1 k) := hp_14
        subst hp_14
        have hi_1 : (colOf 1 k) < 12 := colOf_lt
        refine k_aldg hx hb hK hP 1 (colOf 1 k) rfl (vp_in_nI hi_1 (by omega)) (nI_clamp (Nat.lt_of_lt_of_le hi_1 (by omega))) (oA_at hi_1) dX4_isRow_17 ?_
        refine lv_iload_n hx hb dX4_isRow_18 rfl (lv_at hl 2 rfl) ?_
        have hi_2 : y < 10 := by omega
        refine va_iald (D := G.1) hx hb hK.1 hP _ 0 (sT_r (i := (colOf 1 k)) colOf_lt) rfl (vp_in_nI hi_2 (by omega)) dX4_isRow_19 ?_
        refine lv_topi (fun y_3 hy_3 => ?_)
        obtain rfl : y_3 = (rugF w0 w1) (colOf 1 k) y := hy_3.trans (congrArg _ (nI_clamp (by omega)))
        refine lv_topi (fun y_4 hy_4 => ?_)
        obtain rfl : y_4 = kaW w1 (6 * y + k) := hy_4.trans (rug_r1 (by omega) (by omega))
        refine lv_if_ge (tgt := 25) hx hb dX4_isRow_20 (by decide) (fun c_20 => ?_) (fun c_20 => ?_)
        · have hk8 : 6 * y + k < vM w1 := Classical.byContradiction (fun q => (Int32.not_lt.mpr c_20) ((kaW_iff h1 (by omega)).mpr q))
          refine lv_iinc (v := nI (k + 1)) (lv' := [(3, .int (nI (k + 1))), (0, .ref o), (1, .int (nI 1)), (2, .int (nI y))]) hx hb dX4_isRow_25 hl (k := 3) rfl (nI_add k 1) (by decide) rfl (fun ls hl => ?_)
          refine lv_goto (tgt := 2) hx hb dX4_isRow_28 (by decide) ?_
          exact ih_2 (k + 1) (by omega) (Or.inr (by omega)) (by omega) _ _ _ hP hD hS (lv_sub hl [1, 2, 3, 0] rfl)
        · have hk9 : ¬ 6 * y + k < vM w1 := (kaW_iff h1 (by omega)).mp (Classical.byContradiction (fun q => c_20 (Int32.not_lt.mp q)))
          refine lv_iconst (v := nI 0) hx hb dX4_isRow_23 (by decide) ?_
          exact k_zret (ws := ([kO o 4 [.ref rg, .ref pg, .ref rr, .ref sp, .ref ot, .ref wo, .int (nI ho), .int (nI un)], kGd G rg 12 (oA 12 ra), kGd G pg 12 (oA 12 pa), kH G rr 2 (oR e0 e1), kGd G e0 (vT w0) (oA (vT w0) qa), kGd G e1 (vT w1) (oA (vT w1) qb), kC G sp 2 (nR (w2 (vS w0) (vS w1))), kC G ot 2 (nR (w2 (vO w0) (vO w1))), kC G wo 8 (nR bf)] ++ sT G ra pa qa qb (rugF w0 w1) (planF w0 w1) (vT w0) (runF w0) (vT w1) (runF w1))) (()) hx hb hr rfl hlocks hP hD hS hAe hQ (Nat.le_of_ble_eq_true rfl) (Nat.le_of_ble_eq_true rfl) dX4_isRow_24 (rfl) (Or.inr ⟨rfl, by omega⟩)
  exact loop_2 7 0 (by omega) (Or.inl rfl) (by omega) H locs ls hP hD hS (lv_sub hl [1, 2, 3, 0] rfl)
set_option maxHeartbeats 4000000 in
set_option maxRecDepth 100000 in
theorem s_rows0 (l : Launch) (G : kG) (o : Nat) (rg : Nat) (pg : Nat) (rr : Nat) (e0 : Nat) (e1 : Nat) (sp : Nat) (ot : Nat) (wo : Nat) (ra : Nat → Nat) (pa : Nat → Nat) (qa : Nat → Nat) (qb : Nat → Nat) (w0 : Wv) (w1 : Wv) (bf : Nat → Nat) (ho : Nat) (un : Nat) (h0 : wOk w0) (h1 : wOk w1) (hB : bOk bf) : kM l G yX4_rows wsX4_rows ({ frames := 2, cells := 0, slots := 0, locals := 44 } : Room) [.ref o, .int (nI 0)] ([kO o 4 [.ref rg, .ref pg, .ref rr, .ref sp, .ref ot, .ref wo, .int (nI ho), .int (nI un)], kGd G rg 12 (oA 12 ra), kGd G pg 12 (oA 12 pa), kH G rr 2 (oR e0 e1), kGd G e0 (vT w0) (oA (vT w0) qa), kGd G e1 (vT w1) (oA (vT w1) qb), kC G sp 2 (nR (w2 (vS w0) (vS w1))), kC G ot 2 (nR (w2 (vO w0) (vO w1))), kC G wo 8 (nR bf)] ++ sT G ra pa qa qb (rugF w0 w1) (planF w0 w1) (vT w0) (runF w0) (vT w1) (runF w1)) (kQi G ([kO o 4 [.ref rg, .ref pg, .ref rr, .ref sp, .ref ot, .ref wo, .int (nI ho), .int (nI un)], kGd G rg 12 (oA 12 ra), kGd G pg 12 (oA 12 pa), kH G rr 2 (oR e0 e1), kGd G e0 (vT w0) (oA (vT w0) qa), kGd G e1 (vT w1) (oA (vT w1) qb), kC G sp 2 (nR (w2 (vS w0) (vS w1))), kC G ot 2 (nR (w2 (vO w0) (vO w1))), kC G wo 8 (nR bf)] ++ sT G ra pa qa qb (rugF w0 w1) (planF w0 w1) (vT w0) (runF w0) (vT w1) (runF w1)) (fun (r : Int32) (_ : Unit) => r = nI (rwN w0 w1)) (fun (_ : Unit) => ([kO o 4 [.ref rg, .ref pg, .ref rr, .ref sp, .ref ot, .ref wo, .int (nI ho), .int (nI un)], kGd G rg 12 (oA 12 ra), kGd G pg 12 (oA 12 pa), kH G rr 2 (oR e0 e1), kGd G e0 (vT w0) (oA (vT w0) qa), kGd G e1 (vT w1) (oA (vT w1) qb), kC G sp 2 (nR (w2 (vS w0) (vS w1))), kC G ot 2 (nR (w2 (vO w0) (vO w1))), kC G wo 8 (nR bf)] ++ sT G ra pa qa qb (rugF w0 w1) (planF w0 w1) (vT w0) (runF w0) (vT w1) (runF w1)))) := by
  refine k_ofW (cc := cX4_rows) (maxL := 6) (rt := (some .int)) (by decide) rfl (Nat.le_of_ble_eq_true rfl) ?_
  intro p e s m args below meth c A ls Qs H locs hQ hAe hx hb hr hml hts hown hlocks hin hK hZ hP hD hS hA hl
  have hown : s.vm.findClass RX4 = some m.cls := hown
  have hl : lv_has ls 6 [(0, .ref o), (1, .int (nI 0))] := hl
  have m0b : vM w0 ≤ 60 := h0.2.2.2.1
  have m1b : vM w1 ≤ 60 := h1.2.2.2.1
  have t0b : vT w0 ≤ 20 := h0.2.2.1
  have t1b : vT w1 ≤ 20 := h1.2.2.1
  have pb0 : ∀ i, i < 60 → vP w0 i < 8 := h0.2.2.2.2.1
  have pb1 : ∀ i, i < 60 → vP w1 i < 8 := h1.2.2.2.2.1
  have kb0 : ∀ i, i < 60 → vK w0 i < 8 := h0.2.2.2.2.2.1
  have kb1 : ∀ i, i < 60 → vK w1 i < 8 := h1.2.2.2.2.2.1
  have cb0 : ∀ i, i < vT w0 → vC w0 i < 8 := h0.2.2.2.2.2.2.1
  have cb1 : ∀ i, i < vT w1 → vC w1 i < 8 := h1.2.2.2.2.2.2.1
  have nb0 : ∀ i, i < vT w0 → 1 ≤ vN w0 i ∧ vN w0 i ≤ 60 := h0.2.2.2.2.2.2.2
  have nb1 : ∀ i, i < vT w1 → 1 ≤ vN w1 i ∧ vN w1 i ≤ 60 := h1.2.2.2.2.2.2.2
  have sb0 : vS w0 ≤ 6 := h0.2.1
  have sb1 : vS w1 ≤ 6 := h1.2.1
  have hrw : rwN w0 w1 = min (vM w0 / 6) (vM w1 / 6) := rfl
  have hq_0 : ∀ w ∈ wsX40, w ∈ wsX4_rows := by decide +kernel
  have hq_1 : (Cond.fieldLink RX4 9 "KnotRugsLaw$Sim" "rug" "[[I").before args s = true := hts _ (by decide +kernel)
  have hq_2 : (Cond.fieldLink RX4 14 "KnotRugsLaw$Sim" "plan" "[[I").before args s = true := hts _ (by decide +kernel)
  refine lv_iconst (v := nI 0) hx hb dX4_rows_0 (by decide) ?_
  refine lv_istore_n (lv' := [(2, .int (nI 0)), (0, .ref o), (1, .int (nI 0))]) hx hb dX4_rows_1 rfl hl (by decide) rfl (fun ls hl => ?_)
  refine lv_iconst (v := nI 0) hx hb dX4_rows_2 (by decide) ?_
  refine lv_istore_n (lv' := [(3, .int (nI 0)), (2, .int (nI 0)), (0, .ref o), (1, .int (nI 0))]) hx hb dX4_rows_3 rfl hl (by decide) rfl (fun ls hl => ?_)
  have loop_4 : ∀ (fu_4 : Nat) (y : Nat) (z : Nat), y ≤ 10 → z = min y (rwN w0 w1) → 10 < y + fu_4 → ∀ (H : Heap) (locs : List Loc) (ls : Array Slot), va_P G.1 vwCl ([kO o 4 [.ref rg, .ref pg, .ref rr, .ref sp, .ref ot, .ref wo, .int (nI ho), .int (nI un)], kGd G rg 12 (oA 12 ra), kGd G pg 12 (oA 12 pa), kH G rr 2 (oR e0 e1), kGd G e0 (vT w0) (oA (vT w0) qa), kGd G e1 (vT w1) (oA (vT w1) qb), kC G sp 2 (nR (w2 (vS w0) (vS w1))), kC G ot 2 (nR (w2 (vO w0) (vO w1))), kC G wo 8 (nR bf)] ++ sT G ra pa qa qb (rugF w0 w1) (planF w0 w1) (vT w0) (runF w0) (vT w1) (runF w1)) H → va_D A ([kO o 4 [.ref rg, .ref pg, .ref rr, .ref sp, .ref ot, .ref wo, .int (nI ho), .int (nI un)], kGd G rg 12 (oA 12 ra), kGd G pg 12 (oA 12 pa), kH G rr 2 (oR e0 e1), kGd G e0 (vT w0) (oA (vT w0) qa), kGd G e1 (vT w1) (oA (vT w1) qb), kC G sp 2 (nR (w2 (vS w0) (vS w1))), kC G ot 2 (nR (w2 (vO w0) (vO w1))), kC G wo 8 (nR bf)] ++ sT G ra pa qa qb (rugF w0 w1) (planF w0 w1) (vT w0) (runF w0) (vT w1) (runF w1)) → va_S A s.heap H locs → lv_has ls 6 [(0, .ref o), (1, .int (nI 0)), (2, .int (nI z)), (3, .int (nI y))] → W p l e ({ frames := 2, cells := 0, slots := 0, locals := 44 } : Room) s m args below meth c H locs 0 0 Qs (F0 m 4 ls []) := by
    intro fu_4
    induction fu_4 with
    | zero =>
      intro y z hy hz hf
      exact absurd hf (by omega)
    | succ fu_4 ih_4 =>
      intro y z hy hz hf H locs ls hP hD hS hl
      refine lv_iload_n hx hb dX4_rows_4 rfl (lv_at hl 3 rfl) ?_
      refine lv_bipush (v := nI 10) hx hb dX4_rows_5 (by decide) ?_
      refine lv_icmp_ge (tgt := 110) hx hb dX4_rows_7 (by decide) (fun c_7 => ?_) (fun c_7 => ?_)
      · have c_7 : 10 ≤ y := (nI_leI (a := 10) (b := y) (by omega) (by omega)).mp c_7
        have hy9 : y = 10 := by omega
        have hrl : min y (rwN w0 w1) = rwN w0 w1 := by rw [hrw]; omega
        refine lv_iload_n hx hb dX4_rows_110 rfl (lv_at hl 2 rfl) ?_
        exact k_iret (ws := ([kO o 4 [.ref rg, .ref pg, .ref rr, .ref sp, .ref ot, .ref wo, .int (nI ho), .int (nI un)], kGd G rg 12 (oA 12 ra), kGd G pg 12 (oA 12 pa), kH G rr 2 (oR e0 e1), kGd G e0 (vT w0) (oA (vT w0) qa), kGd G e1 (vT w1) (oA (vT w1) qb), kC G sp 2 (nR (w2 (vS w0) (vS w1))), kC G ot 2 (nR (w2 (vO w0) (vO w1))), kC G wo 8 (nR bf)] ++ sT G ra pa qa qb (rugF w0 w1) (planF w0 w1) (vT w0) (runF w0) (vT w1) (runF w1))) (()) hx hb hr hlocks hP hD hS hAe hQ (Nat.le_of_ble_eq_true rfl) (Nat.le_of_ble_eq_true rfl) dX4_rows_111 (rfl) (by rw [hz, hrl])
      · have c_7 : ¬ (10 ≤ y) := fun h9 => c_7 ((nI_leI (a := 10) (b := y) (by omega) (by omega)).mpr h9)
        refine lv_aload_n hx hb dX4_rows_10 rfl (lv_at hl 0 rfl) ?_
        refine lv_iconst (v := nI 0) hx hb dX4_rows_11 (by decide) ?_
        refine lv_iload_n hx hb dX4_rows_12 rfl (lv_at hl 3 rfl) ?_
        refine k_callPi (S := Unit) (wfx := fun u_13 => [kO o 4 [.ref rg, .ref pg, .ref rr, .ref sp, .ref ot, .ref wo, .int (nI ho), .int (nI un)], kGd G rg 12 (oA 12 ra), kGd G pg 12 (oA 12 pa), kH G rr 2 (oR e0 e1), kGd G e0 (vT w0) (oA (vT w0) qa), kGd G e1 (vT w1) (oA (vT w1) qb), kC G sp 2 (nR (w2 (vS w0) (vS w1))), kC G ot 2 (nR (w2 (vO w0) (vO w1))), kC G wo 8 (nR bf)]) (wfp := fun u_13 => sT G ra pa qa qb (rugF w0 w1) (planF w0 w1) (vT w0) (runF w0) (vT w1) (runF w1)) (fun u_13 => [kO o 4 [.ref rg, .ref pg, .ref rr, .ref sp, .ref ot, .ref wo, .int (nI ho), .int (nI un)], kGd G rg 12 (oA 12 ra), kGd G pg 12 (oA 12 pa), kH G rr 2 (oR e0 e1), kGd G e0 (vT w0) (oA (vT w0) qa), kGd G e1 (vT w1) (oA (vT w1) qb), kC G sp 2 (nR (w2 (vS w0) (vS w1))), kC G ot 2 (nR (w2 (vO w0) (vO w1))), kC G wo 8 (nR bf)]) [] (k_runVP (As := [.int (nI 0), .int (nI y)]) (rest := []) (cx := [kO o 4 [.ref rg, .ref pg, .ref rr, .ref sp, .ref ot, .ref wo, .int (nI ho), .int (nI un)], kGd G rg 12 (oA 12 ra), kGd G pg 12 (oA 12 pa), kH G rr 2 (oR e0 e1), kGd G e0 (vT w0) (oA (vT w0) qa), kGd G e1 (vT w1) (oA (vT w1) qb), kC G sp 2 (nR (w2 (vS w0) (vS w1))), kC G ot 2 (nR (w2 (vO w0) (vO w1))), kC G wo 8 (nR bf)]) ⟨hx, hb, hml, hown, hts⟩ (s_isRow0 l G o rg pg rr e0 e1 sp ot wo ra pa qa qb w0 w1 bf ho un y h0 h1 hB (by omega)) (cwV 2 hts gX4_rows_X4_isRow rfl rfl rfl (by decide +kernel) ⟨Nat.le_of_ble_eq_true rfl, Nat.le_of_ble_eq_true rfl⟩) hK hZ hP hD hS hA [0, 1, 2, 3, 4, 5, 6, 7, 8] rfl rfl 0 4 rfl rfl rfl rfl hl.1 rfl (Nat.le_of_ble_eq_true rfl) dX4_rows_13 ⟨(Nat.le_of_ble_eq_true rfl), (Nat.le_of_ble_eq_true rfl)⟩) hP hD hS hA [0, 1, 2, 3, 4, 5, 6, 7, 8] [] [0, 1, 2, 3, 4, 5, 6, 7, 8] rfl rfl rfl (by decide) (fun _ => rfl) rfl (fun r_13 u_13 H locs hp_13 hP hD hS => ?_)
        rcases hp_13 with ⟨rfl, hp_13⟩ | ⟨rfl, hp_13⟩
        · refine lv_if_eq (tgt := 104) hx hb dX4_rows_16 (by decide) (fun c_16 => absurd c_16 (by decide)) (fun c_16 => ?_)
          refine lv_aload_n hx hb dX4_rows_19 rfl (lv_at hl 0 rfl) ?_
          refine lv_iconst (v := nI 1) hx hb dX4_rows_20 (by decide) ?_
          refine lv_iload_n hx hb dX4_rows_21 rfl (lv_at hl 3 rfl) ?_
          refine k_callPi (S := Unit) (wfx := fun u_22 => [kO o 4 [.ref rg, .ref pg, .ref rr, .ref sp, .ref ot, .ref wo, .int (nI ho), .int (nI un)], kGd G rg 12 (oA 12 ra), kGd G pg 12 (oA 12 pa), kH G rr 2 (oR e0 e1), kGd G e0 (vT w0) (oA (vT w0) qa), kGd G e1 (vT w1) (oA (vT w1) qb), kC G sp 2 (nR (w2 (vS w0) (vS w1))), kC G ot 2 (nR (w2 (vO w0) (vO w1))), kC G wo 8 (nR bf)]) (wfp := fun u_22 => sT G ra pa qa qb (rugF w0 w1) (planF w0 w1) (vT w0) (runF w0) (vT w1) (runF w1)) (fun u_22 => [kO o 4 [.ref rg, .ref pg, .ref rr, .ref sp, .ref ot, .ref wo, .int (nI ho), .int (nI un)], kGd G rg 12 (oA 12 ra), kGd G pg 12 (oA 12 pa), kH G rr 2 (oR e0 e1), kGd G e0 (vT w0) (oA (vT w0) qa), kGd G e1 (vT w1) (oA (vT w1) qb), kC G sp 2 (nR (w2 (vS w0) (vS w1))), kC G ot 2 (nR (w2 (vO w0) (vO w1))), kC G wo 8 (nR bf)]) [] (k_runVP (As := [.int (nI 1), .int (nI y)]) (rest := []) (cx := [kO o 4 [.ref rg, .ref pg, .ref rr, .ref sp, .ref ot, .ref wo, .int (nI ho), .int (nI un)], kGd G rg 12 (oA 12 ra), kGd G pg 12 (oA 12 pa), kH G rr 2 (oR e0 e1), kGd G e0 (vT w0) (oA (vT w0) qa), kGd G e1 (vT w1) (oA (vT w1) qb), kC G sp 2 (nR (w2 (vS w0) (vS w1))), kC G ot 2 (nR (w2 (vO w0) (vO w1))), kC G wo 8 (nR bf)]) ⟨hx, hb, hml, hown, hts⟩ (s_isRow1 l G o rg pg rr e0 e1 sp ot wo ra pa qa qb w0 w1 bf ho un y h0 h1 hB (by omega)) (cwV 2 hts gX4_rows_X4_isRow rfl rfl rfl (by decide +kernel) ⟨Nat.le_of_ble_eq_true rfl, Nat.le_of_ble_eq_true rfl⟩) hK hZ hP hD hS hA [0, 1, 2, 3, 4, 5, 6, 7, 8] rfl rfl 0 4 rfl rfl rfl rfl hl.1 rfl (Nat.le_of_ble_eq_true rfl) dX4_rows_22 ⟨(Nat.le_of_ble_eq_true rfl), (Nat.le_of_ble_eq_true rfl)⟩) hP hD hS hA [0, 1, 2, 3, 4, 5, 6, 7, 8] [] [0, 1, 2, 3, 4, 5, 6, 7, 8] rfl rfl rfl (by decide) (fun _ => rfl) rfl (fun r_22 u_22 H locs hp_22 hP hD hS => ?_)
          rcases hp_22 with ⟨rfl, hp_22⟩ | ⟨rfl, hp_22⟩
          · refine lv_if_ne (tgt := 31) hx hb dX4_rows_25 (by decide) (fun c_25 => ?_) (fun c_25 => absurd c_25 (by decide))
            have hyw : y < rwN w0 w1 := by rw [hrw]; omega
            refine lv_aload_n hx hb dX4_rows_31 rfl (lv_at hl 0 rfl) ?_
            refine va_get (D := G.1) (ci := 4) (v := .ref rg) (C := RX4) (T := TX4) (N := 8) hx hb hts hq_0 hown hK.1 hP 0 rfl rfl 0 (by decide) hq_1 (fun _ h9 => h9) rfl dX4_rows_32 ?_
            refine lv_iconst (v := nI 5) hx hb dX4_rows_35 (by decide) ?_
            have hi_1 : 5 < 12 := by omega
            refine k_aldg hx hb hK hP 1 5 rfl (vp_in_nI hi_1 (by omega)) (nI_clamp (Nat.lt_of_lt_of_le hi_1 (by omega))) (oA_at hi_1) dX4_rows_36 ?_
            refine lv_iload_n hx hb dX4_rows_37 rfl (lv_at hl 3 rfl) ?_
            have hi_2 : y < 10 := by omega
            refine va_iald (D := G.1) hx hb hK.1 hP _ 0 (sT_r (i := 5) (by omega)) rfl (vp_in_nI hi_2 (by omega)) dX4_rows_38 ?_
            refine lv_topi (fun y_3 hy_3 => ?_)
            obtain rfl : y_3 = (rugF w0 w1) 5 y := hy_3.trans (congrArg _ (nI_clamp (by omega)))
            have hpl : plN 6 y < 60 := plN_lt (by decide) (by omega)
            have x1 := kb0 _ hpl
            have x2 := kb1 _ hpl
            have x3 := pb0 _ hpl
            have x4 := pb1 _ hpl
            refine lv_topi (fun y_4 hy_4 => ?_)
            obtain rfl : y_4 = nI (vK w0 (plN 6 y)) := hy_4.trans (rug_5 (by unfold rwN at hrw; omega) (by omega))
            refine lv_aload_n hx hb dX4_rows_39 rfl (lv_at hl 0 rfl) ?_
            refine va_get (D := G.1) (ci := 4) (v := .ref rg) (C := RX4) (T := TX4) (N := 8) hx hb hts hq_0 hown hK.1 hP 0 rfl rfl 0 (by decide) hq_1 (fun _ h9 => h9) rfl dX4_rows_40 ?_
            refine lv_bipush (v := nI 6) hx hb dX4_rows_43 (by decide) ?_
            have hi_5 : 6 < 12 := by omega
            refine k_aldg hx hb hK hP 1 6 rfl (vp_in_nI hi_5 (by omega)) (nI_clamp (Nat.lt_of_lt_of_le hi_5 (by omega))) (oA_at hi_5) dX4_rows_45 ?_
            refine lv_iload_n hx hb dX4_rows_46 rfl (lv_at hl 3 rfl) ?_
            have hi_6 : y < 10 := by omega
            refine va_iald (D := G.1) hx hb hK.1 hP _ 0 (sT_r (i := 6) (by omega)) rfl (vp_in_nI hi_6 (by omega)) dX4_rows_47 ?_
            refine lv_topi (fun y_7 hy_7 => ?_)
            obtain rfl : y_7 = (rugF w0 w1) 6 y := hy_7.trans (congrArg _ (nI_clamp (by omega)))
            refine lv_topi (fun y_8 hy_8 => ?_)
            obtain rfl : y_8 = nI (vK w1 (plN 6 y)) := hy_8.trans (rug_6 (by unfold rwN at hrw; omega) (by omega))
            refine lv_icmp_ne (tgt := 55) hx hb dX4_rows_48 (by decide) (fun c_48 => ?_) (fun c_48 => ?_)
            · have c_48 : ¬ ((vK w0 (plN 6 y)) = (vK w1 (plN 6 y))) := fun h9 => c_48 ((nI_eq (a := (vK w0 (plN 6 y))) (b := (vK w1 (plN 6 y))) (by omega) (by omega)).mpr h9)
              refine lv_iconst (v := nI 0) hx hb dX4_rows_55 (by decide) ?_
              refine lv_istore (lv' := [(4, .int (nI 0)), (0, .ref o), (1, .int (nI 0)), (2, .int (nI z)), (3, .int (nI y))]) hx hb dX4_rows_56 hl (by decide) rfl (fun ls hl => ?_)
              refine lv_aload_n hx hb dX4_rows_58 rfl (lv_at hl 1 rfl) ?_
              refine va_get (D := G.1) (ci := 4) (v := .ref pg) (C := RX4) (T := TX4) (N := 8) hx hb hts hq_0 hown hK.1 hP 0 rfl rfl 1 (by decide) hq_2 (fun _ h9 => h9) rfl dX4_rows_59 ?_
              refine lv_iconst (v := nI 5) hx hb dX4_rows_62 (by decide) ?_
              have hi_9 : 5 < 12 := by omega
              refine k_aldg hx hb hK hP 2 5 rfl (vp_in_nI hi_9 (by omega)) (nI_clamp (Nat.lt_of_lt_of_le hi_9 (by omega))) (oA_at hi_9) dX4_rows_63 ?_
              refine lv_iload_n hx hb dX4_rows_64 rfl (lv_at hl 4 rfl) ?_
              have hi_10 : y < 10 := by omega
              refine va_iald (D := G.1) hx hb hK.1 hP _ 0 (sT_p (i := 5) (by omega)) rfl (vp_in_nI hi_10 (by omega)) dX4_rows_65 ?_
              refine lv_topi (fun y_11 hy_11 => ?_)
              obtain rfl : y_11 = (planF w0 w1) 5 y := hy_11.trans (congrArg _ (nI_clamp (by omega)))
              refine lv_topi (fun y_12 hy_12 => ?_)
              obtain rfl : y_12 = nI (ptN w0 w1 5 y) := hy_12.trans (planF_at (by omega) (by omega))
              refine lv_topi (fun y_13 hy_13 => ?_)
              obtain rfl : y_13 = nI (vP w0 (plN 6 y)) := hy_13.trans (congrArg nI pt_5)
              refine lv_aload_n hx hb dX4_rows_66 rfl (lv_at hl 1 rfl) ?_
              refine va_get (D := G.1) (ci := 4) (v := .ref pg) (C := RX4) (T := TX4) (N := 8) hx hb hts hq_0 hown hK.1 hP 0 rfl rfl 1 (by decide) hq_2 (fun _ h9 => h9) rfl dX4_rows_67 ?_
              refine lv_bipush (v := nI 6) hx hb dX4_rows_70 (by decide) ?_
              have hi_14 : 6 < 12 := by omega
              refine k_aldg hx hb hK hP 2 6 rfl (vp_in_nI hi_14 (by omega)) (nI_clamp (Nat.lt_of_lt_of_le hi_14 (by omega))) (oA_at hi_14) dX4_rows_72 ?_
              refine lv_iload_n hx hb dX4_rows_73 rfl (lv_at hl 4 rfl) ?_
              have hi_15 : y < 10 := by omega
              refine va_iald (D := G.1) hx hb hK.1 hP _ 0 (sT_p (i := 6) (by omega)) rfl (vp_in_nI hi_15 (by omega)) dX4_rows_74 ?_
              refine lv_topi (fun y_16 hy_16 => ?_)
              obtain rfl : y_16 = (planF w0 w1) 6 y := hy_16.trans (congrArg _ (nI_clamp (by omega)))
              refine lv_topi (fun y_17 hy_17 => ?_)
              obtain rfl : y_17 = nI (ptN w0 w1 6 y) := hy_17.trans (planF_at (by omega) (by omega))
              refine lv_topi (fun y_18 hy_18 => ?_)
              obtain rfl : y_18 = nI (vP w1 (plN 6 y)) := hy_18.trans (congrArg nI pt_6)
              refine lv_icmp_ne (tgt := 82) hx hb dX4_rows_75 (by decide) (fun c_75 => ?_) (fun c_75 => ?_)
              · have c_75 : ¬ ((vP w0 (plN 6 y)) = (vP w1 (plN 6 y))) := fun h9 => c_75 ((nI_eq (a := (vP w0 (plN 6 y))) (b := (vP w1 (plN 6 y))) (by omega) (by omega)).mpr h9)
                refine lv_iconst (v := nI 0) hx hb dX4_rows_82 (by decide) ?_
                refine lv_istore (lv' := [(5, .int (nI 0)), (4, .int (nI 0)), (0, .ref o), (1, .int (nI 0)), (2, .int (nI z)), (3, .int (nI y))]) hx hb dX4_rows_83 hl (by decide) rfl (fun ls hl => ?_)
                refine lv_iload_n hx hb dX4_rows_85 rfl (lv_at hl 4 rfl) ?_
                refine lv_iload_n hx hb dX4_rows_86 rfl (lv_at hl 3 rfl) ?_
                refine lv_if_eq (tgt := 97) hx hb dX4_rows_87 (by decide) (fun c_87 => ?_) (fun c_87 => absurd c_87 (by decide))
                refine lv_iconst (v := nI 1) hx hb dX4_rows_97 (by decide) ?_
                refine lv_goto (tgt := 102) hx hb dX4_rows_98 (by decide) ?_
                refine lv_iadd hx hb dX4_rows_102 ?_
                refine lv_topi (fun y_19 hy_19 => ?_)
                obtain rfl : y_19 = nI (z + 1) := hy_19.trans (nI_add z 1)
                refine lv_istore_n (lv' := [(2, .int (nI (z + 1))), (5, .int (nI 0)), (4, .int (nI 0)), (0, .ref o), (1, .int (nI 0)), (3, .int (nI y))]) hx hb dX4_rows_103 rfl hl (by decide) rfl (fun ls hl => ?_)
                refine lv_iinc (v := nI (y + 1)) (lv' := [(3, .int (nI (y + 1))), (2, .int (nI (z + 1))), (5, .int (nI 0)), (4, .int (nI 0)), (0, .ref o), (1, .int (nI 0))]) hx hb dX4_rows_104 hl (k := 5) rfl (nI_add y 1) (by decide) rfl (fun ls hl => ?_)
                refine lv_goto (tgt := 4) hx hb dX4_rows_107 (by decide) ?_
                exact ih_4 (y + 1) (z + 1) (by omega) (by rw [hz]; omega) (by omega) _ _ _ hP hD hS (lv_sub hl [4, 5, 1, 0] rfl)
              · have c_75 : (vP w0 (plN 6 y)) = (vP w1 (plN 6 y)) := (nI_eq (a := (vP w0 (plN 6 y))) (b := (vP w1 (plN 6 y))) (by omega) (by omega)).mp c_75
                refine lv_iconst (v := nI 1) hx hb dX4_rows_78 (by decide) ?_
                refine lv_goto (tgt := 83) hx hb dX4_rows_79 (by decide) ?_
                refine lv_istore (lv' := [(5, .int (nI 1)), (4, .int (nI 0)), (0, .ref o), (1, .int (nI 0)), (2, .int (nI z)), (3, .int (nI y))]) hx hb dX4_rows_83 hl (by decide) rfl (fun ls hl => ?_)
                refine lv_iload_n hx hb dX4_rows_85 rfl (lv_at hl 4 rfl) ?_
                refine lv_iload_n hx hb dX4_rows_86 rfl (lv_at hl 3 rfl) ?_
                refine lv_if_eq (tgt := 97) hx hb dX4_rows_87 (by decide) (fun c_87 => ?_) (fun c_87 => absurd c_87 (by decide))
                refine lv_iconst (v := nI 1) hx hb dX4_rows_97 (by decide) ?_
                refine lv_goto (tgt := 102) hx hb dX4_rows_98 (by decide) ?_
                refine lv_iadd hx hb dX4_rows_102 ?_
                refine lv_topi (fun y_20 hy_20 => ?_)
                obtain rfl : y_20 = nI (z + 1) := hy_20.trans (nI_add z 1)
                refine lv_istore_n (lv' := [(2, .int (nI (z + 1))), (5, .int (nI 1)), (4, .int (nI 0)), (0, .ref o), (1, .int (nI 0)), (3, .int (nI y))]) hx hb dX4_rows_103 rfl hl (by decide) rfl (fun ls hl => ?_)
                refine lv_iinc (v := nI (y + 1)) (lv' := [(3, .int (nI (y + 1))), (2, .int (nI (z + 1))), (5, .int (nI 1)), (4, .int (nI 0)), (0, .ref o), (1, .int (nI 0))]) hx hb dX4_rows_104 hl (k := 5) rfl (nI_add y 1) (by decide) rfl (fun ls hl => ?_)
                refine lv_goto (tgt := 4) hx hb dX4_rows_107 (by decide) ?_
                exact ih_4 (y + 1) (z + 1) (by omega) (by rw [hz]; omega) (by omega) _ _ _ hP hD hS (lv_sub hl [4, 5, 1, 0] rfl)
            · have c_48 : (vK w0 (plN 6 y)) = (vK w1 (plN 6 y)) := (nI_eq (a := (vK w0 (plN 6 y))) (b := (vK w1 (plN 6 y))) (by omega) (by omega)).mp c_48
              refine lv_iconst (v := nI 1) hx hb dX4_rows_51 (by decide) ?_
              refine lv_goto (tgt := 56) hx hb dX4_rows_52 (by decide) ?_
              refine lv_istore (lv' := [(4, .int (nI 1)), (0, .ref o), (1, .int (nI 0)), (2, .int (nI z)), (3, .int (nI y))]) hx hb dX4_rows_56 hl (by decide) rfl (fun ls hl => ?_)
              refine lv_aload_n hx hb dX4_rows_58 rfl (lv_at hl 1 rfl) ?_
              refine va_get (D := G.1) (ci := 4) (v := .ref pg) (C := RX4) (T := TX4) (N := 8) hx hb hts hq_0 hown hK.1 hP 0 rfl rfl 1 (by decide) hq_2 (fun _ h9 => h9) rfl dX4_rows_59 ?_
              refine lv_iconst (v := nI 5) hx hb dX4_rows_62 (by decide) ?_
              have hi_21 : 5 < 12 := by omega
              refine k_aldg hx hb hK hP 2 5 rfl (vp_in_nI hi_21 (by omega)) (nI_clamp (Nat.lt_of_lt_of_le hi_21 (by omega))) (oA_at hi_21) dX4_rows_63 ?_
              refine lv_iload_n hx hb dX4_rows_64 rfl (lv_at hl 4 rfl) ?_
              have hi_22 : y < 10 := by omega
              refine va_iald (D := G.1) hx hb hK.1 hP _ 0 (sT_p (i := 5) (by omega)) rfl (vp_in_nI hi_22 (by omega)) dX4_rows_65 ?_
              refine lv_topi (fun y_23 hy_23 => ?_)
              obtain rfl : y_23 = (planF w0 w1) 5 y := hy_23.trans (congrArg _ (nI_clamp (by omega)))
              refine lv_topi (fun y_24 hy_24 => ?_)
              obtain rfl : y_24 = nI (ptN w0 w1 5 y) := hy_24.trans (planF_at (by omega) (by omega))
              refine lv_topi (fun y_25 hy_25 => ?_)
              obtain rfl : y_25 = nI (vP w0 (plN 6 y)) := hy_25.trans (congrArg nI pt_5)
              refine lv_aload_n hx hb dX4_rows_66 rfl (lv_at hl 1 rfl) ?_
              refine va_get (D := G.1) (ci := 4) (v := .ref pg) (C := RX4) (T := TX4) (N := 8) hx hb hts hq_0 hown hK.1 hP 0 rfl rfl 1 (by decide) hq_2 (fun _ h9 => h9) rfl dX4_rows_67 ?_
              refine lv_bipush (v := nI 6) hx hb dX4_rows_70 (by decide) ?_
              have hi_26 : 6 < 12 := by omega
              refine k_aldg hx hb hK hP 2 6 rfl (vp_in_nI hi_26 (by omega)) (nI_clamp (Nat.lt_of_lt_of_le hi_26 (by omega))) (oA_at hi_26) dX4_rows_72 ?_
              refine lv_iload_n hx hb dX4_rows_73 rfl (lv_at hl 4 rfl) ?_
              have hi_27 : y < 10 := by omega
              refine va_iald (D := G.1) hx hb hK.1 hP _ 0 (sT_p (i := 6) (by omega)) rfl (vp_in_nI hi_27 (by omega)) dX4_rows_74 ?_
              refine lv_topi (fun y_28 hy_28 => ?_)
              obtain rfl : y_28 = (planF w0 w1) 6 y := hy_28.trans (congrArg _ (nI_clamp (by omega)))
              refine lv_topi (fun y_29 hy_29 => ?_)
              obtain rfl : y_29 = nI (ptN w0 w1 6 y) := hy_29.trans (planF_at (by omega) (by omega))
              refine lv_topi (fun y_30 hy_30 => ?_)
              obtain rfl : y_30 = nI (vP w1 (plN 6 y)) := hy_30.trans (congrArg nI pt_6)
              refine lv_icmp_ne (tgt := 82) hx hb dX4_rows_75 (by decide) (fun c_75 => ?_) (fun c_75 => ?_)
              · have c_75 : ¬ ((vP w0 (plN 6 y)) = (vP w1 (plN 6 y))) := fun h9 => c_75 ((nI_eq (a := (vP w0 (plN 6 y))) (b := (vP w1 (plN 6 y))) (by omega) (by omega)).mpr h9)
                refine lv_iconst (v := nI 0) hx hb dX4_rows_82 (by decide) ?_
                refine lv_istore (lv' := [(5, .int (nI 0)), (4, .int (nI 1)), (0, .ref o), (1, .int (nI 0)), (2, .int (nI z)), (3, .int (nI y))]) hx hb dX4_rows_83 hl (by decide) rfl (fun ls hl => ?_)
                refine lv_iload_n hx hb dX4_rows_85 rfl (lv_at hl 4 rfl) ?_
                refine lv_iload_n hx hb dX4_rows_86 rfl (lv_at hl 3 rfl) ?_
                refine lv_if_eq (tgt := 97) hx hb dX4_rows_87 (by decide) (fun c_87 => ?_) (fun c_87 => absurd c_87 (by decide))
                refine lv_iconst (v := nI 1) hx hb dX4_rows_97 (by decide) ?_
                refine lv_goto (tgt := 102) hx hb dX4_rows_98 (by decide) ?_
                refine lv_iadd hx hb dX4_rows_102 ?_
                refine lv_topi (fun y_31 hy_31 => ?_)
                obtain rfl : y_31 = nI (z + 1) := hy_31.trans (nI_add z 1)
                refine lv_istore_n (lv' := [(2, .int (nI (z + 1))), (5, .int (nI 0)), (4, .int (nI 1)), (0, .ref o), (1, .int (nI 0)), (3, .int (nI y))]) hx hb dX4_rows_103 rfl hl (by decide) rfl (fun ls hl => ?_)
                refine lv_iinc (v := nI (y + 1)) (lv' := [(3, .int (nI (y + 1))), (2, .int (nI (z + 1))), (5, .int (nI 0)), (4, .int (nI 1)), (0, .ref o), (1, .int (nI 0))]) hx hb dX4_rows_104 hl (k := 5) rfl (nI_add y 1) (by decide) rfl (fun ls hl => ?_)
                refine lv_goto (tgt := 4) hx hb dX4_rows_107 (by decide) ?_
                exact ih_4 (y + 1) (z + 1) (by omega) (by rw [hz]; omega) (by omega) _ _ _ hP hD hS (lv_sub hl [4, 5, 1, 0] rfl)
              · have c_75 : (vP w0 (plN 6 y)) = (vP w1 (plN 6 y)) := (nI_eq (a := (vP w0 (plN 6 y))) (b := (vP w1 (plN 6 y))) (by omega) (by omega)).mp c_75
                refine lv_iconst (v := nI 1) hx hb dX4_rows_78 (by decide) ?_
                refine lv_goto (tgt := 83) hx hb dX4_rows_79 (by decide) ?_
                refine lv_istore (lv' := [(5, .int (nI 1)), (4, .int (nI 1)), (0, .ref o), (1, .int (nI 0)), (2, .int (nI z)), (3, .int (nI y))]) hx hb dX4_rows_83 hl (by decide) rfl (fun ls hl => ?_)
                refine lv_iload_n hx hb dX4_rows_85 rfl (lv_at hl 4 rfl) ?_
                refine lv_iload_n hx hb dX4_rows_86 rfl (lv_at hl 3 rfl) ?_
                refine lv_if_eq (tgt := 97) hx hb dX4_rows_87 (by decide) (fun c_87 => ?_) (fun c_87 => absurd c_87 (by decide))
                refine lv_iconst (v := nI 1) hx hb dX4_rows_97 (by decide) ?_
                refine lv_goto (tgt := 102) hx hb dX4_rows_98 (by decide) ?_
                refine lv_iadd hx hb dX4_rows_102 ?_
                refine lv_topi (fun y_32 hy_32 => ?_)
                obtain rfl : y_32 = nI (z + 1) := hy_32.trans (nI_add z 1)
                refine lv_istore_n (lv' := [(2, .int (nI (z + 1))), (5, .int (nI 1)), (4, .int (nI 1)), (0, .ref o), (1, .int (nI 0)), (3, .int (nI y))]) hx hb dX4_rows_103 rfl hl (by decide) rfl (fun ls hl => ?_)
                refine lv_iinc (v := nI (y + 1)) (lv' := [(3, .int (nI (y + 1))), (2, .int (nI (z + 1))), (5, .int (nI 1)), (4, .int (nI 1)), (0, .ref o), (1, .int (nI 0))]) hx hb dX4_rows_104 hl (k := 5) rfl (nI_add y 1) (by decide) rfl (fun ls hl => ?_)
                refine lv_goto (tgt := 4) hx hb dX4_rows_107 (by decide) ?_
                exact ih_4 (y + 1) (z + 1) (by omega) (by rw [hz]; omega) (by omega) _ _ _ hP hD hS (lv_sub hl [4, 5, 1, 0] rfl)
          · refine lv_if_ne (tgt := 31) hx hb dX4_rows_25 (by decide) (fun c_25 => absurd c_25 (by decide)) (fun c_25 => ?_)
            refine lv_goto (tgt := 104) hx hb dX4_rows_28 (by decide) ?_
            refine lv_iinc (v := nI (y + 1)) (lv' := [(3, .int (nI (y + 1))), (0, .ref o), (1, .int (nI 0)), (2, .int (nI z))]) hx hb dX4_rows_104 hl (k := 3) rfl (nI_add y 1) (by decide) rfl (fun ls hl => ?_)
            refine lv_goto (tgt := 4) hx hb dX4_rows_107 (by decide) ?_
            exact ih_4 (y + 1) z (by omega) (by rw [hz]; omega) (by omega) _ _ _ hP hD hS (lv_sub hl [1, 2, 3, 0] rfl)
        · refine lv_if_eq (tgt := 104) hx hb dX4_rows_16 (by decide) (fun c_16 => ?_) (fun c_16 => absurd c_16 (by decide))
          refine lv_iinc (v := nI (y + 1)) (lv' := [(3, .int (nI (y + 1))), (0, .ref o), (1, .int (nI 0)), (2, .int (nI z))]) hx hb dX4_rows_104 hl (k := 3) rfl (nI_add y 1) (by decide) rfl (fun ls hl => ?_)
          refine lv_goto (tgt := 4) hx hb dX4_rows_107 (by decide) ?_
          exact ih_4 (y + 1) z (by omega) (by rw [hz]; omega) (by omega) _ _ _ hP hD hS (lv_sub hl [1, 2, 3, 0] rfl)
  exact loop_4 11 0 0 (by omega) (by omega) (by omega) H locs ls hP hD hS (lv_sub hl [2, 3, 1, 0] rfl)
set_option maxHeartbeats 4000000 in
set_option maxRecDepth 100000 in
theorem s_rows1 (l : Launch) (G : kG) (o : Nat) (rg : Nat) (pg : Nat) (rr : Nat) (e0 : Nat) (e1 : Nat) (sp : Nat) (ot : Nat) (wo : Nat) (ra : Nat → Nat) (pa : Nat → Nat) (qa : Nat → Nat) (qb : Nat → Nat) (w0 : Wv) (w1 : Wv) (bf : Nat → Nat) (ho : Nat) (un : Nat) (h0 : wOk w0) (h1 : wOk w1) (hB : bOk bf) : kM l G yX4_rows wsX4_rows ({ frames := 2, cells := 0, slots := 0, locals := 44 } : Room) [.ref o, .int (nI 1)] ([kO o 4 [.ref rg, .ref pg, .ref rr, .ref sp, .ref ot, .ref wo, .int (nI ho), .int (nI un)], kGd G rg 12 (oA 12 ra), kGd G pg 12 (oA 12 pa), kH G rr 2 (oR e0 e1), kGd G e0 (vT w0) (oA (vT w0) qa), kGd G e1 (vT w1) (oA (vT w1) qb), kC G sp 2 (nR (w2 (vS w0) (vS w1))), kC G ot 2 (nR (w2 (vO w0) (vO w1))), kC G wo 8 (nR bf)] ++ sT G ra pa qa qb (rugF w0 w1) (planF w0 w1) (vT w0) (runF w0) (vT w1) (runF w1)) (kQi G ([kO o 4 [.ref rg, .ref pg, .ref rr, .ref sp, .ref ot, .ref wo, .int (nI ho), .int (nI un)], kGd G rg 12 (oA 12 ra), kGd G pg 12 (oA 12 pa), kH G rr 2 (oR e0 e1), kGd G e0 (vT w0) (oA (vT w0) qa), kGd G e1 (vT w1) (oA (vT w1) qb), kC G sp 2 (nR (w2 (vS w0) (vS w1))), kC G ot 2 (nR (w2 (vO w0) (vO w1))), kC G wo 8 (nR bf)] ++ sT G ra pa qa qb (rugF w0 w1) (planF w0 w1) (vT w0) (runF w0) (vT w1) (runF w1)) (fun (r : Int32) (_ : Unit) => r = nI (tornN w0 w1 (rwN w0 w1))) (fun (_ : Unit) => ([kO o 4 [.ref rg, .ref pg, .ref rr, .ref sp, .ref ot, .ref wo, .int (nI ho), .int (nI un)], kGd G rg 12 (oA 12 ra), kGd G pg 12 (oA 12 pa), kH G rr 2 (oR e0 e1), kGd G e0 (vT w0) (oA (vT w0) qa), kGd G e1 (vT w1) (oA (vT w1) qb), kC G sp 2 (nR (w2 (vS w0) (vS w1))), kC G ot 2 (nR (w2 (vO w0) (vO w1))), kC G wo 8 (nR bf)] ++ sT G ra pa qa qb (rugF w0 w1) (planF w0 w1) (vT w0) (runF w0) (vT w1) (runF w1)))) := by
  refine k_ofW (cc := cX4_rows) (maxL := 6) (rt := (some .int)) (by decide) rfl (Nat.le_of_ble_eq_true rfl) ?_
  intro p e s m args below meth c A ls Qs H locs hQ hAe hx hb hr hml hts hown hlocks hin hK hZ hP hD hS hA hl
  have hown : s.vm.findClass RX4 = some m.cls := hown
  have hl : lv_has ls 6 [(0, .ref o), (1, .int (nI 1))] := hl
  have m0b : vM w0 ≤ 60 := h0.2.2.2.1
  have m1b : vM w1 ≤ 60 := h1.2.2.2.1
  have t0b : vT w0 ≤ 20 := h0.2.2.1
  have t1b : vT w1 ≤ 20 := h1.2.2.1
  have pb0 : ∀ i, i < 60 → vP w0 i < 8 := h0.2.2.2.2.1
  have pb1 : ∀ i, i < 60 → vP w1 i < 8 := h1.2.2.2.2.1
  have kb0 : ∀ i, i < 60 → vK w0 i < 8 := h0.2.2.2.2.2.1
  have kb1 : ∀ i, i < 60 → vK w1 i < 8 := h1.2.2.2.2.2.1
  have cb0 : ∀ i, i < vT w0 → vC w0 i < 8 := h0.2.2.2.2.2.2.1
  have cb1 : ∀ i, i < vT w1 → vC w1 i < 8 := h1.2.2.2.2.2.2.1
  have nb0 : ∀ i, i < vT w0 → 1 ≤ vN w0 i ∧ vN w0 i ≤ 60 := h0.2.2.2.2.2.2.2
  have nb1 : ∀ i, i < vT w1 → 1 ≤ vN w1 i ∧ vN w1 i ≤ 60 := h1.2.2.2.2.2.2.2
  have sb0 : vS w0 ≤ 6 := h0.2.1
  have sb1 : vS w1 ≤ 6 := h1.2.1
  have hrw : rwN w0 w1 = min (vM w0 / 6) (vM w1 / 6) := rfl
  have hq_0 : ∀ w ∈ wsX40, w ∈ wsX4_rows := by decide +kernel
  have hq_1 : (Cond.fieldLink RX4 9 "KnotRugsLaw$Sim" "rug" "[[I").before args s = true := hts _ (by decide +kernel)
  have hq_2 : (Cond.fieldLink RX4 14 "KnotRugsLaw$Sim" "plan" "[[I").before args s = true := hts _ (by decide +kernel)
  refine lv_iconst (v := nI 0) hx hb dX4_rows_0 (by decide) ?_
  refine lv_istore_n (lv' := [(2, .int (nI 0)), (0, .ref o), (1, .int (nI 1))]) hx hb dX4_rows_1 rfl hl (by decide) rfl (fun ls hl => ?_)
  refine lv_iconst (v := nI 0) hx hb dX4_rows_2 (by decide) ?_
  refine lv_istore_n (lv' := [(3, .int (nI 0)), (2, .int (nI 0)), (0, .ref o), (1, .int (nI 1))]) hx hb dX4_rows_3 rfl hl (by decide) rfl (fun ls hl => ?_)
  have loop_4 : ∀ (fu_4 : Nat) (y : Nat) (z : Nat), y ≤ 10 → z = tornN w0 w1 (min y (rwN w0 w1)) → 10 < y + fu_4 → ∀ (H : Heap) (locs : List Loc) (ls : Array Slot), va_P G.1 vwCl ([kO o 4 [.ref rg, .ref pg, .ref rr, .ref sp, .ref ot, .ref wo, .int (nI ho), .int (nI un)], kGd G rg 12 (oA 12 ra), kGd G pg 12 (oA 12 pa), kH G rr 2 (oR e0 e1), kGd G e0 (vT w0) (oA (vT w0) qa), kGd G e1 (vT w1) (oA (vT w1) qb), kC G sp 2 (nR (w2 (vS w0) (vS w1))), kC G ot 2 (nR (w2 (vO w0) (vO w1))), kC G wo 8 (nR bf)] ++ sT G ra pa qa qb (rugF w0 w1) (planF w0 w1) (vT w0) (runF w0) (vT w1) (runF w1)) H → va_D A ([kO o 4 [.ref rg, .ref pg, .ref rr, .ref sp, .ref ot, .ref wo, .int (nI ho), .int (nI un)], kGd G rg 12 (oA 12 ra), kGd G pg 12 (oA 12 pa), kH G rr 2 (oR e0 e1), kGd G e0 (vT w0) (oA (vT w0) qa), kGd G e1 (vT w1) (oA (vT w1) qb), kC G sp 2 (nR (w2 (vS w0) (vS w1))), kC G ot 2 (nR (w2 (vO w0) (vO w1))), kC G wo 8 (nR bf)] ++ sT G ra pa qa qb (rugF w0 w1) (planF w0 w1) (vT w0) (runF w0) (vT w1) (runF w1)) → va_S A s.heap H locs → lv_has ls 6 [(0, .ref o), (1, .int (nI 1)), (2, .int (nI z)), (3, .int (nI y))] → W p l e ({ frames := 2, cells := 0, slots := 0, locals := 44 } : Room) s m args below meth c H locs 0 0 Qs (F0 m 4 ls []) := by
    intro fu_4
    induction fu_4 with
    | zero =>
      intro y z hy hz hf
      exact absurd hf (by omega)
    | succ fu_4 ih_4 =>
      intro y z hy hz hf H locs ls hP hD hS hl
      refine lv_iload_n hx hb dX4_rows_4 rfl (lv_at hl 3 rfl) ?_
      refine lv_bipush (v := nI 10) hx hb dX4_rows_5 (by decide) ?_
      refine lv_icmp_ge (tgt := 110) hx hb dX4_rows_7 (by decide) (fun c_7 => ?_) (fun c_7 => ?_)
      · have c_7 : 10 ≤ y := (nI_leI (a := 10) (b := y) (by omega) (by omega)).mp c_7
        have hy9 : y = 10 := by omega
        have hrl : min y (rwN w0 w1) = rwN w0 w1 := by rw [hrw]; omega
        refine lv_iload_n hx hb dX4_rows_110 rfl (lv_at hl 2 rfl) ?_
        exact k_iret (ws := ([kO o 4 [.ref rg, .ref pg, .ref rr, .ref sp, .ref ot, .ref wo, .int (nI ho), .int (nI un)], kGd G rg 12 (oA 12 ra), kGd G pg 12 (oA 12 pa), kH G rr 2 (oR e0 e1), kGd G e0 (vT w0) (oA (vT w0) qa), kGd G e1 (vT w1) (oA (vT w1) qb), kC G sp 2 (nR (w2 (vS w0) (vS w1))), kC G ot 2 (nR (w2 (vO w0) (vO w1))), kC G wo 8 (nR bf)] ++ sT G ra pa qa qb (rugF w0 w1) (planF w0 w1) (vT w0) (runF w0) (vT w1) (runF w1))) (()) hx hb hr hlocks hP hD hS hAe hQ (Nat.le_of_ble_eq_true rfl) (Nat.le_of_ble_eq_true rfl) dX4_rows_111 (rfl) (by rw [hz, hrl])
      · have c_7 : ¬ (10 ≤ y) := fun h9 => c_7 ((nI_leI (a := 10) (b := y) (by omega) (by omega)).mpr h9)
        refine lv_aload_n hx hb dX4_rows_10 rfl (lv_at hl 0 rfl) ?_
        refine lv_iconst (v := nI 0) hx hb dX4_rows_11 (by decide) ?_
        refine lv_iload_n hx hb dX4_rows_12 rfl (lv_at hl 3 rfl) ?_
        refine k_callPi (S := Unit) (wfx := fun u_13 => [kO o 4 [.ref rg, .ref pg, .ref rr, .ref sp, .ref ot, .ref wo, .int (nI ho), .int (nI un)], kGd G rg 12 (oA 12 ra), kGd G pg 12 (oA 12 pa), kH G rr 2 (oR e0 e1), kGd G e0 (vT w0) (oA (vT w0) qa), kGd G e1 (vT w1) (oA (vT w1) qb), kC G sp 2 (nR (w2 (vS w0) (vS w1))), kC G ot 2 (nR (w2 (vO w0) (vO w1))), kC G wo 8 (nR bf)]) (wfp := fun u_13 => sT G ra pa qa qb (rugF w0 w1) (planF w0 w1) (vT w0) (runF w0) (vT w1) (runF w1)) (fun u_13 => [kO o 4 [.ref rg, .ref pg, .ref rr, .ref sp, .ref ot, .ref wo, .int (nI ho), .int (nI un)], kGd G rg 12 (oA 12 ra), kGd G pg 12 (oA 12 pa), kH G rr 2 (oR e0 e1), kGd G e0 (vT w0) (oA (vT w0) qa), kGd G e1 (vT w1) (oA (vT w1) qb), kC G sp 2 (nR (w2 (vS w0) (vS w1))), kC G ot 2 (nR (w2 (vO w0) (vO w1))), kC G wo 8 (nR bf)]) [] (k_runVP (As := [.int (nI 0), .int (nI y)]) (rest := []) (cx := [kO o 4 [.ref rg, .ref pg, .ref rr, .ref sp, .ref ot, .ref wo, .int (nI ho), .int (nI un)], kGd G rg 12 (oA 12 ra), kGd G pg 12 (oA 12 pa), kH G rr 2 (oR e0 e1), kGd G e0 (vT w0) (oA (vT w0) qa), kGd G e1 (vT w1) (oA (vT w1) qb), kC G sp 2 (nR (w2 (vS w0) (vS w1))), kC G ot 2 (nR (w2 (vO w0) (vO w1))), kC G wo 8 (nR bf)]) ⟨hx, hb, hml, hown, hts⟩ (s_isRow0 l G o rg pg rr e0 e1 sp ot wo ra pa qa qb w0 w1 bf ho un y h0 h1 hB (by omega)) (cwV 2 hts gX4_rows_X4_isRow rfl rfl rfl (by decide +kernel) ⟨Nat.le_of_ble_eq_true rfl, Nat.le_of_ble_eq_true rfl⟩) hK hZ hP hD hS hA [0, 1, 2, 3, 4, 5, 6, 7, 8] rfl rfl 0 4 rfl rfl rfl rfl hl.1 rfl (Nat.le_of_ble_eq_true rfl) dX4_rows_13 ⟨(Nat.le_of_ble_eq_true rfl), (Nat.le_of_ble_eq_true rfl)⟩) hP hD hS hA [0, 1, 2, 3, 4, 5, 6, 7, 8] [] [0, 1, 2, 3, 4, 5, 6, 7, 8] rfl rfl rfl (by decide) (fun _ => rfl) rfl (fun r_13 u_13 H locs hp_13 hP hD hS => ?_)
        rcases hp_13 with ⟨rfl, hp_13⟩ | ⟨rfl, hp_13⟩
        · refine lv_if_eq (tgt := 104) hx hb dX4_rows_16 (by decide) (fun c_16 => absurd c_16 (by decide)) (fun c_16 => ?_)
          refine lv_aload_n hx hb dX4_rows_19 rfl (lv_at hl 0 rfl) ?_
          refine lv_iconst (v := nI 1) hx hb dX4_rows_20 (by decide) ?_
          refine lv_iload_n hx hb dX4_rows_21 rfl (lv_at hl 3 rfl) ?_
          refine k_callPi (S := Unit) (wfx := fun u_22 => [kO o 4 [.ref rg, .ref pg, .ref rr, .ref sp, .ref ot, .ref wo, .int (nI ho), .int (nI un)], kGd G rg 12 (oA 12 ra), kGd G pg 12 (oA 12 pa), kH G rr 2 (oR e0 e1), kGd G e0 (vT w0) (oA (vT w0) qa), kGd G e1 (vT w1) (oA (vT w1) qb), kC G sp 2 (nR (w2 (vS w0) (vS w1))), kC G ot 2 (nR (w2 (vO w0) (vO w1))), kC G wo 8 (nR bf)]) (wfp := fun u_22 => sT G ra pa qa qb (rugF w0 w1) (planF w0 w1) (vT w0) (runF w0) (vT w1) (runF w1)) (fun u_22 => [kO o 4 [.ref rg, .ref pg, .ref rr, .ref sp, .ref ot, .ref wo, .int (nI ho), .int (nI un)], kGd G rg 12 (oA 12 ra), kGd G pg 12 (oA 12 pa), kH G rr 2 (oR e0 e1), kGd G e0 (vT w0) (oA (vT w0) qa), kGd G e1 (vT w1) (oA (vT w1) qb), kC G sp 2 (nR (w2 (vS w0) (vS w1))), kC G ot 2 (nR (w2 (vO w0) (vO w1))), kC G wo 8 (nR bf)]) [] (k_runVP (As := [.int (nI 1), .int (nI y)]) (rest := []) (cx := [kO o 4 [.ref rg, .ref pg, .ref rr, .ref sp, .ref ot, .ref wo, .int (nI ho), .int (nI un)], kGd G rg 12 (oA 12 ra), kGd G pg 12 (oA 12 pa), kH G rr 2 (oR e0 e1), kGd G e0 (vT w0) (oA (vT w0) qa), kGd G e1 (vT w1) (oA (vT w1) qb), kC G sp 2 (nR (w2 (vS w0) (vS w1))), kC G ot 2 (nR (w2 (vO w0) (vO w1))), kC G wo 8 (nR bf)]) ⟨hx, hb, hml, hown, hts⟩ (s_isRow1 l G o rg pg rr e0 e1 sp ot wo ra pa qa qb w0 w1 bf ho un y h0 h1 hB (by omega)) (cwV 2 hts gX4_rows_X4_isRow rfl rfl rfl (by decide +kernel) ⟨Nat.le_of_ble_eq_true rfl, Nat.le_of_ble_eq_true rfl⟩) hK hZ hP hD hS hA [0, 1, 2, 3, 4, 5, 6, 7, 8] rfl rfl 0 4 rfl rfl rfl rfl hl.1 rfl (Nat.le_of_ble_eq_true rfl) dX4_rows_22 ⟨(Nat.le_of_ble_eq_true rfl), (Nat.le_of_ble_eq_true rfl)⟩) hP hD hS hA [0, 1, 2, 3, 4, 5, 6, 7, 8] [] [0, 1, 2, 3, 4, 5, 6, 7, 8] rfl rfl rfl (by decide) (fun _ => rfl) rfl (fun r_22 u_22 H locs hp_22 hP hD hS => ?_)
          rcases hp_22 with ⟨rfl, hp_22⟩ | ⟨rfl, hp_22⟩
          · refine lv_if_ne (tgt := 31) hx hb dX4_rows_25 (by decide) (fun c_25 => ?_) (fun c_25 => absurd c_25 (by decide))
            have hyw : y < rwN w0 w1 := by rw [hrw]; omega
            refine lv_aload_n hx hb dX4_rows_31 rfl (lv_at hl 0 rfl) ?_
            refine va_get (D := G.1) (ci := 4) (v := .ref rg) (C := RX4) (T := TX4) (N := 8) hx hb hts hq_0 hown hK.1 hP 0 rfl rfl 0 (by decide) hq_1 (fun _ h9 => h9) rfl dX4_rows_32 ?_
            refine lv_iconst (v := nI 5) hx hb dX4_rows_35 (by decide) ?_
            have hi_1 : 5 < 12 := by omega
            refine k_aldg hx hb hK hP 1 5 rfl (vp_in_nI hi_1 (by omega)) (nI_clamp (Nat.lt_of_lt_of_le hi_1 (by omega))) (oA_at hi_1) dX4_rows_36 ?_
            refine lv_iload_n hx hb dX4_rows_37 rfl (lv_at hl 3 rfl) ?_
            have hi_2 : y < 10 := by omega
            refine va_iald (D := G.1) hx hb hK.1 hP _ 0 (sT_r (i := 5) (by omega)) rfl (vp_in_nI hi_2 (by omega)) dX4_rows_38 ?_
            refine lv_topi (fun y_3 hy_3 => ?_)
            obtain rfl : y_3 = (rugF w0 w1) 5 y := hy_3.trans (congrArg _ (nI_clamp (by omega)))
            have hpl : plN 6 y < 60 := plN_lt (by decide) (by omega)
            have x1 := kb0 _ hpl
            have x2 := kb1 _ hpl
            have x3 := pb0 _ hpl
            have x4 := pb1 _ hpl
            refine lv_topi (fun y_4 hy_4 => ?_)
            obtain rfl : y_4 = nI (vK w0 (plN 6 y)) := hy_4.trans (rug_5 (by unfold rwN at hrw; omega) (by omega))
            refine lv_aload_n hx hb dX4_rows_39 rfl (lv_at hl 0 rfl) ?_
            refine va_get (D := G.1) (ci := 4) (v := .ref rg) (C := RX4) (T := TX4) (N := 8) hx hb hts hq_0 hown hK.1 hP 0 rfl rfl 0 (by decide) hq_1 (fun _ h9 => h9) rfl dX4_rows_40 ?_
            refine lv_bipush (v := nI 6) hx hb dX4_rows_43 (by decide) ?_
            have hi_5 : 6 < 12 := by omega
            refine k_aldg hx hb hK hP 1 6 rfl (vp_in_nI hi_5 (by omega)) (nI_clamp (Nat.lt_of_lt_of_le hi_5 (by omega))) (oA_at hi_5) dX4_rows_45 ?_
            refine lv_iload_n hx hb dX4_rows_46 rfl (lv_at hl 3 rfl) ?_
            have hi_6 : y < 10 := by omega
            refine va_iald (D := G.1) hx hb hK.1 hP _ 0 (sT_r (i := 6) (by omega)) rfl (vp_in_nI hi_6 (by omega)) dX4_rows_47 ?_
            refine lv_topi (fun y_7 hy_7 => ?_)
            obtain rfl : y_7 = (rugF w0 w1) 6 y := hy_7.trans (congrArg _ (nI_clamp (by omega)))
            refine lv_topi (fun y_8 hy_8 => ?_)
            obtain rfl : y_8 = nI (vK w1 (plN 6 y)) := hy_8.trans (rug_6 (by unfold rwN at hrw; omega) (by omega))
            refine lv_icmp_ne (tgt := 55) hx hb dX4_rows_48 (by decide) (fun c_48 => ?_) (fun c_48 => ?_)
            · have c_48 : ¬ ((vK w0 (plN 6 y)) = (vK w1 (plN 6 y))) := fun h9 => c_48 ((nI_eq (a := (vK w0 (plN 6 y))) (b := (vK w1 (plN 6 y))) (by omega) (by omega)).mpr h9)
              refine lv_iconst (v := nI 0) hx hb dX4_rows_55 (by decide) ?_
              refine lv_istore (lv' := [(4, .int (nI 0)), (0, .ref o), (1, .int (nI 1)), (2, .int (nI z)), (3, .int (nI y))]) hx hb dX4_rows_56 hl (by decide) rfl (fun ls hl => ?_)
              refine lv_aload_n hx hb dX4_rows_58 rfl (lv_at hl 1 rfl) ?_
              refine va_get (D := G.1) (ci := 4) (v := .ref pg) (C := RX4) (T := TX4) (N := 8) hx hb hts hq_0 hown hK.1 hP 0 rfl rfl 1 (by decide) hq_2 (fun _ h9 => h9) rfl dX4_rows_59 ?_
              refine lv_iconst (v := nI 5) hx hb dX4_rows_62 (by decide) ?_
              have hi_9 : 5 < 12 := by omega
              refine k_aldg hx hb hK hP 2 5 rfl (vp_in_nI hi_9 (by omega)) (nI_clamp (Nat.lt_of_lt_of_le hi_9 (by omega))) (oA_at hi_9) dX4_rows_63 ?_
              refine lv_iload_n hx hb dX4_rows_64 rfl (lv_at hl 4 rfl) ?_
              have hi_10 : y < 10 := by omega
              refine va_iald (D := G.1) hx hb hK.1 hP _ 0 (sT_p (i := 5) (by omega)) rfl (vp_in_nI hi_10 (by omega)) dX4_rows_65 ?_
              refine lv_topi (fun y_11 hy_11 => ?_)
              obtain rfl : y_11 = (planF w0 w1) 5 y := hy_11.trans (congrArg _ (nI_clamp (by omega)))
              refine lv_topi (fun y_12 hy_12 => ?_)
              obtain rfl : y_12 = nI (ptN w0 w1 5 y) := hy_12.trans (planF_at (by omega) (by omega))
              refine lv_topi (fun y_13 hy_13 => ?_)
              obtain rfl : y_13 = nI (vP w0 (plN 6 y)) := hy_13.trans (congrArg nI pt_5)
              refine lv_aload_n hx hb dX4_rows_66 rfl (lv_at hl 1 rfl) ?_
              refine va_get (D := G.1) (ci := 4) (v := .ref pg) (C := RX4) (T := TX4) (N := 8) hx hb hts hq_0 hown hK.1 hP 0 rfl rfl 1 (by decide) hq_2 (fun _ h9 => h9) rfl dX4_rows_67 ?_
              refine lv_bipush (v := nI 6) hx hb dX4_rows_70 (by decide) ?_
              have hi_14 : 6 < 12 := by omega
              refine k_aldg hx hb hK hP 2 6 rfl (vp_in_nI hi_14 (by omega)) (nI_clamp (Nat.lt_of_lt_of_le hi_14 (by omega))) (oA_at hi_14) dX4_rows_72 ?_
              refine lv_iload_n hx hb dX4_rows_73 rfl (lv_at hl 4 rfl) ?_
              have hi_15 : y < 10 := by omega
              refine va_iald (D := G.1) hx hb hK.1 hP _ 0 (sT_p (i := 6) (by omega)) rfl (vp_in_nI hi_15 (by omega)) dX4_rows_74 ?_
              refine lv_topi (fun y_16 hy_16 => ?_)
              obtain rfl : y_16 = (planF w0 w1) 6 y := hy_16.trans (congrArg _ (nI_clamp (by omega)))
              refine lv_topi (fun y_17 hy_17 => ?_)
              obtain rfl : y_17 = nI (ptN w0 w1 6 y) := hy_17.trans (planF_at (by omega) (by omega))
              refine lv_topi (fun y_18 hy_18 => ?_)
              obtain rfl : y_18 = nI (vP w1 (plN 6 y)) := hy_18.trans (congrArg nI pt_6)
              refine lv_icmp_ne (tgt := 82) hx hb dX4_rows_75 (by decide) (fun c_75 => ?_) (fun c_75 => ?_)
              · have c_75 : ¬ ((vP w0 (plN 6 y)) = (vP w1 (plN 6 y))) := fun h9 => c_75 ((nI_eq (a := (vP w0 (plN 6 y))) (b := (vP w1 (plN 6 y))) (by omega) (by omega)).mpr h9)
                refine lv_iconst (v := nI 0) hx hb dX4_rows_82 (by decide) ?_
                refine lv_istore (lv' := [(5, .int (nI 0)), (4, .int (nI 0)), (0, .ref o), (1, .int (nI 1)), (2, .int (nI z)), (3, .int (nI y))]) hx hb dX4_rows_83 hl (by decide) rfl (fun ls hl => ?_)
                refine lv_iload_n hx hb dX4_rows_85 rfl (lv_at hl 4 rfl) ?_
                refine lv_iload_n hx hb dX4_rows_86 rfl (lv_at hl 3 rfl) ?_
                refine lv_if_eq (tgt := 97) hx hb dX4_rows_87 (by decide) (fun c_87 => absurd c_87 (by decide)) (fun c_87 => ?_)
                refine lv_iload hx hb dX4_rows_90 (lv_at hl 1 rfl) ?_
                refine lv_iload hx hb dX4_rows_92 (lv_at hl 0 rfl) ?_
                refine lv_icmp_eq (tgt := 101) hx hb dX4_rows_94 (by decide) (fun c_94 => ?_) (fun c_94 => absurd c_94 (by decide))
                refine lv_iconst (v := nI 0) hx hb dX4_rows_101 (by decide) ?_
                refine lv_iadd hx hb dX4_rows_102 ?_
                refine lv_topi (fun y_19 hy_19 => ?_)
                obtain rfl : y_19 = nI (z + 0) := hy_19.trans (nI_add z 0)
                refine lv_istore_n (lv' := [(2, .int (nI (z + 0))), (5, .int (nI 0)), (4, .int (nI 0)), (0, .ref o), (1, .int (nI 1)), (3, .int (nI y))]) hx hb dX4_rows_103 rfl hl (by decide) rfl (fun ls hl => ?_)
                refine lv_iinc (v := nI (y + 1)) (lv' := [(3, .int (nI (y + 1))), (2, .int (nI (z + 0))), (5, .int (nI 0)), (4, .int (nI 0)), (0, .ref o), (1, .int (nI 1))]) hx hb dX4_rows_104 hl (k := 5) rfl (nI_add y 1) (by decide) rfl (fun ls hl => ?_)
                refine lv_goto (tgt := 4) hx hb dX4_rows_107 (by decide) ?_
                exact ih_4 (y + 1) (z + 0) (by omega) (by rw [hz]; exact tq_e hyw (by first | exact iff_of_true c_48 c_75 | exact iff_of_false c_48 c_75)) (by omega) _ _ _ hP hD hS (lv_sub hl [4, 5, 1, 0] rfl)
              · have c_75 : (vP w0 (plN 6 y)) = (vP w1 (plN 6 y)) := (nI_eq (a := (vP w0 (plN 6 y))) (b := (vP w1 (plN 6 y))) (by omega) (by omega)).mp c_75
                refine lv_iconst (v := nI 1) hx hb dX4_rows_78 (by decide) ?_
                refine lv_goto (tgt := 83) hx hb dX4_rows_79 (by decide) ?_
                refine lv_istore (lv' := [(5, .int (nI 1)), (4, .int (nI 0)), (0, .ref o), (1, .int (nI 1)), (2, .int (nI z)), (3, .int (nI y))]) hx hb dX4_rows_83 hl (by decide) rfl (fun ls hl => ?_)
                refine lv_iload_n hx hb dX4_rows_85 rfl (lv_at hl 4 rfl) ?_
                refine lv_iload_n hx hb dX4_rows_86 rfl (lv_at hl 3 rfl) ?_
                refine lv_if_eq (tgt := 97) hx hb dX4_rows_87 (by decide) (fun c_87 => absurd c_87 (by decide)) (fun c_87 => ?_)
                refine lv_iload hx hb dX4_rows_90 (lv_at hl 1 rfl) ?_
                refine lv_iload hx hb dX4_rows_92 (lv_at hl 0 rfl) ?_
                refine lv_icmp_eq (tgt := 101) hx hb dX4_rows_94 (by decide) (fun c_94 => absurd c_94 (by decide)) (fun c_94 => ?_)
                refine lv_iconst (v := nI 1) hx hb dX4_rows_97 (by decide) ?_
                refine lv_goto (tgt := 102) hx hb dX4_rows_98 (by decide) ?_
                refine lv_iadd hx hb dX4_rows_102 ?_
                refine lv_topi (fun y_20 hy_20 => ?_)
                obtain rfl : y_20 = nI (z + 1) := hy_20.trans (nI_add z 1)
                refine lv_istore_n (lv' := [(2, .int (nI (z + 1))), (5, .int (nI 1)), (4, .int (nI 0)), (0, .ref o), (1, .int (nI 1)), (3, .int (nI y))]) hx hb dX4_rows_103 rfl hl (by decide) rfl (fun ls hl => ?_)
                refine lv_iinc (v := nI (y + 1)) (lv' := [(3, .int (nI (y + 1))), (2, .int (nI (z + 1))), (5, .int (nI 1)), (4, .int (nI 0)), (0, .ref o), (1, .int (nI 1))]) hx hb dX4_rows_104 hl (k := 5) rfl (nI_add y 1) (by decide) rfl (fun ls hl => ?_)
                refine lv_goto (tgt := 4) hx hb dX4_rows_107 (by decide) ?_
                exact ih_4 (y + 1) (z + 1) (by omega) (by rw [hz]; exact tq_n hyw (by first | exact fun q => c_75 (q.mp c_48) | exact fun q => c_48 (q.mpr c_75))) (by omega) _ _ _ hP hD hS (lv_sub hl [4, 5, 1, 0] rfl)
            · have c_48 : (vK w0 (plN 6 y)) = (vK w1 (plN 6 y)) := (nI_eq (a := (vK w0 (plN 6 y))) (b := (vK w1 (plN 6 y))) (by omega) (by omega)).mp c_48
              refine lv_iconst (v := nI 1) hx hb dX4_rows_51 (by decide) ?_
              refine lv_goto (tgt := 56) hx hb dX4_rows_52 (by decide) ?_
              refine lv_istore (lv' := [(4, .int (nI 1)), (0, .ref o), (1, .int (nI 1)), (2, .int (nI z)), (3, .int (nI y))]) hx hb dX4_rows_56 hl (by decide) rfl (fun ls hl => ?_)
              refine lv_aload_n hx hb dX4_rows_58 rfl (lv_at hl 1 rfl) ?_
              refine va_get (D := G.1) (ci := 4) (v := .ref pg) (C := RX4) (T := TX4) (N := 8) hx hb hts hq_0 hown hK.1 hP 0 rfl rfl 1 (by decide) hq_2 (fun _ h9 => h9) rfl dX4_rows_59 ?_
              refine lv_iconst (v := nI 5) hx hb dX4_rows_62 (by decide) ?_
              have hi_21 : 5 < 12 := by omega
              refine k_aldg hx hb hK hP 2 5 rfl (vp_in_nI hi_21 (by omega)) (nI_clamp (Nat.lt_of_lt_of_le hi_21 (by omega))) (oA_at hi_21) dX4_rows_63 ?_
              refine lv_iload_n hx hb dX4_rows_64 rfl (lv_at hl 4 rfl) ?_
              have hi_22 : y < 10 := by omega
              refine va_iald (D := G.1) hx hb hK.1 hP _ 0 (sT_p (i := 5) (by omega)) rfl (vp_in_nI hi_22 (by omega)) dX4_rows_65 ?_
              refine lv_topi (fun y_23 hy_23 => ?_)
              obtain rfl : y_23 = (planF w0 w1) 5 y := hy_23.trans (congrArg _ (nI_clamp (by omega)))
              refine lv_topi (fun y_24 hy_24 => ?_)
              obtain rfl : y_24 = nI (ptN w0 w1 5 y) := hy_24.trans (planF_at (by omega) (by omega))
              refine lv_topi (fun y_25 hy_25 => ?_)
              obtain rfl : y_25 = nI (vP w0 (plN 6 y)) := hy_25.trans (congrArg nI pt_5)
              refine lv_aload_n hx hb dX4_rows_66 rfl (lv_at hl 1 rfl) ?_
              refine va_get (D := G.1) (ci := 4) (v := .ref pg) (C := RX4) (T := TX4) (N := 8) hx hb hts hq_0 hown hK.1 hP 0 rfl rfl 1 (by decide) hq_2 (fun _ h9 => h9) rfl dX4_rows_67 ?_
              refine lv_bipush (v := nI 6) hx hb dX4_rows_70 (by decide) ?_
              have hi_26 : 6 < 12 := by omega
              refine k_aldg hx hb hK hP 2 6 rfl (vp_in_nI hi_26 (by omega)) (nI_clamp (Nat.lt_of_lt_of_le hi_26 (by omega))) (oA_at hi_26) dX4_rows_72 ?_
              refine lv_iload_n hx hb dX4_rows_73 rfl (lv_at hl 4 rfl) ?_
              have hi_27 : y < 10 := by omega
              refine va_iald (D := G.1) hx hb hK.1 hP _ 0 (sT_p (i := 6) (by omega)) rfl (vp_in_nI hi_27 (by omega)) dX4_rows_74 ?_
              refine lv_topi (fun y_28 hy_28 => ?_)
              obtain rfl : y_28 = (planF w0 w1) 6 y := hy_28.trans (congrArg _ (nI_clamp (by omega)))
              refine lv_topi (fun y_29 hy_29 => ?_)
              obtain rfl : y_29 = nI (ptN w0 w1 6 y) := hy_29.trans (planF_at (by omega) (by omega))
              refine lv_topi (fun y_30 hy_30 => ?_)
              obtain rfl : y_30 = nI (vP w1 (plN 6 y)) := hy_30.trans (congrArg nI pt_6)
              refine lv_icmp_ne (tgt := 82) hx hb dX4_rows_75 (by decide) (fun c_75 => ?_) (fun c_75 => ?_)
              · have c_75 : ¬ ((vP w0 (plN 6 y)) = (vP w1 (plN 6 y))) := fun h9 => c_75 ((nI_eq (a := (vP w0 (plN 6 y))) (b := (vP w1 (plN 6 y))) (by omega) (by omega)).mpr h9)
                refine lv_iconst (v := nI 0) hx hb dX4_rows_82 (by decide) ?_
                refine lv_istore (lv' := [(5, .int (nI 0)), (4, .int (nI 1)), (0, .ref o), (1, .int (nI 1)), (2, .int (nI z)), (3, .int (nI y))]) hx hb dX4_rows_83 hl (by decide) rfl (fun ls hl => ?_)
                refine lv_iload_n hx hb dX4_rows_85 rfl (lv_at hl 4 rfl) ?_
                refine lv_iload_n hx hb dX4_rows_86 rfl (lv_at hl 3 rfl) ?_
                refine lv_if_eq (tgt := 97) hx hb dX4_rows_87 (by decide) (fun c_87 => absurd c_87 (by decide)) (fun c_87 => ?_)
                refine lv_iload hx hb dX4_rows_90 (lv_at hl 1 rfl) ?_
                refine lv_iload hx hb dX4_rows_92 (lv_at hl 0 rfl) ?_
                refine lv_icmp_eq (tgt := 101) hx hb dX4_rows_94 (by decide) (fun c_94 => absurd c_94 (by decide)) (fun c_94 => ?_)
                refine lv_iconst (v := nI 1) hx hb dX4_rows_97 (by decide) ?_
                refine lv_goto (tgt := 102) hx hb dX4_rows_98 (by decide) ?_
                refine lv_iadd hx hb dX4_rows_102 ?_
                refine lv_topi (fun y_31 hy_31 => ?_)
                obtain rfl : y_31 = nI (z + 1) := hy_31.trans (nI_add z 1)
                refine lv_istore_n (lv' := [(2, .int (nI (z + 1))), (5, .int (nI 0)), (4, .int (nI 1)), (0, .ref o), (1, .int (nI 1)), (3, .int (nI y))]) hx hb dX4_rows_103 rfl hl (by decide) rfl (fun ls hl => ?_)
                refine lv_iinc (v := nI (y + 1)) (lv' := [(3, .int (nI (y + 1))), (2, .int (nI (z + 1))), (5, .int (nI 0)), (4, .int (nI 1)), (0, .ref o), (1, .int (nI 1))]) hx hb dX4_rows_104 hl (k := 5) rfl (nI_add y 1) (by decide) rfl (fun ls hl => ?_)
                refine lv_goto (tgt := 4) hx hb dX4_rows_107 (by decide) ?_
                exact ih_4 (y + 1) (z + 1) (by omega) (by rw [hz]; exact tq_n hyw (by first | exact fun q => c_75 (q.mp c_48) | exact fun q => c_48 (q.mpr c_75))) (by omega) _ _ _ hP hD hS (lv_sub hl [4, 5, 1, 0] rfl)
              · have c_75 : (vP w0 (plN 6 y)) = (vP w1 (plN 6 y)) := (nI_eq (a := (vP w0 (plN 6 y))) (b := (vP w1 (plN 6 y))) (by omega) (by omega)).mp c_75
                refine lv_iconst (v := nI 1) hx hb dX4_rows_78 (by decide) ?_
                refine lv_goto (tgt := 83) hx hb dX4_rows_79 (by decide) ?_
                refine lv_istore (lv' := [(5, .int (nI 1)), (4, .int (nI 1)), (0, .ref o), (1, .int (nI 1)), (2, .int (nI z)), (3, .int (nI y))]) hx hb dX4_rows_83 hl (by decide) rfl (fun ls hl => ?_)
                refine lv_iload_n hx hb dX4_rows_85 rfl (lv_at hl 4 rfl) ?_
                refine lv_iload_n hx hb dX4_rows_86 rfl (lv_at hl 3 rfl) ?_
                refine lv_if_eq (tgt := 97) hx hb dX4_rows_87 (by decide) (fun c_87 => absurd c_87 (by decide)) (fun c_87 => ?_)
                refine lv_iload hx hb dX4_rows_90 (lv_at hl 1 rfl) ?_
                refine lv_iload hx hb dX4_rows_92 (lv_at hl 0 rfl) ?_
                refine lv_icmp_eq (tgt := 101) hx hb dX4_rows_94 (by decide) (fun c_94 => ?_) (fun c_94 => absurd c_94 (by decide))
                refine lv_iconst (v := nI 0) hx hb dX4_rows_101 (by decide) ?_
                refine lv_iadd hx hb dX4_rows_102 ?_
                refine lv_topi (fun y_32 hy_32 => ?_)
                obtain rfl : y_32 = nI (z + 0) := hy_32.trans (nI_add z 0)
                refine lv_istore_n (lv' := [(2, .int (nI (z + 0))), (5, .int (nI 1)), (4, .int (nI 1)), (0, .ref o), (1, .int (nI 1)), (3, .int (nI y))]) hx hb dX4_rows_103 rfl hl (by decide) rfl (fun ls hl => ?_)
                refine lv_iinc (v := nI (y + 1)) (lv' := [(3, .int (nI (y + 1))), (2, .int (nI (z + 0))), (5, .int (nI 1)), (4, .int (nI 1)), (0, .ref o), (1, .int (nI 1))]) hx hb dX4_rows_104 hl (k := 5) rfl (nI_add y 1) (by decide) rfl (fun ls hl => ?_)
                refine lv_goto (tgt := 4) hx hb dX4_rows_107 (by decide) ?_
                exact ih_4 (y + 1) (z + 0) (by omega) (by rw [hz]; exact tq_e hyw (by first | exact iff_of_true c_48 c_75 | exact iff_of_false c_48 c_75)) (by omega) _ _ _ hP hD hS (lv_sub hl [4, 5, 1, 0] rfl)
          · refine lv_if_ne (tgt := 31) hx hb dX4_rows_25 (by decide) (fun c_25 => absurd c_25 (by decide)) (fun c_25 => ?_)
            refine lv_goto (tgt := 104) hx hb dX4_rows_28 (by decide) ?_
            refine lv_iinc (v := nI (y + 1)) (lv' := [(3, .int (nI (y + 1))), (0, .ref o), (1, .int (nI 1)), (2, .int (nI z))]) hx hb dX4_rows_104 hl (k := 3) rfl (nI_add y 1) (by decide) rfl (fun ls hl => ?_)
            refine lv_goto (tgt := 4) hx hb dX4_rows_107 (by decide) ?_
            exact ih_4 (y + 1) z (by omega) (by rw [hz]; exact tq_o (by omega)) (by omega) _ _ _ hP hD hS (lv_sub hl [1, 2, 3, 0] rfl)
        · refine lv_if_eq (tgt := 104) hx hb dX4_rows_16 (by decide) (fun c_16 => ?_) (fun c_16 => absurd c_16 (by decide))
          refine lv_iinc (v := nI (y + 1)) (lv' := [(3, .int (nI (y + 1))), (0, .ref o), (1, .int (nI 1)), (2, .int (nI z))]) hx hb dX4_rows_104 hl (k := 3) rfl (nI_add y 1) (by decide) rfl (fun ls hl => ?_)
          refine lv_goto (tgt := 4) hx hb dX4_rows_107 (by decide) ?_
          exact ih_4 (y + 1) z (by omega) (by rw [hz]; exact tq_o (by omega)) (by omega) _ _ _ hP hD hS (lv_sub hl [1, 2, 3, 0] rfl)
  exact loop_4 11 0 0 (by omega) (by rw [Nat.min_eq_left (Nat.zero_le _)]; rfl) (by omega) H locs ls hP hD hS (lv_sub hl [2, 3, 1, 0] rfl)
