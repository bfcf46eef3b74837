set_option maxHeartbeats 4000000 in
set_option maxRecDepth 100000 in
theorem s_tell0 (l : Launch) (G : kG) (o : Nat) (rg : Nat) (pg : Nat) (rr : Nat) (e0 : Nat) (e1 : Nat) (sp : Nat) (ot : Nat) (wo : Nat) (ra : Nat → Nat) (pa : Nat → Nat) (qa : Nat → Nat) (qb : Nat → Nat) (w0 : Wv) (w1 : Wv) (bf : Nat → Nat) (ho : Nat) (un : Nat) (co : Nat) (k : Nat) (h0 : wOk w0) (h1 : wOk w1) (hB : bOk bf) : kM l G yX4_tell wsX4_tell ({ frames := 0, cells := 2, slots := 23, locals := 0 } : Room) [.ref o, .int (nI 0), .int (nI co), .int (nI k)] ([kO o 4 [.ref rg, .ref pg, .ref rr, .ref sp, .ref ot, .ref wo, .int (nI ho), .int (nI un)], kGd G rg 12 (oA 12 ra), kGd G pg 12 (oA 12 pa), kH G rr 2 (oR e0 e1), kGd G e0 (vT w0) (oA (vT w0) qa), kGd G e1 (vT w1) (oA (vT w1) qb), kC G sp 2 (nR (w2 (vS w0) (vS w1))), kC G ot 2 (nR (w2 (vO w0) (vO w1))), kC G wo 8 (nR bf)] ++ sT G ra pa qa qb (rugF w0 w1) (planF w0 w1) (vT w0) (runF w0) (vT w1) (runF w1)) (kQv G ([kO o 4 [.ref rg, .ref pg, .ref rr, .ref sp, .ref ot, .ref wo, .int (nI ho), .int (nI un)], kGd G rg 12 (oA 12 ra), kGd G pg 12 (oA 12 pa), kH G rr 2 (oR e0 e1), kGd G e0 (vT w0) (oA (vT w0) qa), kGd G e1 (vT w1) (oA (vT w1) qb), kC G sp 2 (nR (w2 (vS w0) (vS w1))), kC G ot 2 (nR (w2 (vO w0) (vO w1))), kC G wo 8 (nR bf)] ++ sT G ra pa qa qb (rugF w0 w1) (planF w0 w1) (vT w0) (runF w0) (vT w1) (runF w1)) (fun (_ : Nat × (Nat → Nat)) => True) (fun (u : Nat × (Nat → Nat)) => ([kO o 4 [.ref rg, .ref pg, .ref rr, .ref sp, .ref ot, .ref wo, .int (nI ho), .int (nI un)], kGd G rg 12 (oA 12 ra), kGd G pg 12 (oA 12 pa), kH G rr 2 (oR u.1 e1), kGd G u.1 (vT (wTell w0 co k)) (oA (vT (wTell w0 co k)) u.2), kGd G e1 (vT w1) (oA (vT w1) qb), kC G sp 2 (nR (w2 (vS (wTell w0 co k)) (vS w1))), kC G ot 2 (nR (w2 (vO (wTell w0 co k)) (vO w1))), kC G wo 8 (nR bf)] ++ sT G ra pa u.2 qb (rugF (wTell w0 co k) w1) (planF (wTell w0 co k) w1) (vT (wTell w0 co k)) (runF (wTell w0 co k)) (vT w1) (runF w1)))) := by
  refine k_ofW (cc := cX4_tell) (maxL := 6) (rt := none) (by decide) rfl (Nat.le_of_ble_eq_true rfl) ?_
  intro p e s m args below meth c A ls Qs H locs hQ hAe hx hb hr hml hts hown hlocks hin hK hZ hP hD hS hA hl
  have hown : s.vm.findClass RX4 = some m.cls := hown
  have hl : lv_has ls 6 [(0, .ref o), (1, .int (nI 0)), (2, .int (nI co)), (3, .int (nI k))] := hl
  have m0b : vM w0 ≤ 60 := h0.2.2.2.1
  have m1b : vM w1 ≤ 60 := h1.2.2.2.1
  have t0b : vT w0 ≤ 20 := h0.2.2.1
  have t1b : vT w1 ≤ 20 := h1.2.2.1
  have pb0 : ∀ i, i < 60 → vP w0 i < 8 := h0.2.2.2.2.1
  have pb1 : ∀ i, i < 60 → vP w1 i < 8 := h1.2.2.2.2.1
  have kb0 : ∀ i, i < 60 → vK w0 i < 8 := h0.2.2.2.2.2.1
  have kb1 : ∀ i, i < 60 → vK w1 i < 8 := h1.2.2.2.2.2.1
  have cb0 : ∀ i, i < vT w0 → vC w0 i < 8 := h0.2.2.2.2.2.2.1
  have cb1 : ∀ i, i < vT w1 → vC w1 i < 8 := h1.2.2.2.2.2.2.1
  have nb0 : ∀ i, i < vT w0 → 1 ≤ vN w0 i ∧ vN w0 i ≤ 60 := h0.2.2.2.2.2.2.2
  have nb1 : ∀ i, i < vT w1 → 1 ≤ vN w1 i ∧ vN w1 i ≤ 60 := h1.2.2.2.2.2.2.2
  have sb0 : vS w0 ≤ 6 := h0.2.1
  have sb1 : vS w1 ≤ 6 := h1.2.1
  have hq_0 : ∀ w ∈ wsX40, w ∈ wsX4_tell := by decide +kernel
  have hq_1 : (Cond.fieldLink RX4 19 "KnotRugsLaw$Sim" "runs" "[[[I").before args s = true := hts _ (by decide +kernel)
  have hq_2 : (Cond.classLink RX4 33 "[I").before args s = true := hts _ (by decide +kernel)
  have hq_3 : (Cond.arrayClass .int).before args s = true := hts _ (by decide +kernel)
  refine lv_aload_n hx hb dX4_tell_0 rfl (lv_at hl 0 rfl) ?_
  refine va_get (D := G.1) (ci := 4) (v := .ref rr) (C := RX4) (T := TX4) (N := 8) hx hb hts hq_0 hown hK.1 hP 0 rfl rfl 2 (by decide) hq_1 (fun _ h9 => h9) rfl dX4_tell_1 ?_
  refine lv_iload_n hx hb dX4_tell_4 rfl (lv_at hl 1 rfl) ?_
  refine k_ald3 hx hb hK hP 3 0 rfl (vp_in_nI (n := 0) (by decide) (by decide)) (by decide) rfl dX4_tell_5 ?_
  refine va_alen (D := G.1) (v := nI (vT w0)) hx hb hK.1 hP 4 2 rfl rfl rfl dX4_tell_6 ?_
  refine lv_iconst (v := nI 1) hx hb dX4_tell_7 (by decide) ?_
  refine lv_iadd hx hb dX4_tell_8 ?_
  refine lv_topi (fun y_1 hy_1 => ?_)
  obtain rfl : y_1 = nI ((vT w0) + 1) := hy_1.trans (nI_add (vT w0) 1)
  refine k_newg hx hb hown hq_2 hK hP hD hS hA (N' := ((vT w0) + 1)) (nI_pos (by omega)) (nI_clamp (by omega)) (by omega) (Nat.le_of_ble_eq_true rfl) (by show 0 + ((vT w0) + 1) ≤ _; exact Nat.le_trans (by omega) (show 21 ≤ _ from Nat.le_of_ble_eq_true rfl)) dX4_tell_9 (fun g_9 H hP hD hS => ?_)
  refine W.widen (k := 1) (n := 21) (by show 1 ≤ 1; omega) (by show 0 + ((vT w0) + 1) ≤ 21; omega) ?_
  rw [oA_0 (a := qa)] at hP hD
  have hP := va_P.swap (a := [kO o 4 [.ref rg, .ref pg, .ref rr, .ref sp, .ref ot, .ref wo, .int (nI ho), .int (nI un)], kGd G rg 12 (oA 12 ra), kGd G pg 12 (oA 12 pa), kH G rr 2 (oR e0 e1), kGd G e0 (vT w0) (oA (vT w0) qa), kGd G e1 (vT w1) (oA (vT w1) qb), kC G sp 2 (nR (w2 (vS w0) (vS w1))), kC G ot 2 (nR (w2 (vO w0) (vO w1))), kC G wo 8 (nR bf)]) (b := sT G ra pa qa qb (rugF w0 w1) (planF w0 w1) (vT w0) (runF w0) (vT w1) (runF w1)) (c := [kGd G g_9 ((vT w0) + 1) (oA 0 qa)]) hP
  have hD := va_D.swap (a := [kO o 4 [.ref rg, .ref pg, .ref rr, .ref sp, .ref ot, .ref wo, .int (nI ho), .int (nI un)], kGd G rg 12 (oA 12 ra), kGd G pg 12 (oA 12 pa), kH G rr 2 (oR e0 e1), kGd G e0 (vT w0) (oA (vT w0) qa), kGd G e1 (vT w1) (oA (vT w1) qb), kC G sp 2 (nR (w2 (vS w0) (vS w1))), kC G ot 2 (nR (w2 (vO w0) (vO w1))), kC G wo 8 (nR bf)]) (b := sT G ra pa qa qb (rugF w0 w1) (planF w0 w1) (vT w0) (runF w0) (vT w1) (runF w1)) (c := [kGd G g_9 ((vT w0) + 1) (oA 0 qa)]) hD
  have hP : va_P G.1 vwCl ([kO o 4 [.ref rg, .ref pg, .ref rr, .ref sp, .ref ot, .ref wo, .int (nI ho), .int (nI un)], kGd G rg 12 (oA 12 ra), kGd G pg 12 (oA 12 pa), kH G rr 2 (oR e0 e1), kGd G e0 (vT w0) (oA (vT w0) qa), kGd G e1 (vT w1) (oA (vT w1) qb), kC G sp 2 (nR (w2 (vS w0) (vS w1))), kC G ot 2 (nR (w2 (vO w0) (vO w1))), kC G wo 8 (nR bf), kGd G g_9 ((vT w0) + 1) (oA 0 qa)] ++ sT G ra pa qa qb (rugF w0 w1) (planF w0 w1) (vT w0) (runF w0) (vT w1) (runF w1)) H := hP
  have hD : va_D A ([kO o 4 [.ref rg, .ref pg, .ref rr, .ref sp, .ref ot, .ref wo, .int (nI ho), .int (nI un)], kGd G rg 12 (oA 12 ra), kGd G pg 12 (oA 12 pa), kH G rr 2 (oR e0 e1), kGd G e0 (vT w0) (oA (vT w0) qa), kGd G e1 (vT w1) (oA (vT w1) qb), kC G sp 2 (nR (w2 (vS w0) (vS w1))), kC G ot 2 (nR (w2 (vO w0) (vO w1))), kC G wo 8 (nR bf), kGd G g_9 ((vT w0) + 1) (oA 0 qa)] ++ sT G ra pa qa qb (rugF w0 w1) (planF w0 w1) (vT w0) (runF w0) (vT w1) (runF w1)) := hD
  refine lv_astore (lv' := [(4, .ref g_9), (0, .ref o), (1, .int (nI 0)), (2, .int (nI co)), (3, .int (nI k))]) hx hb dX4_tell_12 hl (by decide) rfl (fun ls hl => ?_)
  refine lv_iconst (v := nI 0) hx hb dX4_tell_14 (by decide) ?_
  refine lv_istore (lv' := [(5, .int (nI 0)), (4, .ref g_9), (0, .ref o), (1, .int (nI 0)), (2, .int (nI co)), (3, .int (nI k))]) hx hb dX4_tell_15 hl (by decide) rfl (fun ls hl => ?_)
  have loop_17 : ∀ (fu_17 : Nat) (i : Nat), i ≤ vT w0 → vT w0 < i + fu_17 → ∀ (H : Heap) (locs : List Loc) (ls : Array Slot), va_P G.1 vwCl ([kO o 4 [.ref rg, .ref pg, .ref rr, .ref sp, .ref ot, .ref wo, .int (nI ho), .int (nI un)], kGd G rg 12 (oA 12 ra), kGd G pg 12 (oA 12 pa), kH G rr 2 (oR e0 e1), kGd G e0 (vT w0) (oA (vT w0) qa), kGd G e1 (vT w1) (oA (vT w1) qb), kC G sp 2 (nR (w2 (vS w0) (vS w1))), kC G ot 2 (nR (w2 (vO w0) (vO w1))), kC G wo 8 (nR bf), kGd G g_9 (vT w0 + 1) (oA i qa)] ++ sT G ra pa qa qb (rugF w0 w1) (planF w0 w1) (vT w0) (runF w0) (vT w1) (runF w1)) H → va_D A ([kO o 4 [.ref rg, .ref pg, .ref rr, .ref sp, .ref ot, .ref wo, .int (nI ho), .int (nI un)], kGd G rg 12 (oA 12 ra), kGd G pg 12 (oA 12 pa), kH G rr 2 (oR e0 e1), kGd G e0 (vT w0) (oA (vT w0) qa), kGd G e1 (vT w1) (oA (vT w1) qb), kC G sp 2 (nR (w2 (vS w0) (vS w1))), kC G ot 2 (nR (w2 (vO w0) (vO w1))), kC G wo 8 (nR bf), kGd G g_9 (vT w0 + 1) (oA i qa)] ++ sT G ra pa qa qb (rugF w0 w1) (planF w0 w1) (vT w0) (runF w0) (vT w1) (runF w1)) → va_S A s.heap H locs → lv_has ls 6 [(0, .ref o), (1, .int (nI 0)), (2, .int (nI co)), (3, .int (nI k)), (4, .ref g_9), (5, .int (nI i))] → W p l e ({ frames := 0, cells := 2, slots := 23, locals := 0 } : Room) s m args below meth c H locs 1 21 Qs (F0 m 17 ls []) := by
    intro fu_17
    induction fu_17 with
    | zero =>
      intro i hi hf
      exact absurd hf (by omega)
    | succ fu_17 ih_17 =>
      intro i hi hf H locs ls hP hD hS hl
      refine lv_iload hx hb dX4_tell_17 (lv_at hl 5 rfl) ?_
      refine lv_aload_n hx hb dX4_tell_19 rfl (lv_at hl 0 rfl) ?_
      refine va_get (D := G.1) (ci := 4) (v := .ref rr) (C := RX4) (T := TX4) (N := 8) hx hb hts hq_0 hown hK.1 hP 0 rfl rfl 2 (by decide) hq_1 (fun _ h9 => h9) rfl dX4_tell_20 ?_
      refine lv_iload_n hx hb dX4_tell_23 rfl (lv_at hl 1 rfl) ?_
      refine k_ald3 hx hb hK hP 3 0 rfl (vp_in_nI (n := 0) (by decide) (by decide)) (by decide) rfl dX4_tell_24 ?_
      refine va_alen (D := G.1) (v := nI (vT w0)) hx hb hK.1 hP 4 2 rfl rfl rfl dX4_tell_25 ?_
      refine lv_icmp_ge (tgt := 49) hx hb dX4_tell_26 (by decide) (fun c_26 => ?_) (fun c_26 => ?_)
      · have c_26 : (vT w0) ≤ i := (nI_leI (a := (vT w0)) (b := i) (by omega) (by omega)).mp c_26
        have hi9 : i = vT w0 := by omega
        subst hi9
        have hP : va_P G.1 vwCl ([kO o 4 [.ref rg, .ref pg, .ref rr, .ref sp, .ref ot, .ref wo, .int (nI ho), .int (nI un)], kGd G rg 12 (oA 12 ra), kGd G pg 12 (oA 12 pa), kH G rr 2 (oR e0 e1), kGd G e0 (vT w0) (oA (vT w0) qa), kGd G e1 (vT w1) (oA (vT w1) qb), kC G sp 2 (nR (w2 (vS w0) (vS w1))), kC G ot 2 (nR (w2 (vO w0) (vO w1))), kC G wo 8 (nR bf), kGd G g_9 (vT w0 + 1) (oA (vT w0) qa)] ++ sT G ra pa qa qb (rugF w0 w1) (planF w0 w1) (vT w0) (runF w0) (vT w1) (runF w1)) H := hP
        have hD : va_D A ([kO o 4 [.ref rg, .ref pg, .ref rr, .ref sp, .ref ot, .ref wo, .int (nI ho), .int (nI un)], kGd G rg 12 (oA 12 ra), kGd G pg 12 (oA 12 pa), kH G rr 2 (oR e0 e1), kGd G e0 (vT w0) (oA (vT w0) qa), kGd G e1 (vT w1) (oA (vT w1) qb), kC G sp 2 (nR (w2 (vS w0) (vS w1))), kC G ot 2 (nR (w2 (vO w0) (vO w1))), kC G wo 8 (nR bf), kGd G g_9 (vT w0 + 1) (oA (vT w0) qa)] ++ sT G ra pa qa qb (rugF w0 w1) (planF w0 w1) (vT w0) (runF w0) (vT w1) (runF w1)) := hD
        refine lv_aload hx hb dX4_tell_49 (lv_at hl 4 rfl) ?_
        refine lv_aload_n hx hb dX4_tell_51 rfl (lv_at hl 0 rfl) ?_
        refine va_get (D := G.1) (ci := 4) (v := .ref rr) (C := RX4) (T := TX4) (N := 8) hx hb hts hq_0 hown hK.1 hP 0 rfl rfl 2 (by decide) hq_1 (fun _ h9 => h9) rfl dX4_tell_52 ?_
        refine lv_iload_n hx hb dX4_tell_55 rfl (lv_at hl 1 rfl) ?_
        refine k_ald3 hx hb hK hP 3 0 rfl (vp_in_nI (n := 0) (by decide) (by decide)) (by decide) rfl dX4_tell_56 ?_
        refine va_alen (D := G.1) (v := nI (vT w0)) hx hb hK.1 hP 4 2 rfl rfl rfl dX4_tell_57 ?_
        refine lv_iconst (v := nI 2) hx hb dX4_tell_58 (by decide) ?_
        refine k_newi hx hb hq_3 hK hP hD hS hA (N' := 2) (by decide) (by decide) (by decide) (Nat.le_of_ble_eq_true rfl) (Nat.le_of_ble_eq_true rfl) dX4_tell_59 (fun g_59 H hP hD hS => ?_)
        rw [w2_z] at hP hD
        have hP := va_P.swap (a := [kO o 4 [.ref rg, .ref pg, .ref rr, .ref sp, .ref ot, .ref wo, .int (nI ho), .int (nI un)], kGd G rg 12 (oA 12 ra), kGd G pg 12 (oA 12 pa), kH G rr 2 (oR e0 e1), kGd G e0 (vT w0) (oA (vT w0) qa), kGd G e1 (vT w1) (oA (vT w1) qb), kC G sp 2 (nR (w2 (vS w0) (vS w1))), kC G ot 2 (nR (w2 (vO w0) (vO w1))), kC G wo 8 (nR bf), kGd G g_9 (vT w0 + 1) (oA (vT w0) qa)]) (b := sT G ra pa qa qb (rugF w0 w1) (planF w0 w1) (vT w0) (runF w0) (vT w1) (runF w1)) (c := [kC G g_59 2 (nR (w2 0 0))]) hP
        have hD := va_D.swap (a := [kO o 4 [.ref rg, .ref pg, .ref rr, .ref sp, .ref ot, .ref wo, .int (nI ho), .int (nI un)], kGd G rg 12 (oA 12 ra), kGd G pg 12 (oA 12 pa), kH G rr 2 (oR e0 e1), kGd G e0 (vT w0) (oA (vT w0) qa), kGd G e1 (vT w1) (oA (vT w1) qb), kC G sp 2 (nR (w2 (vS w0) (vS w1))), kC G ot 2 (nR (w2 (vO w0) (vO w1))), kC G wo 8 (nR bf), kGd G g_9 (vT w0 + 1) (oA (vT w0) qa)]) (b := sT G ra pa qa qb (rugF w0 w1) (planF w0 w1) (vT w0) (runF w0) (vT w1) (runF w1)) (c := [kC G g_59 2 (nR (w2 0 0))]) hD
        have hP : va_P G.1 vwCl ([kO o 4 [.ref rg, .ref pg, .ref rr, .ref sp, .ref ot, .ref wo, .int (nI ho), .int (nI un)], kGd G rg 12 (oA 12 ra), kGd G pg 12 (oA 12 pa), kH G rr 2 (oR e0 e1), kGd G e0 (vT w0) (oA (vT w0) qa), kGd G e1 (vT w1) (oA (vT w1) qb), kC G sp 2 (nR (w2 (vS w0) (vS w1))), kC G ot 2 (nR (w2 (vO w0) (vO w1))), kC G wo 8 (nR bf), kGd G g_9 (vT w0 + 1) (oA (vT w0) qa), kC G g_59 2 (nR (w2 0 0))] ++ sT G ra pa qa qb (rugF w0 w1) (planF w0 w1) (vT w0) (runF w0) (vT w1) (runF w1)) H := hP
        have hD : va_D A ([kO o 4 [.ref rg, .ref pg, .ref rr, .ref sp, .ref ot, .ref wo, .int (nI ho), .int (nI un)], kGd G rg 12 (oA 12 ra), kGd G pg 12 (oA 12 pa), kH G rr 2 (oR e0 e1), kGd G e0 (vT w0) (oA (vT w0) qa), kGd G e1 (vT w1) (oA (vT w1) qb), kC G sp 2 (nR (w2 (vS w0) (vS w1))), kC G ot 2 (nR (w2 (vO w0) (vO w1))), kC G wo 8 (nR bf), kGd G g_9 (vT w0 + 1) (oA (vT w0) qa), kC G g_59 2 (nR (w2 0 0))] ++ sT G ra pa qa qb (rugF w0 w1) (planF w0 w1) (vT w0) (runF w0) (vT w1) (runF w1)) := hD
        refine lv_dup hx hb dX4_tell_61 rfl ?_
        refine lv_iconst (v := nI 0) hx hb dX4_tell_62 (by decide) ?_
        refine lv_iload_n hx hb dX4_tell_63 rfl (lv_at hl 2 rfl) ?_
        have hi_2 : 0 < 2 := by omega
        refine va_iast (D := G.1) hx hb hK.1 hP hD hS 10 0 rfl rfl (vp_in_nI hi_2 (by omega)) dX4_tell_64 (fun H locs hP hD hS => ?_)
        rw [nR_upd (f := (w2 0 0)) (k := 0) (v := co) (by omega)] at hP hD
        rw [w2_0] at hP hD
        have hP : va_P G.1 vwCl ([kO o 4 [.ref rg, .ref pg, .ref rr, .ref sp, .ref ot, .ref wo, .int (nI ho), .int (nI un)], kGd G rg 12 (oA 12 ra), kGd G pg 12 (oA 12 pa), kH G rr 2 (oR e0 e1), kGd G e0 (vT w0) (oA (vT w0) qa), kGd G e1 (vT w1) (oA (vT w1) qb), kC G sp 2 (nR (w2 (vS w0) (vS w1))), kC G ot 2 (nR (w2 (vO w0) (vO w1))), kC G wo 8 (nR bf), kGd G g_9 (vT w0 + 1) (oA (vT w0) qa), kC G g_59 2 (nR (w2 co 0))] ++ sT G ra pa qa qb (rugF w0 w1) (planF w0 w1) (vT w0) (runF w0) (vT w1) (runF w1)) H := hP
        have hD : va_D A ([kO o 4 [.ref rg, .ref pg, .ref rr, .ref sp, .ref ot, .ref wo, .int (nI ho), .int (nI un)], kGd G rg 12 (oA 12 ra), kGd G pg 12 (oA 12 pa), kH G rr 2 (oR e0 e1), kGd G e0 (vT w0) (oA (vT w0) qa), kGd G e1 (vT w1) (oA (vT w1) qb), kC G sp 2 (nR (w2 (vS w0) (vS w1))), kC G ot 2 (nR (w2 (vO w0) (vO w1))), kC G wo 8 (nR bf), kGd G g_9 (vT w0 + 1) (oA (vT w0) qa), kC G g_59 2 (nR (w2 co 0))] ++ sT G ra pa qa qb (rugF w0 w1) (planF w0 w1) (vT w0) (runF w0) (vT w1) (runF w1)) := hD
        refine lv_dup hx hb dX4_tell_65 rfl ?_
        refine lv_iconst (v := nI 1) hx hb dX4_tell_66 (by decide) ?_
        refine lv_iload_n hx hb dX4_tell_67 rfl (lv_at hl 3 rfl) ?_
        have hi_3 : 1 < 2 := by omega
        refine va_iast (D := G.1) hx hb hK.1 hP hD hS 10 0 rfl rfl (vp_in_nI hi_3 (by omega)) dX4_tell_68 (fun H locs hP hD hS => ?_)
        rw [nR_upd (f := (w2 co 0)) (k := 1) (v := k) (by omega)] at hP hD
        rw [w2_1] at hP hD
        have hP : va_P G.1 vwCl ([kO o 4 [.ref rg, .ref pg, .ref rr, .ref sp, .ref ot, .ref wo, .int (nI ho), .int (nI un)], kGd G rg 12 (oA 12 ra), kGd G pg 12 (oA 12 pa), kH G rr 2 (oR e0 e1), kGd G e0 (vT w0) (oA (vT w0) qa), kGd G e1 (vT w1) (oA (vT w1) qb), kC G sp 2 (nR (w2 (vS w0) (vS w1))), kC G ot 2 (nR (w2 (vO w0) (vO w1))), kC G wo 8 (nR bf), kGd G g_9 (vT w0 + 1) (oA (vT w0) qa), kC G g_59 2 (nR (w2 co k))] ++ sT G ra pa qa qb (rugF w0 w1) (planF w0 w1) (vT w0) (runF w0) (vT w1) (runF w1)) H := hP
        have hD : va_D A ([kO o 4 [.ref rg, .ref pg, .ref rr, .ref sp, .ref ot, .ref wo, .int (nI ho), .int (nI un)], kGd G rg 12 (oA 12 ra), kGd G pg 12 (oA 12 pa), kH G rr 2 (oR e0 e1), kGd G e0 (vT w0) (oA (vT w0) qa), kGd G e1 (vT w1) (oA (vT w1) qb), kC G sp 2 (nR (w2 (vS w0) (vS w1))), kC G ot 2 (nR (w2 (vO w0) (vO w1))), kC G wo 8 (nR bf), kGd G g_9 (vT w0 + 1) (oA (vT w0) qa), kC G g_59 2 (nR (w2 co k))] ++ sT G ra pa qa qb (rugF w0 w1) (planF w0 w1) (vT w0) (runF w0) (vT w1) (runF w1)) := hD
        have hi_4 : (vT w0) < (vT w0 + 1) := by omega
        refine k_astg hx hb hK hP hD hS 9 10 (vT w0) rfl rfl (vp_in_nI hi_4 (by omega)) (nI_clamp (by omega)) dX4_tell_69 (fun H locs hP hD hS => ?_)
        rw [oA_up] at hP hD
        have hP : va_P G.1 vwCl ([kO o 4 [.ref rg, .ref pg, .ref rr, .ref sp, .ref ot, .ref wo, .int (nI ho), .int (nI un)], kGd G rg 12 (oA 12 ra), kGd G pg 12 (oA 12 pa), kH G rr 2 (oR e0 e1), kGd G e0 (vT w0) (oA (vT w0) qa), kGd G e1 (vT w1) (oA (vT w1) qb), kC G sp 2 (nR (w2 (vS w0) (vS w1))), kC G ot 2 (nR (w2 (vO w0) (vO w1))), kC G wo 8 (nR bf), kGd G g_9 (vT w0 + 1) (oA (vT w0 + 1) (va_up qa (vT w0) g_59)), kC G g_59 2 (nR (w2 co k))] ++ sT G ra pa qa qb (rugF w0 w1) (planF w0 w1) (vT w0) (runF w0) (vT w1) (runF w1)) H := hP
        have hD : va_D A ([kO o 4 [.ref rg, .ref pg, .ref rr, .ref sp, .ref ot, .ref wo, .int (nI ho), .int (nI un)], kGd G rg 12 (oA 12 ra), kGd G pg 12 (oA 12 pa), kH G rr 2 (oR e0 e1), kGd G e0 (vT w0) (oA (vT w0) qa), kGd G e1 (vT w1) (oA (vT w1) qb), kC G sp 2 (nR (w2 (vS w0) (vS w1))), kC G ot 2 (nR (w2 (vO w0) (vO w1))), kC G wo 8 (nR bf), kGd G g_9 (vT w0 + 1) (oA (vT w0 + 1) (va_up qa (vT w0) g_59)), kC G g_59 2 (nR (w2 co k))] ++ sT G ra pa qa qb (rugF w0 w1) (planF w0 w1) (vT w0) (runF w0) (vT w1) (runF w1)) := hD
        refine lv_aload_n hx hb dX4_tell_70 rfl (lv_at hl 0 rfl) ?_
        refine va_get (D := G.1) (ci := 4) (v := .ref rr) (C := RX4) (T := TX4) (N := 8) hx hb hts hq_0 hown hK.1 hP 0 rfl rfl 2 (by decide) hq_1 (fun _ h9 => h9) rfl dX4_tell_71 ?_
        refine lv_iload_n hx hb dX4_tell_74 rfl (lv_at hl 1 rfl) ?_
        refine lv_aload hx hb dX4_tell_75 (lv_at hl 4 rfl) ?_
        refine k_ast3 hx hb hK hP hD hS 3 9 0 rfl rfl (vp_in_nI (n := 0) (by decide) (by decide)) (by decide) dX4_tell_77 (fun H locs hP hD hS => ?_)
        rw [oR_0] at hP hD
        have hP : va_P G.1 vwCl ([kO o 4 [.ref rg, .ref pg, .ref rr, .ref sp, .ref ot, .ref wo, .int (nI ho), .int (nI un)], kGd G rg 12 (oA 12 ra), kGd G pg 12 (oA 12 pa), kH G rr 2 (oR g_9 e1), kGd G e0 (vT w0) (oA (vT w0) qa), kGd G e1 (vT w1) (oA (vT w1) qb), kC G sp 2 (nR (w2 (vS w0) (vS w1))), kC G ot 2 (nR (w2 (vO w0) (vO w1))), kC G wo 8 (nR bf), kGd G g_9 (vT w0 + 1) (oA (vT w0 + 1) (va_up qa (vT w0) g_59)), kC G g_59 2 (nR (w2 co k))] ++ sT G ra pa qa qb (rugF w0 w1) (planF w0 w1) (vT w0) (runF w0) (vT w1) (runF w1)) H := hP
        have hD : va_D A ([kO o 4 [.ref rg, .ref pg, .ref rr, .ref sp, .ref ot, .ref wo, .int (nI ho), .int (nI un)], kGd G rg 12 (oA 12 ra), kGd G pg 12 (oA 12 pa), kH G rr 2 (oR g_9 e1), kGd G e0 (vT w0) (oA (vT w0) qa), kGd G e1 (vT w1) (oA (vT w1) qb), kC G sp 2 (nR (w2 (vS w0) (vS w1))), kC G ot 2 (nR (w2 (vO w0) (vO w1))), kC G wo 8 (nR bf), kGd G g_9 (vT w0 + 1) (oA (vT w0 + 1) (va_up qa (vT w0) g_59)), kC G g_59 2 (nR (w2 co k))] ++ sT G ra pa qa qb (rugF w0 w1) (planF w0 w1) (vT w0) (runF w0) (vT w1) (runF w1)) := hD
        have hP : va_P G.1 vwCl ([kO o 4 [.ref rg, .ref pg, .ref rr, .ref sp, .ref ot, .ref wo, .int (nI ho), .int (nI un)], kGd G rg 12 (oA 12 ra), kGd G pg 12 (oA 12 pa), kH G rr 2 (oR g_9 e1), kGd G g_9 (vT w0 + 1) (oA (vT w0 + 1) (va_up qa (vT w0) g_59)), kGd G e1 (vT w1) (oA (vT w1) qb), kC G sp 2 (nR (w2 (vS w0) (vS w1))), kC G ot 2 (nR (w2 (vO w0) (vO w1))), kC G wo 8 (nR bf), kC G g_59 2 (nR (w2 co k))] ++ sT G ra pa qa qb (rugF w0 w1) (planF w0 w1) (vT w0) (runF w0) (vT w1) (runF w1)) H := kP_x hP [0, 1, 2, 3, 9, 5, 6, 7, 8, 10] rfl
        have hD : va_D A ([kO o 4 [.ref rg, .ref pg, .ref rr, .ref sp, .ref ot, .ref wo, .int (nI ho), .int (nI un)], kGd G rg 12 (oA 12 ra), kGd G pg 12 (oA 12 pa), kH G rr 2 (oR g_9 e1), kGd G g_9 (vT w0 + 1) (oA (vT w0 + 1) (va_up qa (vT w0) g_59)), kGd G e1 (vT w1) (oA (vT w1) qb), kC G sp 2 (nR (w2 (vS w0) (vS w1))), kC G ot 2 (nR (w2 (vO w0) (vO w1))), kC G wo 8 (nR bf), kC G g_59 2 (nR (w2 co k))] ++ sT G ra pa qa qb (rugF w0 w1) (planF w0 w1) (vT w0) (runF w0) (vT w1) (runF w1)) := kD_x hD [0, 1, 2, 3, 9, 5, 6, 7, 8, 10] rfl rfl
        have hP : va_P G.1 vwCl (([kO o 4 [.ref rg, .ref pg, .ref rr, .ref sp, .ref ot, .ref wo, .int (nI ho), .int (nI un)], kGd G rg 12 (oA 12 ra), kGd G pg 12 (oA 12 pa), kH G rr 2 (oR g_9 e1), kGd G g_9 (vT w0 + 1) (oA (vT w0 + 1) (va_up qa (vT w0) g_59)), kGd G e1 (vT w1) (oA (vT w1) qb), kC G sp 2 (nR (w2 (vS w0) (vS w1))), kC G ot 2 (nR (w2 (vO w0) (vO w1))), kC G wo 8 (nR bf)] ++ [kC G g_59 2 (nR (w2 co k))]) ++ sT G ra pa qa qb (rugF w0 w1) (planF w0 w1) (vT w0) (runF w0) (vT w1) (runF w1)) H := hP
        have hD : va_D A (([kO o 4 [.ref rg, .ref pg, .ref rr, .ref sp, .ref ot, .ref wo, .int (nI ho), .int (nI un)], kGd G rg 12 (oA 12 ra), kGd G pg 12 (oA 12 pa), kH G rr 2 (oR g_9 e1), kGd G g_9 (vT w0 + 1) (oA (vT w0 + 1) (va_up qa (vT w0) g_59)), kGd G e1 (vT w1) (oA (vT w1) qb), kC G sp 2 (nR (w2 (vS w0) (vS w1))), kC G ot 2 (nR (w2 (vO w0) (vO w1))), kC G wo 8 (nR bf)] ++ [kC G g_59 2 (nR (w2 co k))]) ++ sT G ra pa qa qb (rugF w0 w1) (planF w0 w1) (vT w0) (runF w0) (vT w1) (runF w1)) := hD
        have hP := kP_perm hP sT_pushA
        have hD := kD_perm hD sT_pushA
        rw [runF_tell, rug_tell0 (c := co) (k := k), plan_tell0 (c := co) (k := k)] at hP hD
        exact k_vret (ws := ([kO o 4 [.ref rg, .ref pg, .ref rr, .ref sp, .ref ot, .ref wo, .int (nI ho), .int (nI un)], kGd G rg 12 (oA 12 ra), kGd G pg 12 (oA 12 pa), kH G rr 2 (oR e0 e1), kGd G e0 (vT w0) (oA (vT w0) qa), kGd G e1 (vT w1) (oA (vT w1) qb), kC G sp 2 (nR (w2 (vS w0) (vS w1))), kC G ot 2 (nR (w2 (vO w0) (vO w1))), kC G wo 8 (nR bf)] ++ sT G ra pa qa qb (rugF w0 w1) (planF w0 w1) (vT w0) (runF w0) (vT w1) (runF w1))) ((g_9, va_up qa (vT w0) g_59)) hx hb hr hlocks hP hD hS hAe hQ (Nat.le_of_ble_eq_true rfl) (Nat.le_of_ble_eq_true rfl) dX4_tell_78 (rfl) (by trivial)
      · have c_26 : ¬ ((vT w0) ≤ i) := fun h9 => c_26 ((nI_leI (a := (vT w0)) (b := i) (by omega) (by omega)).mpr h9)
        refine lv_aload hx hb dX4_tell_29 (lv_at hl 4 rfl) ?_
        refine lv_iload hx hb dX4_tell_31 (lv_at hl 5 rfl) ?_
        refine lv_aload_n hx hb dX4_tell_33 rfl (lv_at hl 0 rfl) ?_
        refine va_get (D := G.1) (ci := 4) (v := .ref rr) (C := RX4) (T := TX4) (N := 8) hx hb hts hq_0 hown hK.1 hP 0 rfl rfl 2 (by decide) hq_1 (fun _ h9 => h9) rfl dX4_tell_34 ?_
        refine lv_iload_n hx hb dX4_tell_37 rfl (lv_at hl 1 rfl) ?_
        refine k_ald3 hx hb hK hP 3 0 rfl (vp_in_nI (n := 0) (by decide) (by decide)) (by decide) rfl dX4_tell_38 ?_
        refine lv_iload hx hb dX4_tell_39 (lv_at hl 5 rfl) ?_
        have hi_5 : i < (vT w0) := by omega
        refine k_aldg hx hb hK hP 4 i rfl (vp_in_nI hi_5 (by omega)) (nI_clamp (Nat.lt_of_lt_of_le hi_5 (by omega))) (oA_at hi_5) dX4_tell_41 ?_
        have hi_6 : i < (vT w0 + 1) := by omega
        refine k_astg hx hb hK hP hD hS 9 _ i rfl (sT_a (i := i) (by omega)) (vp_in_nI hi_6 (by omega)) (nI_clamp (by omega)) dX4_tell_42 (fun H locs hP hD hS => ?_)
        rw [oA_up1] at hP hD
        have hP : va_P G.1 vwCl ([kO o 4 [.ref rg, .ref pg, .ref rr, .ref sp, .ref ot, .ref wo, .int (nI ho), .int (nI un)], kGd G rg 12 (oA 12 ra), kGd G pg 12 (oA 12 pa), kH G rr 2 (oR e0 e1), kGd G e0 (vT w0) (oA (vT w0) qa), kGd G e1 (vT w1) (oA (vT w1) qb), kC G sp 2 (nR (w2 (vS w0) (vS w1))), kC G ot 2 (nR (w2 (vO w0) (vO w1))), kC G wo 8 (nR bf), kGd G g_9 (vT w0 + 1) (oA (i + 1) qa)] ++ sT G ra pa qa qb (rugF w0 w1) (planF w0 w1) (vT w0) (runF w0) (vT w1) (runF w1)) H := hP
        have hD : va_D A ([kO o 4 [.ref rg, .ref pg, .ref rr, .ref sp, .ref ot, .ref wo, .int (nI ho), .int (nI un)], kGd G rg 12 (oA 12 ra), kGd G pg 12 (oA 12 pa), kH G rr 2 (oR e0 e1), kGd G e0 (vT w0) (oA (vT w0) qa), kGd G e1 (vT w1) (oA (vT w1) qb), kC G sp 2 (nR (w2 (vS w0) (vS w1))), kC G ot 2 (nR (w2 (vO w0) (vO w1))), kC G wo 8 (nR bf), kGd G g_9 (vT w0 + 1) (oA (i + 1) qa)] ++ sT G ra pa qa qb (rugF w0 w1) (planF w0 w1) (vT w0) (runF w0) (vT w1) (runF w1)) := hD
        refine lv_iinc (v := nI (i + 1)) (lv' := [(5, .int (nI (i + 1))), (0, .ref o), (1, .int (nI 0)), (2, .int (nI co)), (3, .int (nI k)), (4, .ref g_9)]) hx hb dX4_tell_43 hl (k := 5) rfl (nI_add i 1) (by decide) rfl (fun ls hl => ?_)
        refine lv_goto (tgt := 17) hx hb dX4_tell_46 (by decide) ?_
        exact ih_17 (i + 1) (by omega) (by omega) _ _ _ hP hD hS (lv_sub hl [1, 2, 3, 4, 5, 0] rfl)
  exact loop_17 (vT w0 + 1) 0 (by omega) (by omega) H locs ls hP hD hS (lv_sub hl [2, 3, 4, 5, 1, 0] rfl)
set_option maxHeartbeats 4000000 in
set_option maxRecDepth 100000 in
theorem s_tell1 (l : Launch) (G : kG) (o : Nat) (rg : Nat) (pg : Nat) (rr : Nat) (e0 : Nat) (e1 : Nat) (sp : Nat) (ot : Nat) (wo : Nat) (ra : Nat → Nat) (pa : Nat → Nat) (qa : Nat → Nat) (qb : Nat → Nat) (w0 : Wv) (w1 : Wv) (bf : Nat → Nat) (ho : Nat) (un : Nat) (co : Nat) (k : Nat) (h0 : wOk w0) (h1 : wOk w1) (hB : bOk bf) : kM l G yX4_tell wsX4_tell ({ frames := 0, cells := 2, slots := 23, locals := 0 } : Room) [.ref o, .int (nI 1), .int (nI co), .int (nI k)] ([kO o 4 [.ref rg, .ref pg, .ref rr, .ref sp, .ref ot, .ref wo, .int (nI ho), .int (nI un)], kGd G rg 12 (oA 12 ra), kGd G pg 12 (oA 12 pa), kH G rr 2 (oR e0 e1), kGd G e0 (vT w0) (oA (vT w0) qa), kGd G e1 (vT w1) (oA (vT w1) qb), kC G sp 2 (nR (w2 (vS w0) (vS w1))), kC G ot 2 (nR (w2 (vO w0) (vO w1))), kC G wo 8 (nR bf)] ++ sT G ra pa qa qb (rugF w0 w1) (planF w0 w1) (vT w0) (runF w0) (vT w1) (runF w1)) (kQv G ([kO o 4 [.ref rg, .ref pg, .ref rr, .ref sp, .ref ot, .ref wo, .int (nI ho), .int (nI un)], kGd G rg 12 (oA 12 ra), kGd G pg 12 (oA 12 pa), kH G rr 2 (oR e0 e1), kGd G e0 (vT w0) (oA (vT w0) qa), kGd G e1 (vT w1) (oA (vT w1) qb), kC G sp 2 (nR (w2 (vS w0) (vS w1))), kC G ot 2 (nR (w2 (vO w0) (vO w1))), kC G wo 8 (nR bf)] ++ sT G ra pa qa qb (rugF w0 w1) (planF w0 w1) (vT w0) (runF w0) (vT w1) (runF w1)) (fun (_ : Nat × (Nat → Nat)) => True) (fun (u : Nat × (Nat → Nat)) => ([kO o 4 [.ref rg, .ref pg, .ref rr, .ref sp, .ref ot, .ref wo, .int (nI ho), .int (nI un)], kGd G rg 12 (oA 12 ra), kGd G pg 12 (oA 12 pa), kH G rr 2 (oR e0 u.1), kGd G e0 (vT w0) (oA (vT w0) qa), kGd G u.1 (vT (wTell w1 co k)) (oA (vT (wTell w1 co k)) u.2), kC G sp 2 (nR (w2 (vS w0) (vS (wTell w1 co k)))), kC G ot 2 (nR (w2 (vO w0) (vO (wTell w1 co k)))), kC G wo 8 (nR bf)] ++ sT G ra pa qa u.2 (rugF w0 (wTell w1 co k)) (planF w0 (wTell w1 co k)) (vT w0) (runF w0) (vT (wTell w1 co k)) (runF (wTell w1 co k))))) := by
  refine k_ofW (cc := cX4_tell) (maxL := 6) (rt := none) (by decide) rfl (Nat.le_of_ble_eq_true rfl) ?_
  intro p e s m args below meth c A ls Qs H locs hQ hAe hx hb hr hml hts hown hlocks hin hK hZ hP hD hS hA hl
  have hown : s.vm.findClass RX4 = some m.cls := hown
  have hl : lv_has ls 6 [(0, .ref o), (1, .int (nI 1)), (2, .int (nI co)), (3, .int (nI k))] := hl
  have m0b : vM w0 ≤ 60 := h0.2.2.2.1
  have m1b : vM w1 ≤ 60 := h1.2.2.2.1
  have t0b : vT w0 ≤ 20 := h0.2.2.1
  have t1b : vT w1 ≤ 20 := h1.2.2.1
  have pb0 : ∀ i, i < 60 → vP w0 i < 8 := h0.2.2.2.2.1
  have pb1 : ∀ i, i < 60 → vP w1 i < 8 := h1.2.2.2.2.1
  have kb0 : ∀ i, i < 60 → vK w0 i < 8 := h0.2.2.2.2.2.1
  have kb1 : ∀ i, i < 60 → vK w1 i < 8 := h1.2.2.2.2.2.1
  have cb0 : ∀ i, i < vT w0 → vC w0 i < 8 := h0.2.2.2.2.2.2.1
  have cb1 : ∀ i, i < vT w1 → vC w1 i < 8 := h1.2.2.2.2.2.2.1
  have nb0 : ∀ i, i < vT w0 → 1 ≤ vN w0 i ∧ vN w0 i ≤ 60 := h0.2.2.2.2.2.2.2
  have nb1 : ∀ i, i < vT w1 → 1 ≤ vN w1 i ∧ vN w1 i ≤ 60 := h1.2.2.2.2.2.2.2
  have sb0 : vS w0 ≤ 6 := h0.2.1
  have sb1 : vS w1 ≤ 6 := h1.2.1
  have hq_0 : ∀ w ∈ wsX40, w ∈ wsX4_tell := by decide +kernel
  have hq_1 : (Cond.fieldLink RX4 19 "KnotRugsLaw$Sim" "runs" "[[[I").before args s = true := hts _ (by decide +kernel)
  have hq_2 : (Cond.classLink RX4 33 "[I").before args s = true := hts _ (by decide +kernel)
  have hq_3 : (Cond.arrayClass .int).before args s = true := hts _ (by decide +kernel)
  refine lv_aload_n hx hb dX4_tell_0 rfl (lv_at hl 0 rfl) ?_
  refine va_get (D := G.1) (ci := 4) (v := .ref rr) (C := RX4) (T := TX4) (N := 8) hx hb hts hq_0 hown hK.1 hP 0 rfl rfl 2 (by decide) hq_1 (fun _ h9 => h9) rfl dX4_tell_1 ?_
  refine lv_iload_n hx hb dX4_tell_4 rfl (lv_at hl 1 rfl) ?_
  refine k_ald3 hx hb hK hP 3 1 rfl (vp_in_nI (n := 1) (by decide) (by decide)) (by decide) rfl dX4_tell_5 ?_
  refine va_alen (D := G.1) (v := nI (vT w1)) hx hb hK.1 hP 5 2 rfl rfl rfl dX4_tell_6 ?_
  refine lv_iconst (v := nI 1) hx hb dX4_tell_7 (by decide) ?_
  refine lv_iadd hx hb dX4_tell_8 ?_
  refine lv_topi (fun y_1 hy_1 => ?_)
  obtain rfl : y_1 = nI ((vT w1) + 1) := hy_1.trans (nI_add (vT w1) 1)
  refine k_newg hx hb hown hq_2 hK hP hD hS hA (N' := ((vT w1) + 1)) (nI_pos (by omega)) (nI_clamp (by omega)) (by omega) (Nat.le_of_ble_eq_true rfl) (by show 0 + ((vT w1) + 1) ≤ _; exact Nat.le_trans (by omega) (show 21 ≤ _ from Nat.le_of_ble_eq_true rfl)) dX4_tell_9 (fun g_9 H hP hD hS => ?_)
  refine W.widen (k := 1) (n := 21) (by show 1 ≤ 1; omega) (by show 0 + ((vT w1) + 1) ≤ 21; omega) ?_
  rw [oA_0 (a := qb)] at hP hD
  have hP := va_P.swap (a := [kO o 4 [.ref rg, .ref pg, .ref rr, .ref sp, .ref ot, .ref wo, .int (nI ho), .int (nI un)], kGd G rg 12 (oA 12 ra), kGd G pg 12 (oA 12 pa), kH G rr 2 (oR e0 e1), kGd G e0 (vT w0) (oA (vT w0) qa), kGd G e1 (vT w1) (oA (vT w1) qb), kC G sp 2 (nR (w2 (vS w0) (vS w1))), kC G ot 2 (nR (w2 (vO w0) (vO w1))), kC G wo 8 (nR bf)]) (b := sT G ra pa qa qb (rugF w0 w1) (planF w0 w1) (vT w0) (runF w0) (vT w1) (runF w1)) (c := [kGd G g_9 ((vT w1) + 1) (oA 0 qb)]) hP
  have hD := va_D.swap (a := [kO o 4 [.ref rg, .ref pg, .ref rr, .ref sp, .ref ot, .ref wo, .int (nI ho), .int (nI un)], kGd G rg 12 (oA 12 ra), kGd G pg 12 (oA 12 pa), kH G rr 2 (oR e0 e1), kGd G e0 (vT w0) (oA (vT w0) qa), kGd G e1 (vT w1) (oA (vT w1) qb), kC G sp 2 (nR (w2 (vS w0) (vS w1))), kC G ot 2 (nR (w2 (vO w0) (vO w1))), kC G wo 8 (nR bf)]) (b := sT G ra pa qa qb (rugF w0 w1) (planF w0 w1) (vT w0) (runF w0) (vT w1) (runF w1)) (c := [kGd G g_9 ((vT w1) + 1) (oA 0 qb)]) hD
  have hP : va_P G.1 vwCl ([kO o 4 [.ref rg, .ref pg, .ref rr, .ref sp, .ref ot, .ref wo, .int (nI ho), .int (nI un)], kGd G rg 12 (oA 12 ra), kGd G pg 12 (oA 12 pa), kH G rr 2 (oR e0 e1), kGd G e0 (vT w0) (oA (vT w0) qa), kGd G e1 (vT w1) (oA (vT w1) qb), kC G sp 2 (nR (w2 (vS w0) (vS w1))), kC G ot 2 (nR (w2 (vO w0) (vO w1))), kC G wo 8 (nR bf), kGd G g_9 ((vT w1) + 1) (oA 0 qb)] ++ sT G ra pa qa qb (rugF w0 w1) (planF w0 w1) (vT w0) (runF w0) (vT w1) (runF w1)) H := hP
  have hD : va_D A ([kO o 4 [.ref rg, .ref pg, .ref rr, .ref sp, .ref ot, .ref wo, .int (nI ho), .int (nI un)], kGd G rg 12 (oA 12 ra), kGd G pg 12 (oA 12 pa), kH G rr 2 (oR e0 e1), kGd G e0 (vT w0) (oA (vT w0) qa), kGd G e1 (vT w1) (oA (vT w1) qb), kC G sp 2 (nR (w2 (vS w0) (vS w1))), kC G ot 2 (nR (w2 (vO w0) (vO w1))), kC G wo 8 (nR bf), kGd G g_9 ((vT w1) + 1) (oA 0 qb)] ++ sT G ra pa qa qb (rugF w0 w1) (planF w0 w1) (vT w0) (runF w0) (vT w1) (runF w1)) := hD
  refine lv_astore (lv' := [(4, .ref g_9), (0, .ref o), (1, .int (nI 1)), (2, .int (nI co)), (3, .int (nI k))]) hx hb dX4_tell_12 hl (by decide) rfl (fun ls hl => ?_)
  refine lv_iconst (v := nI 0) hx hb dX4_tell_14 (by decide) ?_
  refine lv_istore (lv' := [(5, .int (nI 0)), (4, .ref g_9), (0, .ref o), (1, .int (nI 1)), (2, .int (nI co)), (3, .int (nI k))]) hx hb dX4_tell_15 hl (by decide) rfl (fun ls hl => ?_)
  have loop_17 : ∀ (fu_17 : Nat) (i : Nat), i ≤ vT w1 → vT w1 < i + fu_17 → ∀ (H : Heap) (locs : List Loc) (ls : Array Slot), va_P G.1 vwCl ([kO o 4 [.ref rg, .ref pg, .ref rr, .ref sp, .ref ot, .ref wo, .int (nI ho), .int (nI un)], kGd G rg 12 (oA 12 ra), kGd G pg 12 (oA 12 pa), kH G rr 2 (oR e0 e1), kGd G e0 (vT w0) (oA (vT w0) qa), kGd G e1 (vT w1) (oA (vT w1) qb), kC G sp 2 (nR (w2 (vS w0) (vS w1))), kC G ot 2 (nR (w2 (vO w0) (vO w1))), kC G wo 8 (nR bf), kGd G g_9 (vT w1 + 1) (oA i qb)] ++ sT G ra pa qa qb (rugF w0 w1) (planF w0 w1) (vT w0) (runF w0) (vT w1) (runF w1)) H → va_D A ([kO o 4 [.ref rg, .ref pg, .ref rr, .ref sp, .ref ot, .ref wo, .int (nI ho), .int (nI un)], kGd G rg 12 (oA 12 ra), kGd G pg 12 (oA 12 pa), kH G rr 2 (oR e0 e1), kGd G e0 (vT w0) (oA (vT w0) qa), kGd G e1 (vT w1) (oA (vT w1) qb), kC G sp 2 (nR (w2 (vS w0) (vS w1))), kC G ot 2 (nR (w2 (vO w0) (vO w1))), kC G wo 8 (nR bf), kGd G g_9 (vT w1 + 1) (oA i qb)] ++ sT G ra pa qa qb (rugF w0 w1) (planF w0 w1) (vT w0) (runF w0) (vT w1) (runF w1)) → va_S A s.heap H locs → lv_has ls 6 [(0, .ref o), (1, .int (nI 1)), (2, .int (nI co)), (3, .int (nI k)), (4, .ref g_9), (5, .int (nI i))] → W p l e ({ frames := 0, cells := 2, slots := 23, locals := 0 } : Room) s m args below meth c H locs 1 21 Qs (F0 m 17 ls []) := by
    intro fu_17
    induction fu_17 with
    | zero =>
      intro i hi hf
      exact absurd hf (by omega)
    | succ fu_17 ih_17 =>
      intro i hi hf H locs ls hP hD hS hl
      refine lv_iload hx hb dX4_tell_17 (lv_at hl 5 rfl) ?_
      refine lv_aload_n hx hb dX4_tell_19 rfl (lv_at hl 0 rfl) ?_
      refine va_get (D := G.1) (ci := 4) (v := .ref rr) (C := RX4) (T := TX4) (N := 8) hx hb hts hq_0 hown hK.1 hP 0 rfl rfl 2 (by decide) hq_1 (fun _ h9 => h9) rfl dX4_tell_20 ?_
      refine lv_iload_n hx hb dX4_tell_23 rfl (lv_at hl 1 rfl) ?_
      refine k_ald3 hx hb hK hP 3 1 rfl (vp_in_nI (n := 1) (by decide) (by decide)) (by decide) rfl dX4_tell_24 ?_
      refine va_alen (D := G.1) (v := nI (vT w1)) hx hb hK.1 hP 5 2 rfl rfl rfl dX4_tell_25 ?_
      refine lv_icmp_ge (tgt := 49) hx hb dX4_tell_26 (by decide) (fun c_26 => ?_) (fun c_26 => ?_)
      · have c_26 : (vT w1) ≤ i := (nI_leI (a := (vT w1)) (b := i) (by omega) (by omega)).mp c_26
        have hi9 : i = vT w1 := by omega
        subst hi9
        have hP : va_P G.1 vwCl ([kO o 4 [.ref rg, .ref pg, .ref rr, .ref sp, .ref ot, .ref wo, .int (nI ho), .int (nI un)], kGd G rg 12 (oA 12 ra), kGd G pg 12 (oA 12 pa), kH G rr 2 (oR e0 e1), kGd G e0 (vT w0) (oA (vT w0) qa), kGd G e1 (vT w1) (oA (vT w1) qb), kC G sp 2 (nR (w2 (vS w0) (vS w1))), kC G ot 2 (nR (w2 (vO w0) (vO w1))), kC G wo 8 (nR bf), kGd G g_9 (vT w1 + 1) (oA (vT w1) qb)] ++ sT G ra pa qa qb (rugF w0 w1) (planF w0 w1) (vT w0) (runF w0) (vT w1) (runF w1)) H := hP
        have hD : va_D A ([kO o 4 [.ref rg, .ref pg, .ref rr, .ref sp, .ref ot, .ref wo, .int (nI ho), .int (nI un)], kGd G rg 12 (oA 12 ra), kGd G pg 12 (oA 12 pa), kH G rr 2 (oR e0 e1), kGd G e0 (vT w0) (oA (vT w0) qa), kGd G e1 (vT w1) (oA (vT w1) qb), kC G sp 2 (nR (w2 (vS w0) (vS w1))), kC G ot 2 (nR (w2 (vO w0) (vO w1))), kC G wo 8 (nR bf), kGd G g_9 (vT w1 + 1) (oA (vT w1) qb)] ++ sT G ra pa qa qb (rugF w0 w1) (planF w0 w1) (vT w0) (runF w0) (vT w1) (runF w1)) := hD
        refine lv_aload hx hb dX4_tell_49 (lv_at hl 4 rfl) ?_
        refine lv_aload_n hx hb dX4_tell_51 rfl (lv_at hl 0 rfl) ?_
        refine va_get (D := G.1) (ci := 4) (v := .ref rr) (C := RX4) (T := TX4) (N := 8) hx hb hts hq_0 hown hK.1 hP 0 rfl rfl 2 (by decide) hq_1 (fun _ h9 => h9) rfl dX4_tell_52 ?_
        refine lv_iload_n hx hb dX4_tell_55 rfl (lv_at hl 1 rfl) ?_
        refine k_ald3 hx hb hK hP 3 1 rfl (vp_in_nI (n := 1) (by decide) (by decide)) (by decide) rfl dX4_tell_56 ?_
        refine va_alen (D := G.1) (v := nI (vT w1)) hx hb hK.1 hP 5 2 rfl rfl rfl dX4_tell_57 ?_
        refine lv_iconst (v := nI 2) hx hb dX4_tell_58 (by decide) ?_
        refine k_newi hx hb hq_3 hK hP hD hS hA (N' := 2) (by decide) (by decide) (by decide) (Nat.le_of_ble_eq_true rfl) (Nat.le_of_ble_eq_true rfl) dX4_tell_59 (fun g_59 H hP hD hS => ?_)
        rw [w2_z] at hP hD
        have hP := va_P.swap (a := [kO o 4 [.ref rg, .ref pg, .ref rr, .ref sp, .ref ot, .ref wo, .int (nI ho), .int (nI un)], kGd G rg 12 (oA 12 ra), kGd G pg 12 (oA 12 pa), kH G rr 2 (oR e0 e1), kGd G e0 (vT w0) (oA (vT w0) qa), kGd G e1 (vT w1) (oA (vT w1) qb), kC G sp 2 (nR (w2 (vS w0) (vS w1))), kC G ot 2 (nR (w2 (vO w0) (vO w1))), kC G wo 8 (nR bf), kGd G g_9 (vT w1 + 1) (oA (vT w1) qb)]) (b := sT G ra pa qa qb (rugF w0 w1) (planF w0 w1) (vT w0) (runF w0) (vT w1) (runF w1)) (c := [kC G g_59 2 (nR (w2 0 0))]) hP
        have hD := va_D.swap (a := [kO o 4 [.ref rg, .ref pg, .ref rr, .ref sp, .ref ot, .ref wo, .int (nI ho), .int (nI un)], kGd G rg 12 (oA 12 ra), kGd G pg 12 (oA 12 pa), kH G rr 2 (oR e0 e1), kGd G e0 (vT w0) (oA (vT w0) qa), kGd G e1 (vT w1) (oA (vT w1) qb), kC G sp 2 (nR (w2 (vS w0) (vS w1))), kC G ot 2 (nR (w2 (vO w0) (vO w1))), kC G wo 8 (nR bf), kGd G g_9 (vT w1 + 1) (oA (vT w1) qb)]) (b := sT G ra pa qa qb (rugF w0 w1) (planF w0 w1) (vT w0) (runF w0) (vT w1) (runF w1)) (c := [kC G g_59 2 (nR (w2 0 0))]) hD
        have hP : va_P G.1 vwCl ([kO o 4 [.ref rg, .ref pg, .ref rr, .ref sp, .ref ot, .ref wo, .int (nI ho), .int (nI un)], kGd G rg 12 (oA 12 ra), kGd G pg 12 (oA 12 pa), kH G rr 2 (oR e0 e1), kGd G e0 (vT w0) (oA (vT w0) qa), kGd G e1 (vT w1) (oA (vT w1) qb), kC G sp 2 (nR (w2 (vS w0) (vS w1))), kC G ot 2 (nR (w2 (vO w0) (vO w1))), kC G wo 8 (nR bf), kGd G g_9 (vT w1 + 1) (oA (vT w1) qb), kC G g_59 2 (nR (w2 0 0))] ++ sT G ra pa qa qb (rugF w0 w1) (planF w0 w1) (vT w0) (runF w0) (vT w1) (runF w1)) H := hP
        have hD : va_D A ([kO o 4 [.ref rg, .ref pg, .ref rr, .ref sp, .ref ot, .ref wo, .int (nI ho), .int (nI un)], kGd G rg 12 (oA 12 ra), kGd G pg 12 (oA 12 pa), kH G rr 2 (oR e0 e1), kGd G e0 (vT w0) (oA (vT w0) qa), kGd G e1 (vT w1) (oA (vT w1) qb), kC G sp 2 (nR (w2 (vS w0) (vS w1))), kC G ot 2 (nR (w2 (vO w0) (vO w1))), kC G wo 8 (nR bf), kGd G g_9 (vT w1 + 1) (oA (vT w1) qb), kC G g_59 2 (nR (w2 0 0))] ++ sT G ra pa qa qb (rugF w0 w1) (planF w0 w1) (vT w0) (runF w0) (vT w1) (runF w1)) := hD
        refine lv_dup hx hb dX4_tell_61 rfl ?_
        refine lv_iconst (v := nI 0) hx hb dX4_tell_62 (by decide) ?_
        refine lv_iload_n hx hb dX4_tell_63 rfl (lv_at hl 2 rfl) ?_
        have hi_2 : 0 < 2 := by omega
        refine va_iast (D := G.1) hx hb hK.1 hP hD hS 10 0 rfl rfl (vp_in_nI hi_2 (by omega)) dX4_tell_64 (fun H locs hP hD hS => ?_)
        rw [nR_upd (f := (w2 0 0)) (k := 0) (v := co) (by omega)] at hP hD
        rw [w2_0] at hP hD
        have hP : va_P G.1 vwCl ([kO o 4 [.ref rg, .ref pg, .ref rr, .ref sp, .ref ot, .ref wo, .int (nI ho), .int (nI un)], kGd G rg 12 (oA 12 ra), kGd G pg 12 (oA 12 pa), kH G rr 2 (oR e0 e1), kGd G e0 (vT w0) (oA (vT w0) qa), kGd G e1 (vT w1) (oA (vT w1) qb), kC G sp 2 (nR (w2 (vS w0) (vS w1))), kC G ot 2 (nR (w2 (vO w0) (vO w1))), kC G wo 8 (nR bf), kGd G g_9 (vT w1 + 1) (oA (vT w1) qb), kC G g_59 2 (nR (w2 co 0))] ++ sT G ra pa qa qb (rugF w0 w1) (planF w0 w1) (vT w0) (runF w0) (vT w1) (runF w1)) H := hP
        have hD : va_D A ([kO o 4 [.ref rg, .ref pg, .ref rr, .ref sp, .ref ot, .ref wo, .int (nI ho), .int (nI un)], kGd G rg 12 (oA 12 ra), kGd G pg 12 (oA 12 pa), kH G rr 2 (oR e0 e1), kGd G e0 (vT w0) (oA (vT w0) qa), kGd G e1 (vT w1) (oA (vT w1) qb), kC G sp 2 (nR (w2 (vS w0) (vS w1))), kC G ot 2 (nR (w2 (vO w0) (vO w1))), kC G wo 8 (nR bf), kGd G g_9 (vT w1 + 1) (oA (vT w1) qb), kC G g_59 2 (nR (w2 co 0))] ++ sT G ra pa qa qb (rugF w0 w1) (planF w0 w1) (vT w0) (runF w0) (vT w1) (runF w1)) := hD
        refine lv_dup hx hb dX4_tell_65 rfl ?_
        refine lv_iconst (v := nI 1) hx hb dX4_tell_66 (by decide) ?_
        refine lv_iload_n hx hb dX4_tell_67 rfl (lv_at hl 3 rfl) ?_
        have hi_3 : 1 < 2 := by omega
        refine va_iast (D := G.1) hx hb hK.1 hP hD hS 10 0 rfl rfl (vp_in_nI hi_3 (by omega)) dX4_tell_68 (fun H locs hP hD hS => ?_)
        rw [nR_upd (f := (w2 co 0)) (k := 1) (v := k) (by omega)] at hP hD
        rw [w2_1] at hP hD
        have hP : va_P G.1 vwCl ([kO o 4 [.ref rg, .ref pg, .ref rr, .ref sp, .ref ot, .ref wo, .int (nI ho), .int (nI un)], kGd G rg 12 (oA 12 ra), kGd G pg 12 (oA 12 pa), kH G rr 2 (oR e0 e1), kGd G e0 (vT w0) (oA (vT w0) qa), kGd G e1 (vT w1) (oA (vT w1) qb), kC G sp 2 (nR (w2 (vS w0) (vS w1))), kC G ot 2 (nR (w2 (vO w0) (vO w1))), kC G wo 8 (nR bf), kGd G g_9 (vT w1 + 1) (oA (vT w1) qb), kC G g_59 2 (nR (w2 co k))] ++ sT G ra pa qa qb (rugF w0 w1) (planF w0 w1) (vT w0) (runF w0) (vT w1) (runF w1)) H := hP
        have hD : va_D A ([kO o 4 [.ref rg, .ref pg, .ref rr, .ref sp, .ref ot, .ref wo, .int (nI ho), .int (nI un)], kGd G rg 12 (oA 12 ra), kGd G pg 12 (oA 12 pa), kH G rr 2 (oR e0 e1), kGd G e0 (vT w0) (oA (vT w0) qa), kGd G e1 (vT w1) (oA (vT w1) qb), kC G sp 2 (nR (w2 (vS w0) (vS w1))), kC G ot 2 (nR (w2 (vO w0) (vO w1))), kC G wo 8 (nR bf), kGd G g_9 (vT w1 + 1) (oA (vT w1) qb), kC G g_59 2 (nR (w2 co k))] ++ sT G ra pa qa qb (rugF w0 w1) (planF w0 w1) (vT w0) (runF w0) (vT w1) (runF w1)) := hD
        have hi_4 : (vT w1) < (vT w1 + 1) := by omega
        refine k_astg hx hb hK hP hD hS 9 10 (vT w1) rfl rfl (vp_in_nI hi_4 (by omega)) (nI_clamp (by omega)) dX4_tell_69 (fun H locs hP hD hS => ?_)
        rw [oA_up] at hP hD
        have hP : va_P G.1 vwCl ([kO o 4 [.ref rg, .ref pg, .ref rr, .ref sp, .ref ot, .ref wo, .int (nI ho), .int (nI un)], kGd G rg 12 (oA 12 ra), kGd G pg 12 (oA 12 pa), kH G rr 2 (oR e0 e1), kGd G e0 (vT w0) (oA (vT w0) qa), kGd G e1 (vT w1) (oA (vT w1) qb), kC G sp 2 (nR (w2 (vS w0) (vS w1))), kC G ot 2 (nR (w2 (vO w0) (vO w1))), kC G wo 8 (nR bf), kGd G g_9 (vT w1 + 1) (oA (vT w1 + 1) (va_up qb (vT w1) g_59)), kC G g_59 2 (nR (w2 co k))] ++ sT G ra pa qa qb (rugF w0 w1) (planF w0 w1) (vT w0) (runF w0) (vT w1) (runF w1)) H := hP
        have hD : va_D A ([kO o 4 [.ref rg, .ref pg, .ref rr, .ref sp, .ref ot, .ref wo, .int (nI ho), .int (nI un)], kGd G rg 12 (oA 12 ra), kGd G pg 12 (oA 12 pa), kH G rr 2 (oR e0 e1), kGd G e0 (vT w0) (oA (vT w0) qa), kGd G e1 (vT w1) (oA (vT w1) qb), kC G sp 2 (nR (w2 (vS w0) (vS w1))), kC G ot 2 (nR (w2 (vO w0) (vO w1))), kC G wo 8 (nR bf), kGd G g_9 (vT w1 + 1) (oA (vT w1 + 1) (va_up qb (vT w1) g_59)), kC G g_59 2 (nR (w2 co k))] ++ sT G ra pa qa qb (rugF w0 w1) (planF w0 w1) (vT w0) (runF w0) (vT w1) (runF w1)) := hD
        refine lv_aload_n hx hb dX4_tell_70 rfl (lv_at hl 0 rfl) ?_
        refine va_get (D := G.1) (ci := 4) (v := .ref rr) (C := RX4) (T := TX4) (N := 8) hx hb hts hq_0 hown hK.1 hP 0 rfl rfl 2 (by decide) hq_1 (fun _ h9 => h9) rfl dX4_tell_71 ?_
        refine lv_iload_n hx hb dX4_tell_74 rfl (lv_at hl 1 rfl) ?_
        refine lv_aload hx hb dX4_tell_75 (lv_at hl 4 rfl) ?_
        refine k_ast3 hx hb hK hP hD hS 3 9 1 rfl rfl (vp_in_nI (n := 1) (by decide) (by decide)) (by decide) dX4_tell_77 (fun H locs hP hD hS => ?_)
        rw [oR_1] at hP hD
        have hP : va_P G.1 vwCl ([kO o 4 [.ref rg, .ref pg, .ref rr, .ref sp, .ref ot, .ref wo, .int (nI ho), .int (nI un)], kGd G rg 12 (oA 12 ra), kGd G pg 12 (oA 12 pa), kH G rr 2 (oR e0 g_9), kGd G e0 (vT w0) (oA (vT w0) qa), kGd G e1 (vT w1) (oA (vT w1) qb), kC G sp 2 (nR (w2 (vS w0) (vS w1))), kC G ot 2 (nR (w2 (vO w0) (vO w1))), kC G wo 8 (nR bf), kGd G g_9 (vT w1 + 1) (oA (vT w1 + 1) (va_up qb (vT w1) g_59)), kC G g_59 2 (nR (w2 co k))] ++ sT G ra pa qa qb (rugF w0 w1) (planF w0 w1) (vT w0) (runF w0) (vT w1) (runF w1)) H := hP
        have hD : va_D A ([kO o 4 [.ref rg, .ref pg, .ref rr, .ref sp, .ref ot, .ref wo, .int (nI ho), .int (nI un)], kGd G rg 12 (oA 12 ra), kGd G pg 12 (oA 12 pa), kH G rr 2 (oR e0 g_9), kGd G e0 (vT w0) (oA (vT w0) qa), kGd G e1 (vT w1) (oA (vT w1) qb), kC G sp 2 (nR (w2 (vS w0) (vS w1))), kC G ot 2 (nR (w2 (vO w0) (vO w1))), kC G wo 8 (nR bf), kGd G g_9 (vT w1 + 1) (oA (vT w1 + 1) (va_up qb (vT w1) g_59)), kC G g_59 2 (nR (w2 co k))] ++ sT G ra pa qa qb (rugF w0 w1) (planF w0 w1) (vT w0) (runF w0) (vT w1) (runF w1)) := hD
        have hP : va_P G.1 vwCl ([kO o 4 [.ref rg, .ref pg, .ref rr, .ref sp, .ref ot, .ref wo, .int (nI ho), .int (nI un)], kGd G rg 12 (oA 12 ra), kGd G pg 12 (oA 12 pa), kH G rr 2 (oR e0 g_9), kGd G e0 (vT w0) (oA (vT w0) qa), kGd G g_9 (vT w1 + 1) (oA (vT w1 + 1) (va_up qb (vT w1) g_59)), kC G sp 2 (nR (w2 (vS w0) (vS w1))), kC G ot 2 (nR (w2 (vO w0) (vO w1))), kC G wo 8 (nR bf), kC G g_59 2 (nR (w2 co k))] ++ sT G ra pa qa qb (rugF w0 w1) (planF w0 w1) (vT w0) (runF w0) (vT w1) (runF w1)) H := kP_x hP [0, 1, 2, 3, 4, 9, 6, 7, 8, 10] rfl
        have hD : va_D A ([kO o 4 [.ref rg, .ref pg, .ref rr, .ref sp, .ref ot, .ref wo, .int (nI ho), .int (nI un)], kGd G rg 12 (oA 12 ra), kGd G pg 12 (oA 12 pa), kH G rr 2 (oR e0 g_9), kGd G e0 (vT w0) (oA (vT w0) qa), kGd G g_9 (vT w1 + 1) (oA (vT w1 + 1) (va_up qb (vT w1) g_59)), kC G sp 2 (nR (w2 (vS w0) (vS w1))), kC G ot 2 (nR (w2 (vO w0) (vO w1))), kC G wo 8 (nR bf), kC G g_59 2 (nR (w2 co k))] ++ sT G ra pa qa qb (rugF w0 w1) (planF w0 w1) (vT w0) (runF w0) (vT w1) (runF w1)) := kD_x hD [0, 1, 2, 3, 4, 9, 6, 7, 8, 10] rfl rfl
        have hP : va_P G.1 vwCl (([kO o 4 [.ref rg, .ref pg, .ref rr, .ref sp, .ref ot, .ref wo, .int (nI ho), .int (nI un)], kGd G rg 12 (oA 12 ra), kGd G pg 12 (oA 12 pa), kH G rr 2 (oR e0 g_9), kGd G e0 (vT w0) (oA (vT w0) qa), kGd G g_9 (vT w1 + 1) (oA (vT w1 + 1) (va_up qb (vT w1) g_59)), kC G sp 2 (nR (w2 (vS w0) (vS w1))), kC G ot 2 (nR (w2 (vO w0) (vO w1))), kC G wo 8 (nR bf)] ++ [kC G g_59 2 (nR (w2 co k))]) ++ sT G ra pa qa qb (rugF w0 w1) (planF w0 w1) (vT w0) (runF w0) (vT w1) (runF w1)) H := hP
        have hD : va_D A (([kO o 4 [.ref rg, .ref pg, .ref rr, .ref sp, .ref ot, .ref wo, .int (nI ho), .int (nI un)], kGd G rg 12 (oA 12 ra), kGd G pg 12 (oA 12 pa), kH G rr 2 (oR e0 g_9), kGd G e0 (vT w0) (oA (vT w0) qa), kGd G g_9 (vT w1 + 1) (oA (vT w1 + 1) (va_up qb (vT w1) g_59)), kC G sp 2 (nR (w2 (vS w0) (vS w1))), kC G ot 2 (nR (w2 (vO w0) (vO w1))), kC G wo 8 (nR bf)] ++ [kC G g_59 2 (nR (w2 co k))]) ++ sT G ra pa qa qb (rugF w0 w1) (planF w0 w1) (vT w0) (runF w0) (vT w1) (runF w1)) := hD
        have hP := kP_perm hP sT_pushB
        have hD := kD_perm hD sT_pushB
        rw [runF_tell, rug_tell1 (c := co) (k := k), plan_tell1 (c := co) (k := k)] at hP hD
        exact k_vret (ws := ([kO o 4 [.ref rg, .ref pg, .ref rr, .ref sp, .ref ot, .ref wo, .int (nI ho), .int (nI un)], kGd G rg 12 (oA 12 ra), kGd G pg 12 (oA 12 pa), kH G rr 2 (oR e0 e1), kGd G e0 (vT w0) (oA (vT w0) qa), kGd G e1 (vT w1) (oA (vT w1) qb), kC G sp 2 (nR (w2 (vS w0) (vS w1))), kC G ot 2 (nR (w2 (vO w0) (vO w1))), kC G wo 8 (nR bf)] ++ sT G ra pa qa qb (rugF w0 w1) (planF w0 w1) (vT w0) (runF w0) (vT w1) (runF w1))) ((g_9, va_up qb (vT w1) g_59)) hx hb hr hlocks hP hD hS hAe hQ (Nat.le_of_ble_eq_true rfl) (Nat.le_of_ble_eq_true rfl) dX4_tell_78 (rfl) (by trivial)
      · have c_26 : ¬ ((vT w1) ≤ i) := fun h9 => c_26 ((nI_leI (a := (vT w1)) (b := i) (by omega) (by omega)).mpr h9)
        refine lv_aload hx hb dX4_tell_29 (lv_at hl 4 rfl) ?_
        refine lv_iload hx hb dX4_tell_31 (lv_at hl 5 rfl) ?_
        refine lv_aload_n hx hb dX4_tell_33 rfl (lv_at hl 0 rfl) ?_
        refine va_get (D := G.1) (ci := 4) (v := .ref rr) (C := RX4) (T := TX4) (N := 8) hx hb hts hq_0 hown hK.1 hP 0 rfl rfl 2 (by decide) hq_1 (fun _ h9 => h9) rfl dX4_tell_34 ?_
        refine lv_iload_n hx hb dX4_tell_37 rfl (lv_at hl 1 rfl) ?_
        refine k_ald3 hx hb hK hP 3 1 rfl (vp_in_nI (n := 1) (by decide) (by decide)) (by decide) rfl dX4_tell_38 ?_
        refine lv_iload hx hb dX4_tell_39 (lv_at hl 5 rfl) ?_
        have hi_5 : i < (vT w1) := by omega
        refine k_aldg hx hb hK hP 5 i rfl (vp_in_nI hi_5 (by omega)) (nI_clamp (Nat.lt_of_lt_of_le hi_5 (by omega))) (oA_at hi_5) dX4_tell_41 ?_
        have hi_6 : i < (vT w1 + 1) := by omega
        refine k_astg hx hb hK hP hD hS 9 _ i rfl (sT_b (i := i) (by omega)) (vp_in_nI hi_6 (by omega)) (nI_clamp (by omega)) dX4_tell_42 (fun H locs hP hD hS => ?_)
        rw [oA_up1] at hP hD
        have hP : va_P G.1 vwCl ([kO o 4 [.ref rg, .ref pg, .ref rr, .ref sp, .ref ot, .ref wo, .int (nI ho), .int (nI un)], kGd G rg 12 (oA 12 ra), kGd G pg 12 (oA 12 pa), kH G rr 2 (oR e0 e1), kGd G e0 (vT w0) (oA (vT w0) qa), kGd G e1 (vT w1) (oA (vT w1) qb), kC G sp 2 (nR (w2 (vS w0) (vS w1))), kC G ot 2 (nR (w2 (vO w0) (vO w1))), kC G wo 8 (nR bf), kGd G g_9 (vT w1 + 1) (oA (i + 1) qb)] ++ sT G ra pa qa qb (rugF w0 w1) (planF w0 w1) (vT w0) (runF w0) (vT w1) (runF w1)) H := hP
        have hD : va_D A ([kO o 4 [.ref rg, .ref pg, .ref rr, .ref sp, .ref ot, .ref wo, .int (nI ho), .int (nI un)], kGd G rg 12 (oA 12 ra), kGd G pg 12 (oA 12 pa), kH G rr 2 (oR e0 e1), kGd G e0 (vT w0) (oA (vT w0) qa), kGd G e1 (vT w1) (oA (vT w1) qb), kC G sp 2 (nR (w2 (vS w0) (vS w1))), kC G ot 2 (nR (w2 (vO w0) (vO w1))), kC G wo 8 (nR bf), kGd G g_9 (vT w1 + 1) (oA (i + 1) qb)] ++ sT G ra pa qa qb (rugF w0 w1) (planF w0 w1) (vT w0) (runF w0) (vT w1) (runF w1)) := hD
        refine lv_iinc (v := nI (i + 1)) (lv' := [(5, .int (nI (i + 1))), (0, .ref o), (1, .int (nI 1)), (2, .int (nI co)), (3, .int (nI k)), (4, .ref g_9)]) hx hb dX4_tell_43 hl (k := 5) rfl (nI_add i 1) (by decide) rfl (fun ls hl => ?_)
        refine lv_goto (tgt := 17) hx hb dX4_tell_46 (by decide) ?_
        exact ih_17 (i + 1) (by omega) (by omega) _ _ _ hP hD hS (lv_sub hl [1, 2, 3, 4, 5, 0] rfl)
  exact loop_17 (vT w1 + 1) 0 (by omega) (by omega) H locs ls hP hD hS (lv_sub hl [2, 3, 4, 5, 1, 0] rfl)
