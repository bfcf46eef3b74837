set_option maxHeartbeats 4000000 in
set_option maxRecDepth 100000 in
theorem s_x0 (l : Launch) (G : kG) (k : Nat) (hk : k < 60) : kM l G yX4_x wsX4_x ({ frames := 0, cells := 0, slots := 0, locals := 0 } : Room) [.int (nI 0), .int (nI k)] [] (kQi G [] (fun (r : Int32) (_ : Unit) => r = nI (colOf 0 k)) (fun (_ : Unit) => [])) := by
  refine k_ofW (cc := cX4_x) (maxL := 2) (rt := (some .int)) (by decide) rfl (Nat.le_of_ble_eq_true rfl) ?_
  intro p e s m args below meth c A ls Qs H locs hQ hAe hx hb hr hml hts hown hlocks hin hK hZ hP hD hS hA hl
  have hown : s.vm.findClass RX4 = some m.cls := hown
  have hl : lv_has ls 2 [(0, .int (nI 0)), (1, .int (nI k))] := hl
  refine lv_iload_n hx hb dX4_x_0 rfl (lv_at hl 0 rfl) ?_
  refine lv_if_ne (tgt := 11) hx hb dX4_x_1 (by decide) (fun c_1 => absurd c_1 (by decide)) (fun c_1 => ?_)
  refine lv_iload_n hx hb dX4_x_4 rfl (lv_at hl 1 rfl) ?_
  refine lv_bipush (v := nI 6) hx hb dX4_x_5 (by decide) ?_
  refine lv_irem hx hb dX4_x_7 (by first | decide | (intro h; exact absurd ((nI_eq (by omega) (by omega)).mp h) (by omega))) ?_
  refine lv_topi (fun y_1 hy_1 => ?_)
  obtain rfl : y_1 = nI (k % 6) := hy_1.trans (pk_rem (a := k) (d := 6) (by omega) (by omega) (by omega))
  refine lv_goto (tgt := 18) hx hb dX4_x_8 (by decide) ?_
  exact k_iret (ws := []) (()) hx hb hr hlocks hP hD hS hAe hQ (Nat.le_of_ble_eq_true rfl) (Nat.le_of_ble_eq_true rfl) dX4_x_18 (rfl) (rfl)
set_option maxHeartbeats 4000000 in
set_option maxRecDepth 100000 in
theorem s_x1 (l : Launch) (G : kG) (k : Nat) (hk : k < 60) : kM l G yX4_x wsX4_x ({ frames := 0, cells := 0, slots := 0, locals := 0 } : Room) [.int (nI 1), .int (nI k)] [] (kQi G [] (fun (r : Int32) (_ : Unit) => r = nI (colOf 1 k)) (fun (_ : Unit) => [])) := by
  refine k_ofW (cc := cX4_x) (maxL := 2) (rt := (some .int)) (by decide) rfl (Nat.le_of_ble_eq_true rfl) ?_
  intro p e s m args below meth c A ls Qs H locs hQ hAe hx hb hr hml hts hown hlocks hin hK hZ hP hD hS hA hl
  have hown : s.vm.findClass RX4 = some m.cls := hown
  have hl : lv_has ls 2 [(0, .int (nI 1)), (1, .int (nI k))] := hl
  refine lv_iload_n hx hb dX4_x_0 rfl (lv_at hl 0 rfl) ?_
  refine lv_if_ne (tgt := 11) hx hb dX4_x_1 (by decide) (fun c_1 => ?_) (fun c_1 => absurd c_1 (by decide))
  refine lv_bipush (v := nI 11) hx hb dX4_x_11 (by decide) ?_
  refine lv_iload_n hx hb dX4_x_13 rfl (lv_at hl 1 rfl) ?_
  refine lv_bipush (v := nI 6) hx hb dX4_x_14 (by decide) ?_
  refine lv_irem hx hb dX4_x_16 (by first | decide | (intro h; exact absurd ((nI_eq (by omega) (by omega)).mp h) (by omega))) ?_
  refine lv_topi (fun y_1 hy_1 => ?_)
  obtain rfl : y_1 = nI (k % 6) := hy_1.trans (pk_rem (a := k) (d := 6) (by omega) (by omega) (by omega))
  refine lv_isub hx hb dX4_x_17 ?_
  refine lv_topi (fun y_2 hy_2 => ?_)
  obtain rfl : y_2 = nI (11 - (k % 6)) := hy_2.trans (pk_sub (a := 11) (b := (k % 6)) (by omega))
  exact k_iret (ws := []) (()) hx hb hr hlocks hP hD hS hAe hQ (Nat.le_of_ble_eq_true rfl) (Nat.le_of_ble_eq_true rfl) dX4_x_18 (rfl) (rfl)
set_option maxHeartbeats 4000000 in
set_option maxRecDepth 100000 in
theorem s_knots0 (l : Launch) (G : kG) (o : Nat) (rg : Nat) (pg : Nat) (rr : Nat) (e0 : Nat) (e1 : Nat) (sp : Nat) (ot : Nat) (wo : Nat) (ra : Nat → Nat) (pa : Nat → Nat) (qa : Nat → Nat) (qb : Nat → Nat) (w0 : Wv) (w1 : Wv) (bf : Nat → Nat) (ho : Nat) (un : Nat) (h0 : wOk w0) (h1 : wOk w1) (hB : bOk bf) : kM l G yX4_knots wsX4_knots ({ frames := 1, cells := 0, slots := 0, locals := 21 } : Room) [.ref o, .int (nI 0)] ([kO o 4 [.ref rg, .ref pg, .ref rr, .ref sp, .ref ot, .ref wo, .int (nI ho), .int (nI un)], kGd G rg 12 (oA 12 ra), kGd G pg 12 (oA 12 pa), kH G rr 2 (oR e0 e1), kGd G e0 (vT w0) (oA (vT w0) qa), kGd G e1 (vT w1) (oA (vT w1) qb), kC G sp 2 (nR (w2 (vS w0) (vS w1))), kC G ot 2 (nR (w2 (vO w0) (vO w1))), kC G wo 8 (nR bf)] ++ sT G ra pa qa qb (rugF w0 w1) (planF w0 w1) (vT w0) (runF w0) (vT w1) (runF w1)) (kQi G ([kO o 4 [.ref rg, .ref pg, .ref rr, .ref sp, .ref ot, .ref wo, .int (nI ho), .int (nI un)], kGd G rg 12 (oA 12 ra), kGd G pg 12 (oA 12 pa), kH G rr 2 (oR e0 e1), kGd G e0 (vT w0) (oA (vT w0) qa), kGd G e1 (vT w1) (oA (vT w1) qb), kC G sp 2 (nR (w2 (vS w0) (vS w1))), kC G ot 2 (nR (w2 (vO w0) (vO w1))), kC G wo 8 (nR bf)] ++ sT G ra pa qa qb (rugF w0 w1) (planF w0 w1) (vT w0) (runF w0) (vT w1) (runF w1)) (fun (r : Int32) (_ : Unit) => r = nI (vM w0)) (fun (_ : Unit) => ([kO o 4 [.ref rg, .ref pg, .ref rr, .ref sp, .ref ot, .ref wo, .int (nI ho), .int (nI un)], kGd G rg 12 (oA 12 ra), kGd G pg 12 (oA 12 pa), kH G rr 2 (oR e0 e1), kGd G e0 (vT w0) (oA (vT w0) qa), kGd G e1 (vT w1) (oA (vT w1) qb), kC G sp 2 (nR (w2 (vS w0) (vS w1))), kC G ot 2 (nR (w2 (vO w0) (vO w1))), kC G wo 8 (nR bf)] ++ sT G ra pa qa qb (rugF w0 w1) (planF w0 w1) (vT w0) (runF w0) (vT w1) (runF w1)))) := by
  refine k_ofW (cc := cX4_knots) (maxL := 3) (rt := (some .int)) (by decide) rfl (Nat.le_of_ble_eq_true rfl) ?_
  intro p e s m args below meth c A ls Qs H locs hQ hAe hx hb hr hml hts hown hlocks hin hK hZ hP hD hS hA hl
  have hown : s.vm.findClass RX4 = some m.cls := hown
  have hl : lv_has ls 3 [(0, .ref o), (1, .int (nI 0))] := hl
  have m0b : vM w0 ≤ 60 := h0.2.2.2.1
  have m1b : vM w1 ≤ 60 := h1.2.2.2.1
  have t0b : vT w0 ≤ 20 := h0.2.2.1
  have t1b : vT w1 ≤ 20 := h1.2.2.1
  have pb0 : ∀ i, i < 60 → vP w0 i < 8 := h0.2.2.2.2.1
  have pb1 : ∀ i, i < 60 → vP w1 i < 8 := h1.2.2.2.2.1
  have kb0 : ∀ i, i < 60 → vK w0 i < 8 := h0.2.2.2.2.2.1
  have kb1 : ∀ i, i < 60 → vK w1 i < 8 := h1.2.2.2.2.2.1
  have cb0 : ∀ i, i < vT w0 → vC w0 i < 8 := h0.2.2.2.2.2.2.1
  have cb1 : ∀ i, i < vT w1 → vC w1 i < 8 := h1.2.2.2.2.2.2.1
  have nb0 : ∀ i, i < vT w0 → 1 ≤ vN w0 i ∧ vN w0 i ≤ 60 := h0.2.2.2.2.2.2.2
  have nb1 : ∀ i, i < vT w1 → 1 ≤ vN w1 i ∧ vN w1 i ≤ 60 := h1.2.2.2.2.2.2.2
  have sb0 : vS w0 ≤ 6 := h0.2.1
  have sb1 : vS w1 ≤ 6 := h1.2.1
  have hq_0 : ∀ w ∈ wsX40, w ∈ wsX4_knots := by decide +kernel
  have hq_1 : (Cond.fieldLink RX4 9 "KnotRugsLaw$Sim" "rug" "[[I").before args s = true := hts _ (by decide +kernel)
  refine lv_iconst (v := nI 0) hx hb dX4_knots_0 (by decide) ?_
  refine lv_istore_n (lv' := [(2, .int (nI 0)), (0, .ref o), (1, .int (nI 0))]) hx hb dX4_knots_1 rfl hl (by decide) rfl (fun ls hl => ?_)
  have loop_2 : ∀ (fu_2 : Nat) (k : Nat), k ≤ vM w0 → vM w0 < k + fu_2 → ∀ (H : Heap) (locs : List Loc) (ls : Array Slot), va_P G.1 vwCl ([kO o 4 [.ref rg, .ref pg, .ref rr, .ref sp, .ref ot, .ref wo, .int (nI ho), .int (nI un)], kGd G rg 12 (oA 12 ra), kGd G pg 12 (oA 12 pa), kH G rr 2 (oR e0 e1), kGd G e0 (vT w0) (oA (vT w0) qa), kGd G e1 (vT w1) (oA (vT w1) qb), kC G sp 2 (nR (w2 (vS w0) (vS w1))), kC G ot 2 (nR (w2 (vO w0) (vO w1))), kC G wo 8 (nR bf)] ++ sT G ra pa qa qb (rugF w0 w1) (planF w0 w1) (vT w0) (runF w0) (vT w1) (runF w1)) H → va_D A ([kO o 4 [.ref rg, .ref pg, .ref rr, .ref sp, .ref ot, .ref wo, .int (nI ho), .int (nI un)], kGd G rg 12 (oA 12 ra), kGd G pg 12 (oA 12 pa), kH G rr 2 (oR e0 e1), kGd G e0 (vT w0) (oA (vT w0) qa), kGd G e1 (vT w1) (oA (vT w1) qb), kC G sp 2 (nR (w2 (vS w0) (vS w1))), kC G ot 2 (nR (w2 (vO w0) (vO w1))), kC G wo 8 (nR bf)] ++ sT G ra pa qa qb (rugF w0 w1) (planF w0 w1) (vT w0) (runF w0) (vT w1) (runF w1)) → va_S A s.heap H locs → lv_has ls 3 [(0, .ref o), (1, .int (nI 0)), (2, .int (nI k))] → W p l e ({ frames := 1, cells := 0, slots := 0, locals := 21 } : Room) s m args below meth c H locs 0 0 Qs (F0 m 2 ls []) := by
    intro fu_2
    induction fu_2 with
    | zero =>
      intro k hk hf
      exact absurd hf (by omega)
    | succ fu_2 ih_2 =>
      intro k hk hf H locs ls hP hD hS hl
      refine lv_iload_n hx hb dX4_knots_2 rfl (lv_at hl 2 rfl) ?_
      refine lv_bipush (v := nI 60) hx hb dX4_knots_3 (by decide) ?_
      refine lv_icmp_ge (tgt := 32) hx hb dX4_knots_5 (by decide) (fun c_5 => ?_) (fun c_5 => ?_)
      · have c_5 : 60 ≤ k := (nI_leI (a := 60) (b := k) (by omega) (by omega)).mp c_5
        have hk9 : k = vM w0 := by omega
        refine lv_iload_n hx hb dX4_knots_32 rfl (lv_at hl 2 rfl) ?_
        exact k_iret (ws := ([kO o 4 [.ref rg, .ref pg, .ref rr, .ref sp, .ref ot, .ref wo, .int (nI ho), .int (nI un)], kGd G rg 12 (oA 12 ra), kGd G pg 12 (oA 12 pa), kH G rr 2 (oR e0 e1), kGd G e0 (vT w0) (oA (vT w0) qa), kGd G e1 (vT w1) (oA (vT w1) qb), kC G sp 2 (nR (w2 (vS w0) (vS w1))), kC G ot 2 (nR (w2 (vO w0) (vO w1))), kC G wo 8 (nR bf)] ++ sT G ra pa qa qb (rugF w0 w1) (planF w0 w1) (vT w0) (runF w0) (vT w1) (runF w1))) (()) hx hb hr hlocks hP hD hS hAe hQ (Nat.le_of_ble_eq_true rfl) (Nat.le_of_ble_eq_true rfl) dX4_knots_33 (rfl) (by rw [hk9])
      · have c_5 : ¬ (60 ≤ k) := fun h9 => c_5 ((nI_leI (a := 60) (b := k) (by omega) (by omega)).mpr h9)
        refine lv_aload_n hx hb dX4_knots_8 rfl (lv_at hl 0 rfl) ?_
        refine va_get (D := G.1) (ci := 4) (v := .ref rg) (C := RX4) (T := TX4) (N := 8) hx hb hts hq_0 hown hK.1 hP 0 rfl rfl 0 (by decide) hq_1 (fun _ h9 => h9) rfl dX4_knots_9 ?_
        refine lv_iload_n hx hb dX4_knots_12 rfl (lv_at hl 1 rfl) ?_
        refine lv_iload_n hx hb dX4_knots_13 rfl (lv_at hl 2 rfl) ?_
        refine k_callQi (wfx := fun _ => []) (fun _ => [kO o 4 [.ref rg, .ref pg, .ref rr, .ref sp, .ref ot, .ref wo, .int (nI ho), .int (nI un)], kGd G rg 12 (oA 12 ra), kGd G pg 12 (oA 12 pa), kH G rr 2 (oR e0 e1), kGd G e0 (vT w0) (oA (vT w0) qa), kGd G e1 (vT w1) (oA (vT w1) qb), kC G sp 2 (nR (w2 (vS w0) (vS w1))), kC G ot 2 (nR (w2 (vO w0) (vO w1))), kC G wo 8 (nR bf)]) [kO o 4 [.ref rg, .ref pg, .ref rr, .ref sp, .ref ot, .ref wo, .int (nI ho), .int (nI un)], kGd G rg 12 (oA 12 ra), kGd G pg 12 (oA 12 pa), kH G rr 2 (oR e0 e1), kGd G e0 (vT w0) (oA (vT w0) qa), kGd G e1 (vT w1) (oA (vT w1) qb), kC G sp 2 (nR (w2 (vS w0) (vS w1))), kC G ot 2 (nR (w2 (vO w0) (vO w1))), kC G wo 8 (nR bf)] (k_runS (As := [.int (nI 0), .int (nI k)]) (rest := [.ref rg]) (wc := []) ⟨hx, hb, hml, hown, hts⟩ (s_x0 l G k (by omega)) (va_cwS 2 hts gX4_knots_X4_x rfl rfl rfl (by decide +kernel) ⟨Nat.le_of_ble_eq_true rfl, Nat.le_of_ble_eq_true rfl⟩) hK hZ hP hD hS hA [] rfl rfl rfl hl.1 rfl (Nat.le_of_ble_eq_true rfl) dX4_knots_14 ⟨(Nat.le_of_ble_eq_true rfl), (Nat.le_of_ble_eq_true rfl)⟩) hP hD hS hA [] [0, 1, 2, 3, 4, 5, 6, 7, 8] [0, 1, 2, 3, 4, 5, 6, 7, 8] rfl rfl rfl rfl (by decide) (fun _ => rfl) rfl (fun r_14 u_14 H locs hp_14 hP hD hS => ?_)
        have hp_14 : r_14 = nI (colOf 0 k) := hp_14
        subst hp_14
        have hi_1 : (colOf 0 k) < 12 := colOf_lt
        refine k_aldg hx hb hK hP 1 (colOf 0 k) rfl (vp_in_nI hi_1 (by omega)) (nI_clamp (Nat.lt_of_lt_of_le hi_1 (by omega))) (oA_at hi_1) dX4_knots_17 ?_
        refine lv_iload_n hx hb dX4_knots_18 rfl (lv_at hl 2 rfl) ?_
        refine lv_bipush (v := nI 6) hx hb dX4_knots_19 (by decide) ?_
        refine lv_idiv hx hb dX4_knots_21 (by first | decide | (intro h; exact absurd ((nI_eq (by omega) (by omega)).mp h) (by omega))) ?_
        refine lv_topi (fun y_2 hy_2 => ?_)
        obtain rfl : y_2 = nI (k / 6) := hy_2.trans (pk_div (a := k) (d := 6) (by omega) (by omega) (by omega))
        have hi_3 : (k / 6) < 10 := by omega
        refine va_iald (D := G.1) hx hb hK.1 hP _ 0 (sT_r (i := (colOf 0 k)) colOf_lt) rfl (vp_in_nI hi_3 (by omega)) dX4_knots_22 ?_
        refine lv_topi (fun y_4 hy_4 => ?_)
        obtain rfl : y_4 = (rugF w0 w1) (colOf 0 k) (k / 6) := hy_4.trans (congrArg _ (nI_clamp (by omega)))
        refine lv_topi (fun y_5 hy_5 => ?_)
        obtain rfl : y_5 = kaW w0 k := hy_5.trans (rug_c0 (by omega))
        refine lv_if_lt (tgt := 32) hx hb dX4_knots_23 (by decide) (fun c_23 => ?_) (fun c_23 => ?_)
        · have hk9 : k = vM w0 := by have := (kaW_iff h0 (by omega)).mp c_23; omega
          refine lv_iload_n hx hb dX4_knots_32 rfl (lv_at hl 2 rfl) ?_
          exact k_iret (ws := ([kO o 4 [.ref rg, .ref pg, .ref rr, .ref sp, .ref ot, .ref wo, .int (nI ho), .int (nI un)], kGd G rg 12 (oA 12 ra), kGd G pg 12 (oA 12 pa), kH G rr 2 (oR e0 e1), kGd G e0 (vT w0) (oA (vT w0) qa), kGd G e1 (vT w1) (oA (vT w1) qb), kC G sp 2 (nR (w2 (vS w0) (vS w1))), kC G ot 2 (nR (w2 (vO w0) (vO w1))), kC G wo 8 (nR bf)] ++ sT G ra pa qa qb (rugF w0 w1) (planF w0 w1) (vT w0) (runF w0) (vT w1) (runF w1))) (()) hx hb hr hlocks hP hD hS hAe hQ (Nat.le_of_ble_eq_true rfl) (Nat.le_of_ble_eq_true rfl) dX4_knots_33 (rfl) (by rw [hk9])
        · have hk8 : k < vM w0 := Classical.byContradiction (fun q => c_23 ((kaW_iff h0 (by omega)).mpr q))
          refine lv_iinc (v := nI (k + 1)) (lv' := [(2, .int (nI (k + 1))), (0, .ref o), (1, .int (nI 0))]) hx hb dX4_knots_26 hl (k := 2) rfl (nI_add k 1) (by decide) rfl (fun ls hl => ?_)
          refine lv_goto (tgt := 2) hx hb dX4_knots_29 (by decide) ?_
          exact ih_2 (k + 1) (by omega) (by omega) _ _ _ hP hD hS (lv_sub hl [1, 2, 0] rfl)
  exact loop_2 (vM w0 + 1) 0 (by omega) (by omega) H locs ls hP hD hS (lv_sub hl [1, 2, 0] rfl)
set_option maxHeartbeats 4000000 in
set_option maxRecDepth 100000 in
theorem s_told0 (l : Launch) (G : kG) (o : Nat) (rg : Nat) (pg : Nat) (rr : Nat) (e0 : Nat) (e1 : Nat) (sp : Nat) (ot : Nat) (wo : Nat) (ra : Nat → Nat) (pa : Nat → Nat) (qa : Nat → Nat) (qb : Nat → Nat) (w0 : Wv) (w1 : Wv) (bf : Nat → Nat) (ho : Nat) (un : Nat) (h0 : wOk w0) (h1 : wOk w1) (hB : bOk bf) : kM l G yX4_told wsX4_told ({ frames := 0, cells := 0, slots := 0, locals := 0 } : Room) [.ref o, .int (nI 0)] ([kO o 4 [.ref rg, .ref pg, .ref rr, .ref sp, .ref ot, .ref wo, .int (nI ho), .int (nI un)], kGd G rg 12 (oA 12 ra), kGd G pg 12 (oA 12 pa), kH G rr 2 (oR e0 e1), kGd G e0 (vT w0) (oA (vT w0) qa), kGd G e1 (vT w1) (oA (vT w1) qb), kC G sp 2 (nR (w2 (vS w0) (vS w1))), kC G ot 2 (nR (w2 (vO w0) (vO w1))), kC G wo 8 (nR bf)] ++ sT G ra pa qa qb (rugF w0 w1) (planF w0 w1) (vT w0) (runF w0) (vT w1) (runF w1)) (kQi G ([kO o 4 [.ref rg, .ref pg, .ref rr, .ref sp, .ref ot, .ref wo, .int (nI ho), .int (nI un)], kGd G rg 12 (oA 12 ra), kGd G pg 12 (oA 12 pa), kH G rr 2 (oR e0 e1), kGd G e0 (vT w0) (oA (vT w0) qa), kGd G e1 (vT w1) (oA (vT w1) qb), kC G sp 2 (nR (w2 (vS w0) (vS w1))), kC G ot 2 (nR (w2 (vO w0) (vO w1))), kC G wo 8 (nR bf)] ++ sT G ra pa qa qb (rugF w0 w1) (planF w0 w1) (vT w0) (runF w0) (vT w1) (runF w1)) (fun (r : Int32) (_ : Unit) => r = nI (sumN (vN w0) (vT w0))) (fun (_ : Unit) => ([kO o 4 [.ref rg, .ref pg, .ref rr, .ref sp, .ref ot, .ref wo, .int (nI ho), .int (nI un)], kGd G rg 12 (oA 12 ra), kGd G pg 12 (oA 12 pa), kH G rr 2 (oR e0 e1), kGd G e0 (vT w0) (oA (vT w0) qa), kGd G e1 (vT w1) (oA (vT w1) qb), kC G sp 2 (nR (w2 (vS w0) (vS w1))), kC G ot 2 (nR (w2 (vO w0) (vO w1))), kC G wo 8 (nR bf)] ++ sT G ra pa qa qb (rugF w0 w1) (planF w0 w1) (vT w0) (runF w0) (vT w1) (runF w1)))) := by
  refine k_ofW (cc := cX4_told) (maxL := 7) (rt := (some .int)) (by decide) rfl (Nat.le_of_ble_eq_true rfl) ?_
  intro p e s m args below meth c A ls Qs H locs hQ hAe hx hb hr hml hts hown hlocks hin hK hZ hP hD hS hA hl
  have hown : s.vm.findClass RX4 = some m.cls := hown
  have hl : lv_has ls 7 [(0, .ref o), (1, .int (nI 0))] := hl
  have m0b : vM w0 ≤ 60 := h0.2.2.2.1
  have m1b : vM w1 ≤ 60 := h1.2.2.2.1
  have t0b : vT w0 ≤ 20 := h0.2.2.1
  have t1b : vT w1 ≤ 20 := h1.2.2.1
  have pb0 : ∀ i, i < 60 → vP w0 i < 8 := h0.2.2.2.2.1
  have pb1 : ∀ i, i < 60 → vP w1 i < 8 := h1.2.2.2.2.1
  have kb0 : ∀ i, i < 60 → vK w0 i < 8 := h0.2.2.2.2.2.1
  have kb1 : ∀ i, i < 60 → vK w1 i < 8 := h1.2.2.2.2.2.1
  have cb0 : ∀ i, i < vT w0 → vC w0 i < 8 := h0.2.2.2.2.2.2.1
  have cb1 : ∀ i, i < vT w1 → vC w1 i < 8 := h1.2.2.2.2.2.2.1
  have nb0 : ∀ i, i < vT w0 → 1 ≤ vN w0 i ∧ vN w0 i ≤ 60 := h0.2.2.2.2.2.2.2
  have nb1 : ∀ i, i < vT w1 → 1 ≤ vN w1 i ∧ vN w1 i ≤ 60 := h1.2.2.2.2.2.2.2
  have sb0 : vS w0 ≤ 6 := h0.2.1
  have sb1 : vS w1 ≤ 6 := h1.2.1
  have hq_0 : ∀ w ∈ wsX40, w ∈ wsX4_told := by decide +kernel
  have hq_1 : (Cond.fieldLink RX4 19 "KnotRugsLaw$Sim" "runs" "[[[I").before args s = true := hts _ (by decide +kernel)
  refine lv_iconst (v := nI 0) hx hb dX4_told_0 (by decide) ?_
  refine lv_istore_n (lv' := [(2, .int (nI 0)), (0, .ref o), (1, .int (nI 0))]) hx hb dX4_told_1 rfl hl (by decide) rfl (fun ls hl => ?_)
  refine lv_aload_n hx hb dX4_told_2 rfl (lv_at hl 1 rfl) ?_
  refine va_get (D := G.1) (ci := 4) (v := .ref rr) (C := RX4) (T := TX4) (N := 8) hx hb hts hq_0 hown hK.1 hP 0 rfl rfl 2 (by decide) hq_1 (fun _ h9 => h9) rfl dX4_told_3 ?_
  refine lv_iload_n hx hb dX4_told_6 rfl (lv_at hl 2 rfl) ?_
  refine k_ald3 hx hb hK hP 3 0 rfl (vp_in_nI (n := 0) (by decide) (by decide)) (by decide) rfl dX4_told_7 ?_
  refine lv_astore_n (lv' := [(3, .ref e0), (2, .int (nI 0)), (0, .ref o), (1, .int (nI 0))]) hx hb dX4_told_8 rfl hl (by decide) rfl (fun ls hl => ?_)
  refine lv_aload_n hx hb dX4_told_9 rfl (lv_at hl 0 rfl) ?_
  refine va_alen (D := G.1) (v := nI (vT w0)) hx hb hK.1 hP 4 2 rfl rfl rfl dX4_told_10 ?_
  refine lv_istore (lv' := [(4, .int (nI (vT w0))), (3, .ref e0), (2, .int (nI 0)), (0, .ref o), (1, .int (nI 0))]) hx hb dX4_told_11 hl (by decide) rfl (fun ls hl => ?_)
  refine lv_iconst (v := nI 0) hx hb dX4_told_13 (by decide) ?_
  refine lv_istore (lv' := [(5, .int (nI 0)), (4, .int (nI (vT w0))), (3, .ref e0), (2, .int (nI 0)), (0, .ref o), (1, .int (nI 0))]) hx hb dX4_told_14 hl (by decide) rfl (fun ls hl => ?_)
  have loop_16 : ∀ (fu_16 : Nat) (i : Nat), i ≤ vT w0 → vT w0 < i + fu_16 → ∀ (H : Heap) (locs : List Loc) (ls : Array Slot), va_P G.1 vwCl ([kO o 4 [.ref rg, .ref pg, .ref rr, .ref sp, .ref ot, .ref wo, .int (nI ho), .int (nI un)], kGd G rg 12 (oA 12 ra), kGd G pg 12 (oA 12 pa), kH G rr 2 (oR e0 e1), kGd G e0 (vT w0) (oA (vT w0) qa), kGd G e1 (vT w1) (oA (vT w1) qb), kC G sp 2 (nR (w2 (vS w0) (vS w1))), kC G ot 2 (nR (w2 (vO w0) (vO w1))), kC G wo 8 (nR bf)] ++ sT G ra pa qa qb (rugF w0 w1) (planF w0 w1) (vT w0) (runF w0) (vT w1) (runF w1)) H → va_D A ([kO o 4 [.ref rg, .ref pg, .ref rr, .ref sp, .ref ot, .ref wo, .int (nI ho), .int (nI un)], kGd G rg 12 (oA 12 ra), kGd G pg 12 (oA 12 pa), kH G rr 2 (oR e0 e1), kGd G e0 (vT w0) (oA (vT w0) qa), kGd G e1 (vT w1) (oA (vT w1) qb), kC G sp 2 (nR (w2 (vS w0) (vS w1))), kC G ot 2 (nR (w2 (vO w0) (vO w1))), kC G wo 8 (nR bf)] ++ sT G ra pa qa qb (rugF w0 w1) (planF w0 w1) (vT w0) (runF w0) (vT w1) (runF w1)) → va_S A s.heap H locs → lv_has ls 7 [(0, .ref o), (1, .int (nI 0)), (2, .int (nI (sumN (vN w0) i))), (3, .ref e0), (4, .int (nI (vT w0))), (5, .int (nI i))] → W p l e ({ frames := 0, cells := 0, slots := 0, locals := 0 } : Room) s m args below meth c H locs 0 0 Qs (F0 m 16 ls []) := by
    intro fu_16
    induction fu_16 with
    | zero =>
      intro i hi hf
      exact absurd hf (by omega)
    | succ fu_16 ih_16 =>
      intro i hi hf H locs ls hP hD hS hl
      refine lv_iload hx hb dX4_told_16 (lv_at hl 5 rfl) ?_
      refine lv_iload hx hb dX4_told_18 (lv_at hl 4 rfl) ?_
      refine lv_icmp_ge (tgt := 42) hx hb dX4_told_20 (by decide) (fun c_20 => ?_) (fun c_20 => ?_)
      · have c_20 : (vT w0) ≤ i := (nI_leI (a := (vT w0)) (b := i) (by omega) (by omega)).mp c_20
        have hi9 : i = vT w0 := by omega
        refine lv_iload_n hx hb dX4_told_42 rfl (lv_at hl 2 rfl) ?_
        exact k_iret (ws := ([kO o 4 [.ref rg, .ref pg, .ref rr, .ref sp, .ref ot, .ref wo, .int (nI ho), .int (nI un)], kGd G rg 12 (oA 12 ra), kGd G pg 12 (oA 12 pa), kH G rr 2 (oR e0 e1), kGd G e0 (vT w0) (oA (vT w0) qa), kGd G e1 (vT w1) (oA (vT w1) qb), kC G sp 2 (nR (w2 (vS w0) (vS w1))), kC G ot 2 (nR (w2 (vO w0) (vO w1))), kC G wo 8 (nR bf)] ++ sT G ra pa qa qb (rugF w0 w1) (planF w0 w1) (vT w0) (runF w0) (vT w1) (runF w1))) (()) hx hb hr hlocks hP hD hS hAe hQ (Nat.le_of_ble_eq_true rfl) (Nat.le_of_ble_eq_true rfl) dX4_told_43 (rfl) (by rw [hi9])
      · have c_20 : ¬ ((vT w0) ≤ i) := fun h9 => c_20 ((nI_leI (a := (vT w0)) (b := i) (by omega) (by omega)).mpr h9)
        refine lv_aload_n hx hb dX4_told_23 rfl (lv_at hl 3 rfl) ?_
        refine lv_iload hx hb dX4_told_24 (lv_at hl 5 rfl) ?_
        have hi_1 : i < (vT w0) := by omega
        refine k_aldg hx hb hK hP 4 i rfl (vp_in_nI hi_1 (by omega)) (nI_clamp (Nat.lt_of_lt_of_le hi_1 (by omega))) (oA_at hi_1) dX4_told_26 ?_
        refine lv_astore (lv' := [(6, .ref (qa i)), (0, .ref o), (1, .int (nI 0)), (2, .int (nI (sumN (vN w0) i))), (3, .ref e0), (4, .int (nI (vT w0))), (5, .int (nI i))]) hx hb dX4_told_27 hl (by decide) rfl (fun ls hl => ?_)
        refine lv_iload_n hx hb dX4_told_29 rfl (lv_at hl 3 rfl) ?_
        refine lv_aload hx hb dX4_told_30 (lv_at hl 0 rfl) ?_
        refine lv_iconst (v := nI 1) hx hb dX4_told_32 (by decide) ?_
        have hi_2 : 1 < 2 := by omega
        refine va_iald (D := G.1) hx hb hK.1 hP _ 0 (sT_a (i := i) (by omega)) rfl (vp_in_nI hi_2 (by omega)) dX4_told_33 ?_
        refine lv_topi (fun y_3 hy_3 => ?_)
        obtain rfl : y_3 = (runF w0) i 1 := hy_3.trans (congrArg _ (nI_clamp (by omega)))
        refine lv_topi (fun y_4 hy_4 => ?_)
        obtain rfl : y_4 = nI (vN w0 i) := hy_4.trans (rfl)
        refine lv_iadd hx hb dX4_told_34 ?_
        refine lv_topi (fun y_5 hy_5 => ?_)
        obtain rfl : y_5 = nI ((sumN (vN w0) i) + (vN w0 i)) := hy_5.trans (nI_add (sumN (vN w0) i) (vN w0 i))
        refine lv_istore_n (lv' := [(2, .int (nI ((sumN (vN w0) i) + (vN w0 i)))), (6, .ref (qa i)), (0, .ref o), (1, .int (nI 0)), (3, .ref e0), (4, .int (nI (vT w0))), (5, .int (nI i))]) hx hb dX4_told_35 rfl hl (by decide) rfl (fun ls hl => ?_)
        refine lv_iinc (v := nI (i + 1)) (lv' := [(5, .int (nI (i + 1))), (2, .int (nI ((sumN (vN w0) i) + (vN w0 i)))), (6, .ref (qa i)), (0, .ref o), (1, .int (nI 0)), (3, .ref e0), (4, .int (nI (vT w0)))]) hx hb dX4_told_36 hl (k := 6) rfl (nI_add i 1) (by decide) rfl (fun ls hl => ?_)
        refine lv_goto (tgt := 16) hx hb dX4_told_39 (by decide) ?_
        exact ih_16 (i + 1) (by omega) (by omega) _ _ _ hP hD hS (lv_sub hl [3, 4, 1, 5, 6, 0] rfl)
  exact loop_16 (vT w0 + 1) 0 (by omega) (by omega) H locs ls hP hD hS (lv_sub hl [4, 5, 3, 2, 1, 0] rfl)
set_option maxHeartbeats 4000000 in
set_option maxRecDepth 100000 in
theorem s_isDone0 (l : Launch) (G : kG) (o : Nat) (rg : Nat) (pg : Nat) (rr : Nat) (e0 : Nat) (e1 : Nat) (sp : Nat) (ot : Nat) (wo : Nat) (ra : Nat → Nat) (pa : Nat → Nat) (qa : Nat → Nat) (qb : Nat → Nat) (w0 : Wv) (w1 : Wv) (bf : Nat → Nat) (ho : Nat) (un : Nat) (h0 : wOk w0) (h1 : wOk w1) (hB : bOk bf) : kM l G yX4_isDone wsX4_isDone ({ frames := 2, cells := 0, slots := 0, locals := 43 } : Room) [.ref o, .int (nI 0)] ([kO o 4 [.ref rg, .ref pg, .ref rr, .ref sp, .ref ot, .ref wo, .int (nI ho), .int (nI un)], kGd G rg 12 (oA 12 ra), kGd G pg 12 (oA 12 pa), kH G rr 2 (oR e0 e1), kGd G e0 (vT w0) (oA (vT w0) qa), kGd G e1 (vT w1) (oA (vT w1) qb), kC G sp 2 (nR (w2 (vS w0) (vS w1))), kC G ot 2 (nR (w2 (vO w0) (vO w1))), kC G wo 8 (nR bf)] ++ sT G ra pa qa qb (rugF w0 w1) (planF w0 w1) (vT w0) (runF w0) (vT w1) (runF w1)) (kQi G ([kO o 4 [.ref rg, .ref pg, .ref rr, .ref sp, .ref ot, .ref wo, .int (nI ho), .int (nI un)], kGd G rg 12 (oA 12 ra), kGd G pg 12 (oA 12 pa), kH G rr 2 (oR e0 e1), kGd G e0 (vT w0) (oA (vT w0) qa), kGd G e1 (vT w1) (oA (vT w1) qb), kC G sp 2 (nR (w2 (vS w0) (vS w1))), kC G ot 2 (nR (w2 (vO w0) (vO w1))), kC G wo 8 (nR bf)] ++ sT G ra pa qa qb (rugF w0 w1) (planF w0 w1) (vT w0) (runF w0) (vT w1) (runF w1)) (fun (r : Int32) (_ : Unit) => (r = nI 1 ∧ (vT w0 = 0 ∨ vM w0 = 60)) ∨ (r = nI 0 ∧ ¬ (vT w0 = 0 ∨ vM w0 = 60))) (fun (_ : Unit) => ([kO o 4 [.ref rg, .ref pg, .ref rr, .ref sp, .ref ot, .ref wo, .int (nI ho), .int (nI un)], kGd G rg 12 (oA 12 ra), kGd G pg 12 (oA 12 pa), kH G rr 2 (oR e0 e1), kGd G e0 (vT w0) (oA (vT w0) qa), kGd G e1 (vT w1) (oA (vT w1) qb), kC G sp 2 (nR (w2 (vS w0) (vS w1))), kC G ot 2 (nR (w2 (vO w0) (vO w1))), kC G wo 8 (nR bf)] ++ sT G ra pa qa qb (rugF w0 w1) (planF w0 w1) (vT w0) (runF w0) (vT w1) (runF w1)))) := by
  refine k_ofW (cc := cX4_isDone) (maxL := 2) (rt := (some .boolean)) (by decide) rfl (Nat.le_of_ble_eq_true rfl) ?_
  intro p e s m args below meth c A ls Qs H locs hQ hAe hx hb hr hml hts hown hlocks hin hK hZ hP hD hS hA hl
  have hown : s.vm.findClass RX4 = some m.cls := hown
  have hl : lv_has ls 2 [(0, .ref o), (1, .int (nI 0))] := hl
  have m0b : vM w0 ≤ 60 := h0.2.2.2.1
  have m1b : vM w1 ≤ 60 := h1.2.2.2.1
  have t0b : vT w0 ≤ 20 := h0.2.2.1
  have t1b : vT w1 ≤ 20 := h1.2.2.1
  have pb0 : ∀ i, i < 60 → vP w0 i < 8 := h0.2.2.2.2.1
  have pb1 : ∀ i, i < 60 → vP w1 i < 8 := h1.2.2.2.2.1
  have kb0 : ∀ i, i < 60 → vK w0 i < 8 := h0.2.2.2.2.2.1
  have kb1 : ∀ i, i < 60 → vK w1 i < 8 := h1.2.2.2.2.2.1
  have cb0 : ∀ i, i < vT w0 → vC w0 i < 8 := h0.2.2.2.2.2.2.1
  have cb1 : ∀ i, i < vT w1 → vC w1 i < 8 := h1.2.2.2.2.2.2.1
  have nb0 : ∀ i, i < vT w0 → 1 ≤ vN w0 i ∧ vN w0 i ≤ 60 := h0.2.2.2.2.2.2.2
  have nb1 : ∀ i, i < vT w1 → 1 ≤ vN w1 i ∧ vN w1 i ≤ 60 := h1.2.2.2.2.2.2.2
  have sb0 : vS w0 ≤ 6 := h0.2.1
  have sb1 : vS w1 ≤ 6 := h1.2.1
  have hq_0 : ∀ w ∈ wsX40, w ∈ wsX4_isDone := by decide +kernel
  have hq_1 : (Cond.fieldLink RX4 19 "KnotRugsLaw$Sim" "runs" "[[[I").before args s = true := hts _ (by decide +kernel)
  refine lv_aload_n hx hb dX4_isDone_0 rfl (lv_at hl 0 rfl) ?_
  refine va_get (D := G.1) (ci := 4) (v := .ref rr) (C := RX4) (T := TX4) (N := 8) hx hb hts hq_0 hown hK.1 hP 0 rfl rfl 2 (by decide) hq_1 (fun _ h9 => h9) rfl dX4_isDone_1 ?_
  refine lv_iload_n hx hb dX4_isDone_4 rfl (lv_at hl 1 rfl) ?_
  refine k_ald3 hx hb hK hP 3 0 rfl (vp_in_nI (n := 0) (by decide) (by decide)) (by decide) rfl dX4_isDone_5 ?_
  refine va_alen (D := G.1) (v := nI (vT w0)) hx hb hK.1 hP 4 2 rfl rfl rfl dX4_isDone_6 ?_
  refine lv_if_eq (tgt := 20) hx hb dX4_isDone_7 (by decide) (fun c_7 => ?_) (fun c_7 => ?_)
  · have c_7 : (vT w0) = 0 := (k_eq0 (a := (vT w0)) (by omega)).mp c_7
    refine lv_iconst (v := nI 1) hx hb dX4_isDone_20 (by decide) ?_
    refine lv_goto (tgt := 25) hx hb dX4_isDone_21 (by decide) ?_
    exact k_zret (ws := ([kO o 4 [.ref rg, .ref pg, .ref rr, .ref sp, .ref ot, .ref wo, .int (nI ho), .int (nI un)], kGd G rg 12 (oA 12 ra), kGd G pg 12 (oA 12 pa), kH G rr 2 (oR e0 e1), kGd G e0 (vT w0) (oA (vT w0) qa), kGd G e1 (vT w1) (oA (vT w1) qb), kC G sp 2 (nR (w2 (vS w0) (vS w1))), kC G ot 2 (nR (w2 (vO w0) (vO w1))), kC G wo 8 (nR bf)] ++ sT G ra pa qa qb (rugF w0 w1) (planF w0 w1) (vT w0) (runF w0) (vT w1) (runF w1))) (()) hx hb hr rfl hlocks hP hD hS hAe hQ (Nat.le_of_ble_eq_true rfl) (Nat.le_of_ble_eq_true rfl) dX4_isDone_25 (rfl) (Or.inl ⟨rfl, by omega⟩)
  · have c_7 : ¬ ((vT w0) = 0) := fun h9 => c_7 ((k_eq0 (a := (vT w0)) (by omega)).mpr h9)
    refine lv_aload_n hx hb dX4_isDone_10 rfl (lv_at hl 0 rfl) ?_
    refine lv_iload_n hx hb dX4_isDone_11 rfl (lv_at hl 1 rfl) ?_
    refine k_callPi (wfx := fun _ => [kO o 4 [.ref rg, .ref pg, .ref rr, .ref sp, .ref ot, .ref wo, .int (nI ho), .int (nI un)], kGd G rg 12 (oA 12 ra), kGd G pg 12 (oA 12 pa), kH G rr 2 (oR e0 e1), kGd G e0 (vT w0) (oA (vT w0) qa), kGd G e1 (vT w1) (oA (vT w1) qb), kC G sp 2 (nR (w2 (vS w0) (vS w1))), kC G ot 2 (nR (w2 (vO w0) (vO w1))), kC G wo 8 (nR bf)]) (wfp := fun _ => sT G ra pa qa qb (rugF w0 w1) (planF w0 w1) (vT w0) (runF w0) (vT w1) (runF w1)) (fun _ => [kO o 4 [.ref rg, .ref pg, .ref rr, .ref sp, .ref ot, .ref wo, .int (nI ho), .int (nI un)], kGd G rg 12 (oA 12 ra), kGd G pg 12 (oA 12 pa), kH G rr 2 (oR e0 e1), kGd G e0 (vT w0) (oA (vT w0) qa), kGd G e1 (vT w1) (oA (vT w1) qb), kC G sp 2 (nR (w2 (vS w0) (vS w1))), kC G ot 2 (nR (w2 (vO w0) (vO w1))), kC G wo 8 (nR bf)]) [] (k_runVP (As := [.int (nI 0)]) (rest := []) (cx := [kO o 4 [.ref rg, .ref pg, .ref rr, .ref sp, .ref ot, .ref wo, .int (nI ho), .int (nI un)], kGd G rg 12 (oA 12 ra), kGd G pg 12 (oA 12 pa), kH G rr 2 (oR e0 e1), kGd G e0 (vT w0) (oA (vT w0) qa), kGd G e1 (vT w1) (oA (vT w1) qb), kC G sp 2 (nR (w2 (vS w0) (vS w1))), kC G ot 2 (nR (w2 (vO w0) (vO w1))), kC G wo 8 (nR bf)]) ⟨hx, hb, hml, hown, hts⟩ (s_knots0 l G o rg pg rr e0 e1 sp ot wo ra pa qa qb w0 w1 bf ho un h0 h1 hB) (cwV 1 hts gX4_isDone_X4_knots rfl rfl rfl (by decide +kernel) ⟨Nat.le_of_ble_eq_true rfl, Nat.le_of_ble_eq_true rfl⟩) hK hZ hP hD hS hA [0, 1, 2, 3, 4, 5, 6, 7, 8] rfl rfl 0 4 rfl rfl rfl rfl hl.1 rfl (Nat.le_of_ble_eq_true rfl) dX4_isDone_12 ⟨(Nat.le_of_ble_eq_true rfl), (Nat.le_of_ble_eq_true rfl)⟩) hP hD hS hA [0, 1, 2, 3, 4, 5, 6, 7, 8] [] [0, 1, 2, 3, 4, 5, 6, 7, 8] rfl rfl rfl (by decide) (fun _ => rfl) rfl (fun r_12 u_12 H locs hp_12 hP hD hS => ?_)
    have hp_12 : r_12 = nI (vM w0) := hp_12
    subst hp_12
    refine lv_bipush (v := nI 60) hx hb dX4_isDone_15 (by decide) ?_
    refine lv_icmp_ne (tgt := 24) hx hb dX4_isDone_17 (by decide) (fun c_17 => ?_) (fun c_17 => ?_)
    · have c_17 : ¬ ((vM w0) = 60) := fun h9 => c_17 ((nI_eq (a := (vM w0)) (b := 60) (by omega) (by omega)).mpr h9)
      refine lv_iconst (v := nI 0) hx hb dX4_isDone_24 (by decide) ?_
      exact k_zret (ws := ([kO o 4 [.ref rg, .ref pg, .ref rr, .ref sp, .ref ot, .ref wo, .int (nI ho), .int (nI un)], kGd G rg 12 (oA 12 ra), kGd G pg 12 (oA 12 pa), kH G rr 2 (oR e0 e1), kGd G e0 (vT w0) (oA (vT w0) qa), kGd G e1 (vT w1) (oA (vT w1) qb), kC G sp 2 (nR (w2 (vS w0) (vS w1))), kC G ot 2 (nR (w2 (vO w0) (vO w1))), kC G wo 8 (nR bf)] ++ sT G ra pa qa qb (rugF w0 w1) (planF w0 w1) (vT w0) (runF w0) (vT w1) (runF w1))) (()) hx hb hr rfl hlocks hP hD hS hAe hQ (Nat.le_of_ble_eq_true rfl) (Nat.le_of_ble_eq_true rfl) dX4_isDone_25 (rfl) (Or.inr ⟨rfl, by omega⟩)
    · have c_17 : (vM w0) = 60 := (nI_eq (a := (vM w0)) (b := 60) (by omega) (by omega)).mp c_17
      refine lv_iconst (v := nI 1) hx hb dX4_isDone_20 (by decide) ?_
      refine lv_goto (tgt := 25) hx hb dX4_isDone_21 (by decide) ?_
      exact k_zret (ws := ([kO o 4 [.ref rg, .ref pg, .ref rr, .ref sp, .ref ot, .ref wo, .int (nI ho), .int (nI un)], kGd G rg 12 (oA 12 ra), kGd G pg 12 (oA 12 pa), kH G rr 2 (oR e0 e1), kGd G e0 (vT w0) (oA (vT w0) qa), kGd G e1 (vT w1) (oA (vT w1) qb), kC G sp 2 (nR (w2 (vS w0) (vS w1))), kC G ot 2 (nR (w2 (vO w0) (vO w1))), kC G wo 8 (nR bf)] ++ sT G ra pa qa qb (rugF w0 w1) (planF w0 w1) (vT w0) (runF w0) (vT w1) (runF w1))) (()) hx hb hr rfl hlocks hP hD hS hAe hQ (Nat.le_of_ble_eq_true rfl) (Nat.le_of_ble_eq_true rfl) dX4_isDone_25 (rfl) (Or.inl ⟨rfl, by omega⟩)
set_option maxHeartbeats 4000000 in
set_option maxRecDepth 100000 in
theorem s_knots1 (l : Launch) (G : kG) (o : Nat) (rg : Nat) (pg : Nat) (rr : Nat) (e0 : Nat) (e1 : Nat) (sp : Nat) (ot : Nat) (wo : Nat) (ra : Nat → Nat) (pa : Nat → Nat) (qa : Nat → Nat) (qb : Nat → Nat) (w0 : Wv) (w1 : Wv) (bf : Nat → Nat) (ho : Nat) (un : Nat) (h0 : wOk w0) (h1 : wOk w1) (hB : bOk bf) : kM l G yX4_knots wsX4_knots ({ frames := 1, cells := 0, slots := 0, locals := 21 } : Room) [.ref o, .int (nI 1)] ([kO o 4 [.ref rg, .ref pg, .ref rr, .ref sp, .ref ot, .ref wo, .int (nI ho), .int (nI un)], kGd G rg 12 (oA 12 ra), kGd G pg 12 (oA 12 pa), kH G rr 2 (oR e0 e1), kGd G e0 (vT w0) (oA (vT w0) qa), kGd G e1 (vT w1) (oA (vT w1) qb), kC G sp 2 (nR (w2 (vS w0) (vS w1))), kC G ot 2 (nR (w2 (vO w0) (vO w1))), kC G wo 8 (nR bf)] ++ sT G ra pa qa qb (rugF w0 w1) (planF w0 w1) (vT w0) (runF w0) (vT w1) (runF w1)) (kQi G ([kO o 4 [.ref rg, .ref pg, .ref rr, .ref sp, .ref ot, .ref wo, .int (nI ho), .int (nI un)], kGd G rg 12 (oA 12 ra), kGd G pg 12 (oA 12 pa), kH G rr 2 (oR e0 e1), kGd G e0 (vT w0) (oA (vT w0) qa), kGd G e1 (vT w1) (oA (vT w1) qb), kC G sp 2 (nR (w2 (vS w0) (vS w1))), kC G ot 2 (nR (w2 (vO w0) (vO w1))), kC G wo 8 (nR bf)] ++ sT G ra pa qa qb (rugF w0 w1) (planF w0 w1) (vT w0) (runF w0) (vT w1) (runF w1)) (fun (r : Int32) (_ : Unit) => r = nI (vM w1)) (fun (_ : Unit) => ([kO o 4 [.ref rg, .ref pg, .ref rr, .ref sp, .ref ot, .ref wo, .int (nI ho), .int (nI un)], kGd G rg 12 (oA 12 ra), kGd G pg 12 (oA 12 pa), kH G rr 2 (oR e0 e1), kGd G e0 (vT w0) (oA (vT w0) qa), kGd G e1 (vT w1) (oA (vT w1) qb), kC G sp 2 (nR (w2 (vS w0) (vS w1))), kC G ot 2 (nR (w2 (vO w0) (vO w1))), kC G wo 8 (nR bf)] ++ sT G ra pa qa qb (rugF w0 w1) (planF w0 w1) (vT w0) (runF w0) (vT w1) (runF w1)))) := by
  refine k_ofW (cc := cX4_knots) (maxL := 3) (rt := (some .int)) (by decide) rfl (Nat.le_of_ble_eq_true rfl) ?_
  intro p e s m args below meth c A ls Qs H locs hQ hAe hx hb hr hml hts hown hlocks hin hK hZ hP hD hS hA hl
  have hown : s.vm.findClass RX4 = some m.cls := hown
  have hl : lv_has ls 3 [(0, .ref o), (1, .int (nI 1))] := hl
  have m0b : vM w0 ≤ 60 := h0.2.2.2.1
  have m1b : vM w1 ≤ 60 := h1.2.2.2.1
  have t0b : vT w0 ≤ 20 := h0.2.2.1
  have t1b : vT w1 ≤ 20 := h1.2.2.1
  have pb0 : ∀ i, i < 60 → vP w0 i < 8 := h0.2.2.2.2.1
  have pb1 : ∀ i, i < 60 → vP w1 i < 8 := h1.2.2.2.2.1
  have kb0 : ∀ i, i < 60 → vK w0 i < 8 := h0.2.2.2.2.2.1
  have kb1 : ∀ i, i < 60 → vK w1 i < 8 := h1.2.2.2.2.2.1
  have cb0 : ∀ i, i < vT w0 → vC w0 i < 8 := h0.2.2.2.2.2.2.1
  have cb1 : ∀ i, i < vT w1 → vC w1 i < 8 := h1.2.2.2.2.2.2.1
  have nb0 : ∀ i, i < vT w0 → 1 ≤ vN w0 i ∧ vN w0 i ≤ 60 := h0.2.2.2.2.2.2.2
  have nb1 : ∀ i, i < vT w1 → 1 ≤ vN w1 i ∧ vN w1 i ≤ 60 := h1.2.2.2.2.2.2.2
  have sb0 : vS w0 ≤ 6 := h0.2.1
  have sb1 : vS w1 ≤ 6 := h1.2.1
  have hq_0 : ∀ w ∈ wsX40, w ∈ wsX4_knots := by decide +kernel
  have hq_1 : (Cond.fieldLink RX4 9 "KnotRugsLaw$Sim" "rug" "[[I").before args s = true := hts _ (by decide +kernel)
  refine lv_iconst (v := nI 0) hx hb dX4_knots_0 (by decide) ?_
  refine lv_istore_n (lv' := [(2, .int (nI 0)), (0, .ref o), (1, .int (nI 1))]) hx hb dX4_knots_1 rfl hl (by decide) rfl (fun ls hl => ?_)
  have loop_2 : ∀ (fu_2 : Nat) (k : Nat), k ≤ vM w1 → vM w1 < k + fu_2 → ∀ (H : Heap) (locs : List Loc) (ls : Array Slot), va_P G.1 vwCl ([kO o 4 [.ref rg, .ref pg, .ref rr, .ref sp, .ref ot, .ref wo, .int (nI ho), .int (nI un)], kGd G rg 12 (oA 12 ra), kGd G pg 12 (oA 12 pa), kH G rr 2 (oR e0 e1), kGd G e0 (vT w0) (oA (vT w0) qa), kGd G e1 (vT w1) (oA (vT w1) qb), kC G sp 2 (nR (w2 (vS w0) (vS w1))), kC G ot 2 (nR (w2 (vO w0) (vO w1))), kC G wo 8 (nR bf)] ++ sT G ra pa qa qb (rugF w0 w1) (planF w0 w1) (vT w0) (runF w0) (vT w1) (runF w1)) H → va_D A ([kO o 4 [.ref rg, .ref pg, .ref rr, .ref sp, .ref ot, .ref wo, .int (nI ho), .int (nI un)], kGd G rg 12 (oA 12 ra), kGd G pg 12 (oA 12 pa), kH G rr 2 (oR e0 e1), kGd G e0 (vT w0) (oA (vT w0) qa), kGd G e1 (vT w1) (oA (vT w1) qb), kC G sp 2 (nR (w2 (vS w0) (vS w1))), kC G ot 2 (nR (w2 (vO w0) (vO w1))), kC G wo 8 (nR bf)] ++ sT G ra pa qa qb (rugF w0 w1) (planF w0 w1) (vT w0) (runF w0) (vT w1) (runF w1)) → va_S A s.heap H locs → lv_has ls 3 [(0, .ref o), (1, .int (nI 1)), (2, .int (nI k))] → W p l e ({ frames := 1, cells := 0, slots := 0, locals := 21 } : Room) s m args below meth c H locs 0 0 Qs (F0 m 2 ls []) := by
    intro fu_2
    induction fu_2 with
    | zero =>
      intro k hk hf
      exact absurd hf (by omega)
    | succ fu_2 ih_2 =>
      intro k hk hf H locs ls hP hD hS hl
      refine lv_iload_n hx hb dX4_knots_2 rfl (lv_at hl 2 rfl) ?_
      refine lv_bipush (v := nI 60) hx hb dX4_knots_3 (by decide) ?_
      refine lv_icmp_ge (tgt := 32) hx hb dX4_knots_5 (by decide) (fun c_5 => ?_) (fun c_5 => ?_)
      · have c_5 : 60 ≤ k := (nI_leI (a := 60) (b := k) (by omega) (by omega)).mp c_5
        have hk9 : k = vM w1 := by omega
        refine lv_iload_n hx hb dX4_knots_32 rfl (lv_at hl 2 rfl) ?_
        exact k_iret (ws := ([kO o 4 [.ref rg, .ref pg, .ref rr, .ref sp, .ref ot, .ref wo, .int (nI ho), .int (nI un)], kGd G rg 12 (oA 12 ra), kGd G pg 12 (oA 12 pa), kH G rr 2 (oR e0 e1), kGd G e0 (vT w0) (oA (vT w0) qa), kGd G e1 (vT w1) (oA (vT w1) qb), kC G sp 2 (nR (w2 (vS w0) (vS w1))), kC G ot 2 (nR (w2 (vO w0) (vO w1))), kC G wo 8 (nR bf)] ++ sT G ra pa qa qb (rugF w0 w1) (planF w0 w1) (vT w0) (runF w0) (vT w1) (runF w1))) (()) hx hb hr hlocks hP hD hS hAe hQ (Nat.le_of_ble_eq_true rfl) (Nat.le_of_ble_eq_true rfl) dX4_knots_33 (rfl) (by rw [hk9])
      · have c_5 : ¬ (60 ≤ k) := fun h9 => c_5 ((nI_leI (a := 60) (b := k) (by omega) (by omega)).mpr h9)
        refine lv_aload_n hx hb dX4_knots_8 rfl (lv_at hl 0 rfl) ?_
        refine va_get (D := G.1) (ci := 4) (v := .ref rg) (C := RX4) (T := TX4) (N := 8) hx hb hts hq_0 hown hK.1 hP 0 rfl rfl 0 (by decide) hq_1 (fun _ h9 => h9) rfl dX4_knots_9 ?_
        refine lv_iload_n hx hb dX4_knots_12 rfl (lv_at hl 1 rfl) ?_
        refine lv_iload_n hx hb dX4_knots_13 rfl (lv_at hl 2 rfl) ?_
        refine k_callQi (wfx := fun _ => []) (fun _ => [kO o 4 [.ref rg, .ref pg, .ref rr, .ref sp, .ref ot, .ref wo, .int (nI ho), .int (nI un)], kGd G rg 12 (oA 12 ra), kGd G pg 12 (oA 12 pa), kH G rr 2 (oR e0 e1), kGd G e0 (vT w0) (oA (vT w0) qa), kGd G e1 (vT w1) (oA (vT w1) qb), kC G sp 2 (nR (w2 (vS w0) (vS w1))), kC G ot 2 (nR (w2 (vO w0) (vO w1))), kC G wo 8 (nR bf)]) [kO o 4 [.ref rg, .ref pg, .ref rr, .ref sp, .ref ot, .ref wo, .int (nI ho), .int (nI un)], kGd G rg 12 (oA 12 ra), kGd G pg 12 (oA 12 pa), kH G rr 2 (oR e0 e1), kGd G e0 (vT w0) (oA (vT w0) qa), kGd G e1 (vT w1) (oA (vT w1) qb), kC G sp 2 (nR (w2 (vS w0) (vS w1))), kC G ot 2 (nR (w2 (vO w0) (vO w1))), kC G wo 8 (nR bf)] (k_runS (As := [.int (nI 1), .int (nI k)]) (rest := [.ref rg]) (wc := []) ⟨hx, hb, hml, hown, hts⟩ (s_x1 l G k (by omega)) (va_cwS 2 hts gX4_knots_X4_x rfl rfl rfl (by decide +kernel) ⟨Nat.le_of_ble_eq_true rfl, Nat.le_of_ble_eq_true rfl⟩) hK hZ hP hD hS hA [] rfl rfl rfl hl.1 rfl (Nat.le_of_ble_eq_true rfl) dX4_knots_14 ⟨(Nat.le_of_ble_eq_true rfl), (Nat.le_of_ble_eq_true rfl)⟩) hP hD hS hA [] [0, 1, 2, 3, 4, 5, 6, 7, 8] [0, 1, 2, 3, 4, 5, 6, 7, 8] rfl rfl rfl rfl (by decide) (fun _ => rfl) rfl (fun r_14 u_14 H locs hp_14 hP hD hS => ?_)
        have hp_14 : r_14 = nI (colOf 1 k) := hp_14
        subst hp_14
        have hi_1 : (colOf 1 k) < 12 := colOf_lt
        refine k_aldg hx hb hK hP 1 (colOf 1 k) rfl (vp_in_nI hi_1 (by omega)) (nI_clamp (Nat.lt_of_lt_of_le hi_1 (by omega))) (oA_at hi_1) dX4_knots_17 ?_
        refine lv_iload_n hx hb dX4_knots_18 rfl (lv_at hl 2 rfl) ?_
        refine lv_bipush (v := nI 6) hx hb dX4_knots_19 (by decide) ?_
        refine lv_idiv hx hb dX4_knots_21 (by first | decide | (intro h; exact absurd ((nI_eq (by omega) (by omega)).mp h) (by omega))) ?_
        refine lv_topi (fun y_2 hy_2 => ?_)
        obtain rfl : y_2 = nI (k / 6) := hy_2.trans (pk_div (a := k) (d := 6) (by omega) (by omega) (by omega))
        have hi_3 : (k / 6) < 10 := by omega
        refine va_iald (D := G.1) hx hb hK.1 hP _ 0 (sT_r (i := (colOf 1 k)) colOf_lt) rfl (vp_in_nI hi_3 (by omega)) dX4_knots_22 ?_
        refine lv_topi (fun y_4 hy_4 => ?_)
        obtain rfl : y_4 = (rugF w0 w1) (colOf 1 k) (k / 6) := hy_4.trans (congrArg _ (nI_clamp (by omega)))
        refine lv_topi (fun y_5 hy_5 => ?_)
        obtain rfl : y_5 = kaW w1 k := hy_5.trans (rug_c1 (by omega))
        refine lv_if_lt (tgt := 32) hx hb dX4_knots_23 (by decide) (fun c_23 => ?_) (fun c_23 => ?_)
        · have hk9 : k = vM w1 := by have := (kaW_iff h1 (by omega)).mp c_23; omega
          refine lv_iload_n hx hb dX4_knots_32 rfl (lv_at hl 2 rfl) ?_
          exact k_iret (ws := ([kO o 4 [.ref rg, .ref pg, .ref rr, .ref sp, .ref ot, .ref wo, .int (nI ho), .int (nI un)], kGd G rg 12 (oA 12 ra), kGd G pg 12 (oA 12 pa), kH G rr 2 (oR e0 e1), kGd G e0 (vT w0) (oA (vT w0) qa), kGd G e1 (vT w1) (oA (vT w1) qb), kC G sp 2 (nR (w2 (vS w0) (vS w1))), kC G ot 2 (nR (w2 (vO w0) (vO w1))), kC G wo 8 (nR bf)] ++ sT G ra pa qa qb (rugF w0 w1) (planF w0 w1) (vT w0) (runF w0) (vT w1) (runF w1))) (()) hx hb hr hlocks hP hD hS hAe hQ (Nat.le_of_ble_eq_true rfl) (Nat.le_of_ble_eq_true rfl) dX4_knots_33 (rfl) (by rw [hk9])
        · have hk8 : k < vM w1 := Classical.byContradiction (fun q => c_23 ((kaW_iff h1 (by omega)).mpr q))
          refine lv_iinc (v := nI (k + 1)) (lv' := [(2, .int (nI (k + 1))), (0, .ref o), (1, .int (nI 1))]) hx hb dX4_knots_26 hl (k := 2) rfl (nI_add k 1) (by decide) rfl (fun ls hl => ?_)
          refine lv_goto (tgt := 2) hx hb dX4_knots_29 (by decide) ?_
          exact ih_2 (k + 1) (by omega) (by omega) _ _ _ hP hD hS (lv_sub hl [1, 2, 0] rfl)
  exact loop_2 (vM w1 + 1) 0 (by omega) (by omega) H locs ls hP hD hS (lv_sub hl [1, 2, 0] rfl)
set_option maxHeartbeats 4000000 in
set_option maxRecDepth 100000 in
theorem s_told1 (l : Launch) (G : kG) (o : Nat) (rg : Nat) (pg : Nat) (rr : Nat) (e0 : Nat) (e1 : Nat) (sp : Nat) (ot : Nat) (wo : Nat) (ra : Nat → Nat) (pa : Nat → Nat) (qa : Nat → Nat) (qb : Nat → Nat) (w0 : Wv) (w1 : Wv) (bf : Nat → Nat) (ho : Nat) (un : Nat) (h0 : wOk w0) (h1 : wOk w1) (hB : bOk bf) : kM l G yX4_told wsX4_told ({ frames := 0, cells := 0, slots := 0, locals := 0 } : Room) [.ref o, .int (nI 1)] ([kO o 4 [.ref rg, .ref pg, .ref rr, .ref sp, .ref ot, .ref wo, .int (nI ho), .int (nI un)], kGd G rg 12 (oA 12 ra), kGd G pg 12 (oA 12 pa), kH G rr 2 (oR e0 e1), kGd G e0 (vT w0) (oA (vT w0) qa), kGd G e1 (vT w1) (oA (vT w1) qb), kC G sp 2 (nR (w2 (vS w0) (vS w1))), kC G ot 2 (nR (w2 (vO w0) (vO w1))), kC G wo 8 (nR bf)] ++ sT G ra pa qa qb (rugF w0 w1) (planF w0 w1) (vT w0) (runF w0) (vT w1) (runF w1)) (kQi G ([kO o 4 [.ref rg, .ref pg, .ref rr, .ref sp, .ref ot, .ref wo, .int (nI ho), .int (nI un)], kGd G rg 12 (oA 12 ra), kGd G pg 12 (oA 12 pa), kH G rr 2 (oR e0 e1), kGd G e0 (vT w0) (oA (vT w0) qa), kGd G e1 (vT w1) (oA (vT w1) qb), kC G sp 2 (nR (w2 (vS w0) (vS w1))), kC G ot 2 (nR (w2 (vO w0) (vO w1))), kC G wo 8 (nR bf)] ++ sT G ra pa qa qb (rugF w0 w1) (planF w0 w1) (vT w0) (runF w0) (vT w1) (runF w1)) (fun (r : Int32) (_ : Unit) => r = nI (sumN (vN w1) (vT w1))) (fun (_ : Unit) => ([kO o 4 [.ref rg, .ref pg, .ref rr, .ref sp, .ref ot, .ref wo, .int (nI ho), .int (nI un)], kGd G rg 12 (oA 12 ra), kGd G pg 12 (oA 12 pa), kH G rr 2 (oR e0 e1), kGd G e0 (vT w0) (oA (vT w0) qa), kGd G e1 (vT w1) (oA (vT w1) qb), kC G sp 2 (nR (w2 (vS w0) (vS w1))), kC G ot 2 (nR (w2 (vO w0) (vO w1))), kC G wo 8 (nR bf)] ++ sT G ra pa qa qb (rugF w0 w1) (planF w0 w1) (vT w0) (runF w0) (vT w1) (runF w1)))) := by
  refine k_ofW (cc := cX4_told) (maxL := 7) (rt := (some .int)) (by decide) rfl (Nat.le_of_ble_eq_true rfl) ?_
  intro p e s m args below meth c A ls Qs H locs hQ hAe hx hb hr hml hts hown hlocks hin hK hZ hP hD hS hA hl
  have hown : s.vm.findClass RX4 = some m.cls := hown
  have hl : lv_has ls 7 [(0, .ref o), (1, .int (nI 1))] := hl
  have m0b : vM w0 ≤ 60 := h0.2.2.2.1
  have m1b : vM w1 ≤ 60 := h1.2.2.2.1
  have t0b : vT w0 ≤ 20 := h0.2.2.1
  have t1b : vT w1 ≤ 20 := h1.2.2.1
  have pb0 : ∀ i, i < 60 → vP w0 i < 8 := h0.2.2.2.2.1
  have pb1 : ∀ i, i < 60 → vP w1 i < 8 := h1.2.2.2.2.1
  have kb0 : ∀ i, i < 60 → vK w0 i < 8 := h0.2.2.2.2.2.1
  have kb1 : ∀ i, i < 60 → vK w1 i < 8 := h1.2.2.2.2.2.1
  have cb0 : ∀ i, i < vT w0 → vC w0 i < 8 := h0.2.2.2.2.2.2.1
  have cb1 : ∀ i, i < vT w1 → vC w1 i < 8 := h1.2.2.2.2.2.2.1
  have nb0 : ∀ i, i < vT w0 → 1 ≤ vN w0 i ∧ vN w0 i ≤ 60 := h0.2.2.2.2.2.2.2
  have nb1 : ∀ i, i < vT w1 → 1 ≤ vN w1 i ∧ vN w1 i ≤ 60 := h1.2.2.2.2.2.2.2
  have sb0 : vS w0 ≤ 6 := h0.2.1
  have sb1 : vS w1 ≤ 6 := h1.2.1
  have hq_0 : ∀ w ∈ wsX40, w ∈ wsX4_told := by decide +kernel
  have hq_1 : (Cond.fieldLink RX4 19 "KnotRugsLaw$Sim" "runs" "[[[I").before args s = true := hts _ (by decide +kernel)
  refine lv_iconst (v := nI 0) hx hb dX4_told_0 (by decide) ?_
  refine lv_istore_n (lv' := [(2, .int (nI 0)), (0, .ref o), (1, .int (nI 1))]) hx hb dX4_told_1 rfl hl (by decide) rfl (fun ls hl => ?_)
  refine lv_aload_n hx hb dX4_told_2 rfl (lv_at hl 1 rfl) ?_
  refine va_get (D := G.1) (ci := 4) (v := .ref rr) (C := RX4) (T := TX4) (N := 8) hx hb hts hq_0 hown hK.1 hP 0 rfl rfl 2 (by decide) hq_1 (fun _ h9 => h9) rfl dX4_told_3 ?_
  refine lv_iload_n hx hb dX4_told_6 rfl (lv_at hl 2 rfl) ?_
  refine k_ald3 hx hb hK hP 3 1 rfl (vp_in_nI (n := 1) (by decide) (by decide)) (by decide) rfl dX4_told_7 ?_
  refine lv_astore_n (lv' := [(3, .ref e1), (2, .int (nI 0)), (0, .ref o), (1, .int (nI 1))]) hx hb dX4_told_8 rfl hl (by decide) rfl (fun ls hl => ?_)
  refine lv_aload_n hx hb dX4_told_9 rfl (lv_at hl 0 rfl) ?_
  refine va_alen (D := G.1) (v := nI (vT w1)) hx hb hK.1 hP 5 2 rfl rfl rfl dX4_told_10 ?_
  refine lv_istore (lv' := [(4, .int (nI (vT w1))), (3, .ref e1), (2, .int (nI 0)), (0, .ref o), (1, .int (nI 1))]) hx hb dX4_told_11 hl (by decide) rfl (fun ls hl => ?_)
  refine lv_iconst (v := nI 0) hx hb dX4_told_13 (by decide) ?_
  refine lv_istore (lv' := [(5, .int (nI 0)), (4, .int (nI (vT w1))), (3, .ref e1), (2, .int (nI 0)), (0, .ref o), (1, .int (nI 1))]) hx hb dX4_told_14 hl (by decide) rfl (fun ls hl => ?_)
  have loop_16 : ∀ (fu_16 : Nat) (i : Nat), i ≤ vT w1 → vT w1 < i + fu_16 → ∀ (H : Heap) (locs : List Loc) (ls : Array Slot), va_P G.1 vwCl ([kO o 4 [.ref rg, .ref pg, .ref rr, .ref sp, .ref ot, .ref wo, .int (nI ho), .int (nI un)], kGd G rg 12 (oA 12 ra), kGd G pg 12 (oA 12 pa), kH G rr 2 (oR e0 e1), kGd G e0 (vT w0) (oA (vT w0) qa), kGd G e1 (vT w1) (oA (vT w1) qb), kC G sp 2 (nR (w2 (vS w0) (vS w1))), kC G ot 2 (nR (w2 (vO w0) (vO w1))), kC G wo 8 (nR bf)] ++ sT G ra pa qa qb (rugF w0 w1) (planF w0 w1) (vT w0) (runF w0) (vT w1) (runF w1)) H → va_D A ([kO o 4 [.ref rg, .ref pg, .ref rr, .ref sp, .ref ot, .ref wo, .int (nI ho), .int (nI un)], kGd G rg 12 (oA 12 ra), kGd G pg 12 (oA 12 pa), kH G rr 2 (oR e0 e1), kGd G e0 (vT w0) (oA (vT w0) qa), kGd G e1 (vT w1) (oA (vT w1) qb), kC G sp 2 (nR (w2 (vS w0) (vS w1))), kC G ot 2 (nR (w2 (vO w0) (vO w1))), kC G wo 8 (nR bf)] ++ sT G ra pa qa qb (rugF w0 w1) (planF w0 w1) (vT w0) (runF w0) (vT w1) (runF w1)) → va_S A s.heap H locs → lv_has ls 7 [(0, .ref o), (1, .int (nI 1)), (2, .int (nI (sumN (vN w1) i))), (3, .ref e1), (4, .int (nI (vT w1))), (5, .int (nI i))] → W p l e ({ frames := 0, cells := 0, slots := 0, locals := 0 } : Room) s m args below meth c H locs 0 0 Qs (F0 m 16 ls []) := by
    intro fu_16
    induction fu_16 with
    | zero =>
      intro i hi hf
      exact absurd hf (by omega)
    | succ fu_16 ih_16 =>
      intro i hi hf H locs ls hP hD hS hl
      refine lv_iload hx hb dX4_told_16 (lv_at hl 5 rfl) ?_
      refine lv_iload hx hb dX4_told_18 (lv_at hl 4 rfl) ?_
      refine lv_icmp_ge (tgt := 42) hx hb dX4_told_20 (by decide) (fun c_20 => ?_) (fun c_20 => ?_)
      · have c_20 : (vT w1) ≤ i := (nI_leI (a := (vT w1)) (b := i) (by omega) (by omega)).mp c_20
        have hi9 : i = vT w1 := by omega
        refine lv_iload_n hx hb dX4_told_42 rfl (lv_at hl 2 rfl) ?_
        exact k_iret (ws := ([kO o 4 [.ref rg, .ref pg, .ref rr, .ref sp, .ref ot, .ref wo, .int (nI ho), .int (nI un)], kGd G rg 12 (oA 12 ra), kGd G pg 12 (oA 12 pa), kH G rr 2 (oR e0 e1), kGd G e0 (vT w0) (oA (vT w0) qa), kGd G e1 (vT w1) (oA (vT w1) qb), kC G sp 2 (nR (w2 (vS w0) (vS w1))), kC G ot 2 (nR (w2 (vO w0) (vO w1))), kC G wo 8 (nR bf)] ++ sT G ra pa qa qb (rugF w0 w1) (planF w0 w1) (vT w0) (runF w0) (vT w1) (runF w1))) (()) hx hb hr hlocks hP hD hS hAe hQ (Nat.le_of_ble_eq_true rfl) (Nat.le_of_ble_eq_true rfl) dX4_told_43 (rfl) (by rw [hi9])
      · have c_20 : ¬ ((vT w1) ≤ i) := fun h9 => c_20 ((nI_leI (a := (vT w1)) (b := i) (by omega) (by omega)).mpr h9)
        refine lv_aload_n hx hb dX4_told_23 rfl (lv_at hl 3 rfl) ?_
        refine lv_iload hx hb dX4_told_24 (lv_at hl 5 rfl) ?_
        have hi_1 : i < (vT w1) := by omega
        refine k_aldg hx hb hK hP 5 i rfl (vp_in_nI hi_1 (by omega)) (nI_clamp (Nat.lt_of_lt_of_le hi_1 (by omega))) (oA_at hi_1) dX4_told_26 ?_
        refine lv_astore (lv' := [(6, .ref (qb i)), (0, .ref o), (1, .int (nI 1)), (2, .int (nI (sumN (vN w1) i))), (3, .ref e1), (4, .int (nI (vT w1))), (5, .int (nI i))]) hx hb dX4_told_27 hl (by decide) rfl (fun ls hl => ?_)
        refine lv_iload_n hx hb dX4_told_29 rfl (lv_at hl 3 rfl) ?_
        refine lv_aload hx hb dX4_told_30 (lv_at hl 0 rfl) ?_
        refine lv_iconst (v := nI 1) hx hb dX4_told_32 (by decide) ?_
        have hi_2 : 1 < 2 := by omega
        refine va_iald (D := G.1) hx hb hK.1 hP _ 0 (sT_b (i := i) (by omega)) rfl (vp_in_nI hi_2 (by omega)) dX4_told_33 ?_
        refine lv_topi (fun y_3 hy_3 => ?_)
        obtain rfl : y_3 = (runF w1) i 1 := hy_3.trans (congrArg _ (nI_clamp (by omega)))
        refine lv_topi (fun y_4 hy_4 => ?_)
        obtain rfl : y_4 = nI (vN w1 i) := hy_4.trans (rfl)
        refine lv_iadd hx hb dX4_told_34 ?_
        refine lv_topi (fun y_5 hy_5 => ?_)
        obtain rfl : y_5 = nI ((sumN (vN w1) i) + (vN w1 i)) := hy_5.trans (nI_add (sumN (vN w1) i) (vN w1 i))
        refine lv_istore_n (lv' := [(2, .int (nI ((sumN (vN w1) i) + (vN w1 i)))), (6, .ref (qb i)), (0, .ref o), (1, .int (nI 1)), (3, .ref e1), (4, .int (nI (vT w1))), (5, .int (nI i))]) hx hb dX4_told_35 rfl hl (by decide) rfl (fun ls hl => ?_)
        refine lv_iinc (v := nI (i + 1)) (lv' := [(5, .int (nI (i + 1))), (2, .int (nI ((sumN (vN w1) i) + (vN w1 i)))), (6, .ref (qb i)), (0, .ref o), (1, .int (nI 1)), (3, .ref e1), (4, .int (nI (vT w1)))]) hx hb dX4_told_36 hl (k := 6) rfl (nI_add i 1) (by decide) rfl (fun ls hl => ?_)
        refine lv_goto (tgt := 16) hx hb dX4_told_39 (by decide) ?_
        exact ih_16 (i + 1) (by omega) (by omega) _ _ _ hP hD hS (lv_sub hl [3, 4, 1, 5, 6, 0] rfl)
  exact loop_16 (vT w1 + 1) 0 (by omega) (by omega) H locs ls hP hD hS (lv_sub hl [4, 5, 3, 2, 1, 0] rfl)
set_option maxHeartbeats 4000000 in
set_option maxRecDepth 100000 in
theorem s_isDone1 (l : Launch) (G : kG) (o : Nat) (rg : Nat) (pg : Nat) (rr : Nat) (e0 : Nat) (e1 : Nat) (sp : Nat) (ot : Nat) (wo : Nat) (ra : Nat → Nat) (pa : Nat → Nat) (qa : Nat → Nat) (qb : Nat → Nat) (w0 : Wv) (w1 : Wv) (bf : Nat → Nat) (ho : Nat) (un : Nat) (h0 : wOk w0) (h1 : wOk w1) (hB : bOk bf) : kM l G yX4_isDone wsX4_isDone ({ frames := 2, cells := 0, slots := 0, locals := 43 } : Room) [.ref o, .int (nI 1)] ([kO o 4 [.ref rg, .ref pg, .ref rr, .ref sp, .ref ot, .ref wo, .int (nI ho), .int (nI un)], kGd G rg 12 (oA 12 ra), kGd G pg 12 (oA 12 pa), kH G rr 2 (oR e0 e1), kGd G e0 (vT w0) (oA (vT w0) qa), kGd G e1 (vT w1) (oA (vT w1) qb), kC G sp 2 (nR (w2 (vS w0) (vS w1))), kC G ot 2 (nR (w2 (vO w0) (vO w1))), kC G wo 8 (nR bf)] ++ sT G ra pa qa qb (rugF w0 w1) (planF w0 w1) (vT w0) (runF w0) (vT w1) (runF w1)) (kQi G ([kO o 4 [.ref rg, .ref pg, .ref rr, .ref sp, .ref ot, .ref wo, .int (nI ho), .int (nI un)], kGd G rg 12 (oA 12 ra), kGd G pg 12 (oA 12 pa), kH G rr 2 (oR e0 e1), kGd G e0 (vT w0) (oA (vT w0) qa), kGd G e1 (vT w1) (oA (vT w1) qb), kC G sp 2 (nR (w2 (vS w0) (vS w1))), kC G ot 2 (nR (w2 (vO w0) (vO w1))), kC G wo 8 (nR bf)] ++ sT G ra pa qa qb (rugF w0 w1) (planF w0 w1) (vT w0) (runF w0) (vT w1) (runF w1)) (fun (r : Int32) (_ : Unit) => (r = nI 1 ∧ (vT w1 = 0 ∨ vM w1 = 60)) ∨ (r = nI 0 ∧ ¬ (vT w1 = 0 ∨ vM w1 = 60))) (fun (_ : Unit) => ([kO o 4 [.ref rg, .ref pg, .ref rr, .ref sp, .ref ot, .ref wo, .int (nI ho), .int (nI un)], kGd G rg 12 (oA 12 ra), kGd G pg 12 (oA 12 pa), kH G rr 2 (oR e0 e1), kGd G e0 (vT w0) (oA (vT w0) qa), kGd G e1 (vT w1) (oA (vT w1) qb), kC G sp 2 (nR (w2 (vS w0) (vS w1))), kC G ot 2 (nR (w2 (vO w0) (vO w1))), kC G wo 8 (nR bf)] ++ sT G ra pa qa qb (rugF w0 w1) (planF w0 w1) (vT w0) (runF w0) (vT w1) (runF w1)))) := by
  refine k_ofW (cc := cX4_isDone) (maxL := 2) (rt := (some .boolean)) (by decide) rfl (Nat.le_of_ble_eq_true rfl) ?_
  intro p e s m args below meth c A ls Qs H locs hQ hAe hx hb hr hml hts hown hlocks hin hK hZ hP hD hS hA hl
  have hown : s.vm.findClass RX4 = some m.cls := hown
  have hl : lv_has ls 2 [(0, .ref o), (1, .int (nI 1))] := hl
  have m0b : vM w0 ≤ 60 := h0.2.2.2.1
  have m1b : vM w1 ≤ 60 := h1.2.2.2.1
  have t0b : vT w0 ≤ 20 := h0.2.2.1
  have t1b : vT w1 ≤ 20 := h1.2.2.1
  have pb0 : ∀ i, i < 60 → vP w0 i < 8 := h0.2.2.2.2.1
  have pb1 : ∀ i, i < 60 → vP w1 i < 8 := h1.2.2.2.2.1
  have kb0 : ∀ i, i < 60 → vK w0 i < 8 := h0.2.2.2.2.2.1
  have kb1 : ∀ i, i < 60 → vK w1 i < 8 := h1.2.2.2.2.2.1
  have cb0 : ∀ i, i < vT w0 → vC w0 i < 8 := h0.2.2.2.2.2.2.1
  have cb1 : ∀ i, i < vT w1 → vC w1 i < 8 := h1.2.2.2.2.2.2.1
  have nb0 : ∀ i, i < vT w0 → 1 ≤ vN w0 i ∧ vN w0 i ≤ 60 := h0.2.2.2.2.2.2.2
  have nb1 : ∀ i, i < vT w1 → 1 ≤ vN w1 i ∧ vN w1 i ≤ 60 := h1.2.2.2.2.2.2.2
  have sb0 : vS w0 ≤ 6 := h0.2.1
  have sb1 : vS w1 ≤ 6 := h1.2.1
  have hq_0 : ∀ w ∈ wsX40, w ∈ wsX4_isDone := by decide +kernel
  have hq_1 : (Cond.fieldLink RX4 19 "KnotRugsLaw$Sim" "runs" "[[[I").before args s = true := hts _ (by decide +kernel)
  refine lv_aload_n hx hb dX4_isDone_0 rfl (lv_at hl 0 rfl) ?_
  refine va_get (D := G.1) (ci := 4) (v := .ref rr) (C := RX4) (T := TX4) (N := 8) hx hb hts hq_0 hown hK.1 hP 0 rfl rfl 2 (by decide) hq_1 (fun _ h9 => h9) rfl dX4_isDone_1 ?_
  refine lv_iload_n hx hb dX4_isDone_4 rfl (lv_at hl 1 rfl) ?_
  refine k_ald3 hx hb hK hP 3 1 rfl (vp_in_nI (n := 1) (by decide) (by decide)) (by decide) rfl dX4_isDone_5 ?_
  refine va_alen (D := G.1) (v := nI (vT w1)) hx hb hK.1 hP 5 2 rfl rfl rfl dX4_isDone_6 ?_
  refine lv_if_eq (tgt := 20) hx hb dX4_isDone_7 (by decide) (fun c_7 => ?_) (fun c_7 => ?_)
  · have c_7 : (vT w1) = 0 := (k_eq0 (a := (vT w1)) (by omega)).mp c_7
    refine lv_iconst (v := nI 1) hx hb dX4_isDone_20 (by decide) ?_
    refine lv_goto (tgt := 25) hx hb dX4_isDone_21 (by decide) ?_
    exact k_zret (ws := ([kO o 4 [.ref rg, .ref pg, .ref rr, .ref sp, .ref ot, .ref wo, .int (nI ho), .int (nI un)], kGd G rg 12 (oA 12 ra), kGd G pg 12 (oA 12 pa), kH G rr 2 (oR e0 e1), kGd G e0 (vT w0) (oA (vT w0) qa), kGd G e1 (vT w1) (oA (vT w1) qb), kC G sp 2 (nR (w2 (vS w0) (vS w1))), kC G ot 2 (nR (w2 (vO w0) (vO w1))), kC G wo 8 (nR bf)] ++ sT G ra pa qa qb (rugF w0 w1) (planF w0 w1) (vT w0) (runF w0) (vT w1) (runF w1))) (()) hx hb hr rfl hlocks hP hD hS hAe hQ (Nat.le_of_ble_eq_true rfl) (Nat.le_of_ble_eq_true rfl) dX4_isDone_25 (rfl) (Or.inl ⟨rfl, by omega⟩)
  · have c_7 : ¬ ((vT w1) = 0) := fun h9 => c_7 ((k_eq0 (a := (vT w1)) (by omega)).mpr h9)
    refine lv_aload_n hx hb dX4_isDone_10 rfl (lv_at hl 0 rfl) ?_
    refine lv_iload_n hx hb dX4_isDone_11 rfl (lv_at hl 1 rfl) ?_
    refine k_callPi (wfx := fun _ => [kO o 4 [.ref rg, .ref pg, .ref rr, .ref sp, .ref ot, .ref wo, .int (nI ho), .int (nI un)], kGd G rg 12 (oA 12 ra), kGd G pg 12 (oA 12 pa), kH G rr 2 (oR e0 e1), kGd G e0 (vT w0) (oA (vT w0) qa), kGd G e1 (vT w1) (oA (vT w1) qb), kC G sp 2 (nR (w2 (vS w0) (vS w1))), kC G ot 2 (nR (w2 (vO w0) (vO w1))), kC G wo 8 (nR bf)]) (wfp := fun _ => sT G ra pa qa qb (rugF w0 w1) (planF w0 w1) (vT w0) (runF w0) (vT w1) (runF w1)) (fun _ => [kO o 4 [.ref rg, .ref pg, .ref rr, .ref sp, .ref ot, .ref wo, .int (nI ho), .int (nI un)], kGd G rg 12 (oA 12 ra), kGd G pg 12 (oA 12 pa), kH G rr 2 (oR e0 e1), kGd G e0 (vT w0) (oA (vT w0) qa), kGd G e1 (vT w1) (oA (vT w1) qb), kC G sp 2 (nR (w2 (vS w0) (vS w1))), kC G ot 2 (nR (w2 (vO w0) (vO w1))), kC G wo 8 (nR bf)]) [] (k_runVP (As := [.int (nI 1)]) (rest := []) (cx := [kO o 4 [.ref rg, .ref pg, .ref rr, .ref sp, .ref ot, .ref wo, .int (nI ho), .int (nI un)], kGd G rg 12 (oA 12 ra), kGd G pg 12 (oA 12 pa), kH G rr 2 (oR e0 e1), kGd G e0 (vT w0) (oA (vT w0) qa), kGd G e1 (vT w1) (oA (vT w1) qb), kC G sp 2 (nR (w2 (vS w0) (vS w1))), kC G ot 2 (nR (w2 (vO w0) (vO w1))), kC G wo 8 (nR bf)]) ⟨hx, hb, hml, hown, hts⟩ (s_knots1 l G o rg pg rr e0 e1 sp ot wo ra pa qa qb w0 w1 bf ho un h0 h1 hB) (cwV 1 hts gX4_isDone_X4_knots rfl rfl rfl (by decide +kernel) ⟨Nat.le_of_ble_eq_true rfl, Nat.le_of_ble_eq_true rfl⟩) hK hZ hP hD hS hA [0, 1, 2, 3, 4, 5, 6, 7, 8] rfl rfl 0 4 rfl rfl rfl rfl hl.1 rfl (Nat.le_of_ble_eq_true rfl) dX4_isDone_12 ⟨(Nat.le_of_ble_eq_true rfl), (Nat.le_of_ble_eq_true rfl)⟩) hP hD hS hA [0, 1, 2, 3, 4, 5, 6, 7, 8] [] [0, 1, 2, 3, 4, 5, 6, 7, 8] rfl rfl rfl (by decide) (fun _ => rfl) rfl (fun r_12 u_12 H locs hp_12 hP hD hS => ?_)
    have hp_12 : r_12 = nI (vM w1) := hp_12
    subst hp_12
    refine lv_bipush (v := nI 60) hx hb dX4_isDone_15 (by decide) ?_
    refine lv_icmp_ne (tgt := 24) hx hb dX4_isDone_17 (by decide) (fun c_17 => ?_) (fun c_17 => ?_)
    · have c_17 : ¬ ((vM w1) = 60) := fun h9 => c_17 ((nI_eq (a := (vM w1)) (b := 60) (by omega) (by omega)).mpr h9)
      refine lv_iconst (v := nI 0) hx hb dX4_isDone_24 (by decide) ?_
      exact k_zret (ws := ([kO o 4 [.ref rg, .ref pg, .ref rr, .ref sp, .ref ot, .ref wo, .int (nI ho), .int (nI un)], kGd G rg 12 (oA 12 ra), kGd G pg 12 (oA 12 pa), kH G rr 2 (oR e0 e1), kGd G e0 (vT w0) (oA (vT w0) qa), kGd G e1 (vT w1) (oA (vT w1) qb), kC G sp 2 (nR (w2 (vS w0) (vS w1))), kC G ot 2 (nR (w2 (vO w0) (vO w1))), kC G wo 8 (nR bf)] ++ sT G ra pa qa qb (rugF w0 w1) (planF w0 w1) (vT w0) (runF w0) (vT w1) (runF w1))) (()) hx hb hr rfl hlocks hP hD hS hAe hQ (Nat.le_of_ble_eq_true rfl) (Nat.le_of_ble_eq_true rfl) dX4_isDone_25 (rfl) (Or.inr ⟨rfl, by omega⟩)
    · have c_17 : (vM w1) = 60 := (nI_eq (a := (vM w1)) (b := 60) (by omega) (by omega)).mp c_17
      refine lv_iconst (v := nI 1) hx hb dX4_isDone_20 (by decide) ?_
      refine lv_goto (tgt := 25) hx hb dX4_isDone_21 (by decide) ?_
      exact k_zret (ws := ([kO o 4 [.ref rg, .ref pg, .ref rr, .ref sp, .ref ot, .ref wo, .int (nI ho), .int (nI un)], kGd G rg 12 (oA 12 ra), kGd G pg 12 (oA 12 pa), kH G rr 2 (oR e0 e1), kGd G e0 (vT w0) (oA (vT w0) qa), kGd G e1 (vT w1) (oA (vT w1) qb), kC G sp 2 (nR (w2 (vS w0) (vS w1))), kC G ot 2 (nR (w2 (vO w0) (vO w1))), kC G wo 8 (nR bf)] ++ sT G ra pa qa qb (rugF w0 w1) (planF w0 w1) (vT w0) (runF w0) (vT w1) (runF w1))) (()) hx hb hr rfl hlocks hP hD hS hAe hQ (Nat.le_of_ble_eq_true rfl) (Nat.le_of_ble_eq_true rfl) dX4_isDone_25 (rfl) (Or.inl ⟨rfl, by omega⟩)
