theorem ii_m1 {p : Nat} (h : 0 < p) : nI p + Int32.ofInt (-1) = nI (p - 1) := by
  rw [show Int32.ofInt (-1) = (-1 : Int32) from by decide]
  exact sb_m1 h
set_option maxHeartbeats 4000000 in
set_option maxRecDepth 100000 in
theorem s_unpick0 (l : Launch) (G : kG) (o : Nat) (rg : Nat) (pg : Nat) (rr : Nat) (e0 : Nat) (e1 : Nat) (sp : Nat) (ot : Nat) (wo : Nat) (ra : Nat → Nat) (pa : Nat → Nat) (qa : Nat → Nat) (qb : Nat → Nat) (w0 : Wv) (w1 : Wv) (bf : Nat → Nat) (ho : Nat) (un : Nat) (k : Nat) (h0 : wOk w0) (h1 : wOk w1) (hB : bOk bf) (hk : k ≤ vM w0) : kM l G yX4_unpick wsX4_unpick ({ frames := 2, cells := 0, slots := 0, locals := 43 } : Room) [.ref o, .int (nI 0), .int (nI k)] ([kO o 4 [.ref rg, .ref pg, .ref rr, .ref sp, .ref ot, .ref wo, .int (nI ho), .int (nI un)], kGd G rg 12 (oA 12 ra), kGd G pg 12 (oA 12 pa), kH G rr 2 (oR e0 e1), kGd G e0 (vT w0) (oA (vT w0) qa), kGd G e1 (vT w1) (oA (vT w1) qb), kC G sp 2 (nR (w2 (vS w0) (vS w1))), kC G ot 2 (nR (w2 (vO w0) (vO w1))), kC G wo 8 (nR bf)] ++ sT G ra pa qa qb (rugF w0 w1) (planF w0 w1) (vT w0) (runF w0) (vT w1) (runF w1)) (kQi G ([kO o 4 [.ref rg, .ref pg, .ref rr, .ref sp, .ref ot, .ref wo, .int (nI ho), .int (nI un)], kGd G rg 12 (oA 12 ra), kGd G pg 12 (oA 12 pa), kH G rr 2 (oR e0 e1), kGd G e0 (vT w0) (oA (vT w0) qa), kGd G e1 (vT w1) (oA (vT w1) qb), kC G sp 2 (nR (w2 (vS w0) (vS w1))), kC G ot 2 (nR (w2 (vO w0) (vO w1))), kC G wo 8 (nR bf)] ++ sT G ra pa qa qb (rugF w0 w1) (planF w0 w1) (vT w0) (runF w0) (vT w1) (runF w1)) (fun (r : Int32) (_ : Unit) => r = nI (vM w0 - k)) (fun (_ : Unit) => ([kO o 4 [.ref rg, .ref pg, .ref rr, .ref sp, .ref ot, .ref wo, .int (nI ho), .int (nI (un + k))], kGd G rg 12 (oA 12 ra), kGd G pg 12 (oA 12 pa), kH G rr 2 (oR e0 e1), kGd G e0 (vT (wUn w0 k)) (oA (vT (wUn w0 k)) qa), kGd G e1 (vT w1) (oA (vT w1) qb), kC G sp 2 (nR (w2 (vS (wUn w0 k)) (vS w1))), kC G ot 2 (nR (w2 (vO (wUn w0 k)) (vO w1))), kC G wo 8 (nR (unB (vK w0) bf (vM w0 - k) k))] ++ sT G ra pa qa qb (rugF (wUn w0 k) w1) (planF (wUn w0 k) w1) (vT (wUn w0 k)) (runF (wUn w0 k)) (vT w1) (runF w1)))) := by
  refine k_ofW (cc := cX4_unpick) (maxL := 6) (rt := (some .int)) (by decide) rfl (Nat.le_of_ble_eq_true rfl) ?_
  intro p e s m args below meth c A ls Qs H locs hQ hAe hx hb hr hml hts hown hlocks hin hK hZ hP hD hS hA hl
  have hown : s.vm.findClass RX4 = some m.cls := hown
  have hl : lv_has ls 6 [(0, .ref o), (1, .int (nI 0)), (2, .int (nI k))] := hl
  have m0b : vM w0 ≤ 60 := h0.2.2.2.1
  have m1b : vM w1 ≤ 60 := h1.2.2.2.1
  have t0b : vT w0 ≤ 20 := h0.2.2.1
  have t1b : vT w1 ≤ 20 := h1.2.2.1
  have pb0 : ∀ i, i < 60 → vP w0 i < 8 := h0.2.2.2.2.1
  have pb1 : ∀ i, i < 60 → vP w1 i < 8 := h1.2.2.2.2.1
  have kb0 : ∀ i, i < 60 → vK w0 i < 8 := h0.2.2.2.2.2.1
  have kb1 : ∀ i, i < 60 → vK w1 i < 8 := h1.2.2.2.2.2.1
  have cb0 : ∀ i, i < vT w0 → vC w0 i < 8 := h0.2.2.2.2.2.2.1
  have cb1 : ∀ i, i < vT w1 → vC w1 i < 8 := h1.2.2.2.2.2.2.1
  have nb0 : ∀ i, i < vT w0 → 1 ≤ vN w0 i ∧ vN w0 i ≤ 60 := h0.2.2.2.2.2.2.2
  have nb1 : ∀ i, i < vT w1 → 1 ≤ vN w1 i ∧ vN w1 i ≤ 60 := h1.2.2.2.2.2.2.2
  have sb0 : vS w0 ≤ 6 := h0.2.1
  have sb1 : vS w1 ≤ 6 := h1.2.1
  have hq_0 : ∀ w ∈ wsX40, w ∈ wsX4_unpick := by decide +kernel
  have hq_1 : (Cond.fieldLink RX4 9 "KnotRugsLaw$Sim" "rug" "[[I").before args s = true := hts _ (by decide +kernel)
  have hq_2 : (Cond.fieldLink RX4 29 "KnotRugsLaw$Sim" "wool" "[I").before args s = true := hts _ (by decide +kernel)
  have hq_3 : (Cond.fieldLink RX4 42 "KnotRugsLaw$Sim" "unpicked" "I").before args s = true := hts _ (by decide +kernel)
  refine lv_aload_n hx hb dX4_unpick_0 rfl (lv_at hl 0 rfl) ?_
  refine lv_iload_n hx hb dX4_unpick_1 rfl (lv_at hl 1 rfl) ?_
  refine k_callPi (S := Unit) (wfx := fun _ => [kO o 4 [.ref rg, .ref pg, .ref rr, .ref sp, .ref ot, .ref wo, .int (nI ho), .int (nI un)], kGd G rg 12 (oA 12 ra), kGd G pg 12 (oA 12 pa), kH G rr 2 (oR e0 e1), kGd G e0 (vT w0) (oA (vT w0) qa), kGd G e1 (vT w1) (oA (vT w1) qb), kC G sp 2 (nR (w2 (vS w0) (vS w1))), kC G ot 2 (nR (w2 (vO w0) (vO w1))), kC G wo 8 (nR bf)]) (wfp := fun _ => sT G ra pa qa qb (rugF w0 w1) (planF w0 w1) (vT w0) (runF w0) (vT w1) (runF w1)) (fun _ => [kO o 4 [.ref rg, .ref pg, .ref rr, .ref sp, .ref ot, .ref wo, .int (nI ho), .int (nI un)], kGd G rg 12 (oA 12 ra), kGd G pg 12 (oA 12 pa), kH G rr 2 (oR e0 e1), kGd G e0 (vT w0) (oA (vT w0) qa), kGd G e1 (vT w1) (oA (vT w1) qb), kC G sp 2 (nR (w2 (vS w0) (vS w1))), kC G ot 2 (nR (w2 (vO w0) (vO w1))), kC G wo 8 (nR bf)]) [] (k_runVP (As := [.int (nI 0)]) (rest := []) (cx := [kO o 4 [.ref rg, .ref pg, .ref rr, .ref sp, .ref ot, .ref wo, .int (nI ho), .int (nI un)], kGd G rg 12 (oA 12 ra), kGd G pg 12 (oA 12 pa), kH G rr 2 (oR e0 e1), kGd G e0 (vT w0) (oA (vT w0) qa), kGd G e1 (vT w1) (oA (vT w1) qb), kC G sp 2 (nR (w2 (vS w0) (vS w1))), kC G ot 2 (nR (w2 (vO w0) (vO w1))), kC G wo 8 (nR bf)]) ⟨hx, hb, hml, hown, hts⟩ (s_knots0 l G o rg pg rr e0 e1 sp ot wo ra pa qa qb w0 w1 bf ho un h0 h1 hB) (cwV 1 hts gX4_unpick_X4_knots rfl rfl rfl (by decide +kernel) ⟨Nat.le_of_ble_eq_true rfl, Nat.le_of_ble_eq_true rfl⟩) hK hZ hP hD hS hA [0, 1, 2, 3, 4, 5, 6, 7, 8] rfl rfl 0 4 rfl rfl rfl rfl hl.1 rfl (Nat.le_of_ble_eq_true rfl) dX4_unpick_2 ⟨(Nat.le_of_ble_eq_true rfl), (Nat.le_of_ble_eq_true rfl)⟩) hP hD hS hA [0, 1, 2, 3, 4, 5, 6, 7, 8] [] [0, 1, 2, 3, 4, 5, 6, 7, 8] rfl rfl rfl (by decide) (fun _ => rfl) rfl (fun r_2 u_2 H locs hp_2 hP hD hS => ?_)
  have hp_2 : r_2 = nI (vM w0) := hp_2
  subst hp_2
  refine lv_istore_n (lv' := [(3, .int (nI (vM w0))), (0, .ref o), (1, .int (nI 0)), (2, .int (nI k))]) hx hb dX4_unpick_5 rfl hl (by decide) rfl (fun ls hl => ?_)
  refine lv_iconst (v := nI 0) hx hb dX4_unpick_6 (by decide) ?_
  refine lv_istore (lv' := [(4, .int (nI 0)), (3, .int (nI (vM w0))), (0, .ref o), (1, .int (nI 0)), (2, .int (nI k))]) hx hb dX4_unpick_7 hl (by decide) rfl (fun ls hl => ?_)
  have loop_9 : ∀ (fu_9 : Nat) (i : Nat), i ≤ k → k < i + fu_9 → ∀ (H : Heap) (locs : List Loc) (ls : Array Slot), va_P G.1 vwCl ([kO o 4 [.ref rg, .ref pg, .ref rr, .ref sp, .ref ot, .ref wo, .int (nI ho), .int (nI (un + i))], kGd G rg 12 (oA 12 ra), kGd G pg 12 (oA 12 pa), kH G rr 2 (oR e0 e1), kGd G e0 (vT w0) (oA (vT w0) qa), kGd G e1 (vT w1) (oA (vT w1) qb), kC G sp 2 (nR (w2 (vS w0) (vS w1))), kC G ot 2 (nR (w2 (vO w0) (vO w1))), kC G wo 8 (nR (unB (vK w0) bf (vM w0 - (i)) (i)))] ++ sT G ra pa qa qb (rugF (wUn w0 (i)) w1) (planF w0 w1) (vT w0) (runF w0) (vT w1) (runF w1)) H → va_D A ([kO o 4 [.ref rg, .ref pg, .ref rr, .ref sp, .ref ot, .ref wo, .int (nI ho), .int (nI (un + i))], kGd G rg 12 (oA 12 ra), kGd G pg 12 (oA 12 pa), kH G rr 2 (oR e0 e1), kGd G e0 (vT w0) (oA (vT w0) qa), kGd G e1 (vT w1) (oA (vT w1) qb), kC G sp 2 (nR (w2 (vS w0) (vS w1))), kC G ot 2 (nR (w2 (vO w0) (vO w1))), kC G wo 8 (nR (unB (vK w0) bf (vM w0 - (i)) (i)))] ++ sT G ra pa qa qb (rugF (wUn w0 (i)) w1) (planF w0 w1) (vT w0) (runF w0) (vT w1) (runF w1)) → va_S A s.heap H locs → lv_has ls 6 [(0, .ref o), (1, .int (nI 0)), (2, .int (nI k)), (3, .int (nI (vM w0 - i))), (4, .int (nI i))] → W p l e ({ frames := 2, cells := 0, slots := 0, locals := 43 } : Room) s m args below meth c H locs 0 0 Qs (F0 m 9 ls []) := by
    intro fu_9
    induction fu_9 with
    | zero =>
      intro i hi hf
      exact absurd hf (by omega)
    | succ fu_9 ih_9 =>
      intro i hi hf H locs ls hP hD hS hl
      refine lv_iload hx hb dX4_unpick_9 (lv_at hl 4 rfl) ?_
      refine lv_iload_n hx hb dX4_unpick_11 rfl (lv_at hl 2 rfl) ?_
      refine lv_icmp_ge (tgt := 91) hx hb dX4_unpick_12 (by decide) (fun c_12 => ?_) (fun c_12 => ?_)
      · have c_12 : k ≤ i := (nI_leI (a := k) (b := i) (by omega) (by omega)).mp c_12
        refine lv_iload_n hx hb dX4_unpick_91 rfl (lv_at hl 3 rfl) ?_
        have hi9 : i = k := by omega
        subst hi9
        rw [plan_un0 (k := i)] at hP hD
        exact k_iret (ws := ([kO o 4 [.ref rg, .ref pg, .ref rr, .ref sp, .ref ot, .ref wo, .int (nI ho), .int (nI un)], kGd G rg 12 (oA 12 ra), kGd G pg 12 (oA 12 pa), kH G rr 2 (oR e0 e1), kGd G e0 (vT w0) (oA (vT w0) qa), kGd G e1 (vT w1) (oA (vT w1) qb), kC G sp 2 (nR (w2 (vS w0) (vS w1))), kC G ot 2 (nR (w2 (vO w0) (vO w1))), kC G wo 8 (nR bf)] ++ sT G ra pa qa qb (rugF w0 w1) (planF w0 w1) (vT w0) (runF w0) (vT w1) (runF w1))) (()) hx hb hr hlocks hP hD hS hAe hQ (Nat.le_of_ble_eq_true rfl) (Nat.le_of_ble_eq_true rfl) dX4_unpick_92 (rfl) (rfl)
      · have c_12 : ¬ (k ≤ i) := fun h9 => c_12 ((nI_leI (a := k) (b := i) (by omega) (by omega)).mpr h9)
        refine lv_iinc (v := nI (vM w0 - (i + 1))) (lv' := [(3, .int (nI (vM w0 - (i + 1)))), (0, .ref o), (1, .int (nI 0)), (2, .int (nI k)), (4, .int (nI i))]) hx hb dX4_unpick_15 hl (k := 3) rfl ((by have := ii_m1 (p := vM w0 - i) (by omega); rw [show vM w0 - i - 1 = vM w0 - (i + 1) by omega] at this; exact this)) (by decide) rfl (fun ls hl => ?_)
        refine lv_aload_n hx hb dX4_unpick_18 rfl (lv_at hl 1 rfl) ?_
        refine va_get (D := G.1) (ci := 4) (v := .ref rg) (C := RX4) (T := TX4) (N := 8) hx hb hts hq_0 hown hK.1 hP 0 rfl rfl 0 (by decide) hq_1 (fun _ h9 => h9) rfl dX4_unpick_19 ?_
        refine lv_iload_n hx hb dX4_unpick_22 rfl (lv_at hl 2 rfl) ?_
        refine lv_iload_n hx hb dX4_unpick_23 rfl (lv_at hl 0 rfl) ?_
        refine k_callQi (S := Unit) (wfx := fun _ => []) (fun _ => [kO o 4 [.ref rg, .ref pg, .ref rr, .ref sp, .ref ot, .ref wo, .int (nI ho), .int (nI (un + i))], kGd G rg 12 (oA 12 ra), kGd G pg 12 (oA 12 pa), kH G rr 2 (oR e0 e1), kGd G e0 (vT w0) (oA (vT w0) qa), kGd G e1 (vT w1) (oA (vT w1) qb), kC G sp 2 (nR (w2 (vS w0) (vS w1))), kC G ot 2 (nR (w2 (vO w0) (vO w1))), kC G wo 8 (nR (unB (vK w0) bf (vM w0 - (i)) (i)))]) [kO o 4 [.ref rg, .ref pg, .ref rr, .ref sp, .ref ot, .ref wo, .int (nI ho), .int (nI (un + i))], kGd G rg 12 (oA 12 ra), kGd G pg 12 (oA 12 pa), kH G rr 2 (oR e0 e1), kGd G e0 (vT w0) (oA (vT w0) qa), kGd G e1 (vT w1) (oA (vT w1) qb), kC G sp 2 (nR (w2 (vS w0) (vS w1))), kC G ot 2 (nR (w2 (vO w0) (vO w1))), kC G wo 8 (nR (unB (vK w0) bf (vM w0 - (i)) (i)))] (k_runS (As := [.int (nI 0), .int (nI (vM w0 - (i + 1)))]) (rest := [.ref rg]) (wc := []) ⟨hx, hb, hml, hown, hts⟩ (s_x0 l G (vM w0 - (i + 1)) (by omega)) (va_cwS 2 hts gX4_unpick_X4_x rfl rfl rfl (by decide +kernel) ⟨Nat.le_of_ble_eq_true rfl, Nat.le_of_ble_eq_true rfl⟩) hK hZ hP hD hS hA [] rfl rfl rfl hl.1 rfl (Nat.le_of_ble_eq_true rfl) dX4_unpick_24 ⟨(Nat.le_of_ble_eq_true rfl), (Nat.le_of_ble_eq_true rfl)⟩) hP hD hS hA [] [0, 1, 2, 3, 4, 5, 6, 7, 8] [0, 1, 2, 3, 4, 5, 6, 7, 8] rfl rfl rfl rfl (by decide) (fun _ => rfl) rfl (fun r_24 u_24 H locs hp_24 hP hD hS => ?_)
        have hp_24 : r_24 = nI (colOf 0 (vM w0 - (i + 1))) := hp_24
        subst hp_24
        have hi_1 : (colOf 0 (vM w0 - (i + 1))) < 12 := colOf_lt
        refine k_aldg hx hb hK hP 1 (colOf 0 (vM w0 - (i + 1))) rfl (vp_in_nI hi_1 (by omega)) (nI_clamp (Nat.lt_of_lt_of_le hi_1 (by omega))) (oA_at hi_1) dX4_unpick_27 ?_
        refine lv_iload_n hx hb dX4_unpick_28 rfl (lv_at hl 0 rfl) ?_
        refine lv_bipush (v := nI 6) hx hb dX4_unpick_29 (by decide) ?_
        refine lv_idiv hx hb dX4_unpick_31 (by first | decide | (intro h; exact absurd ((nI_eq (by omega) (by omega)).mp h) (by omega))) ?_
        refine lv_topi (fun y_2 hy_2 => ?_)
        obtain rfl : y_2 = nI ((vM w0 - (i + 1)) / 6) := hy_2.trans (pk_div (a := (vM w0 - (i + 1))) (d := 6) (by omega) (by omega) (by omega))
        have hi_3 : ((vM w0 - (i + 1)) / 6) < 10 := by omega
        refine va_iald (D := G.1) hx hb hK.1 hP _ 0 (sT_r (i := (colOf 0 (vM w0 - (i + 1)))) colOf_lt) rfl (vp_in_nI hi_3 (by omega)) dX4_unpick_32 ?_
        refine lv_topi (fun y_4 hy_4 => ?_)
        obtain rfl : y_4 = (rugF (wUn w0 (i)) w1) (colOf 0 (vM w0 - (i + 1))) ((vM w0 - (i + 1)) / 6) := hy_4.trans (congrArg _ (nI_clamp (by omega)))
        refine lv_topi (fun y_5 hy_5 => ?_)
        obtain rfl : y_5 = nI (vK w0 (vM w0 - (i + 1))) := hy_5.trans ((rug_c0 (by omega)).trans (kaN_t (show (vM w0 - (i + 1)) < vM w0 - i by omega)).symm)
        have hkK : vK w0 (vM w0 - (i + 1)) < 8 := kb0 _ (by omega)
        have hbK : unB (vK w0) bf (vM w0 - i) i (vK w0 (vM w0 - (i + 1))) ≤ 200 := unB_ok hB _ hkK
        refine lv_istore (lv' := [(5, .int (nI (vK w0 (vM w0 - (i + 1))))), (3, .int (nI (vM w0 - (i + 1)))), (0, .ref o), (1, .int (nI 0)), (2, .int (nI k)), (4, .int (nI i))]) hx hb dX4_unpick_33 hl (by decide) rfl (fun ls hl => ?_)
        refine lv_aload_n hx hb dX4_unpick_35 rfl (lv_at hl 2 rfl) ?_
        refine va_get (D := G.1) (ci := 4) (v := .ref wo) (C := RX4) (T := TX4) (N := 8) hx hb hts hq_0 hown hK.1 hP 0 rfl rfl 5 (by decide) hq_2 (fun _ h9 => h9) rfl dX4_unpick_36 ?_
        refine lv_iload hx hb dX4_unpick_39 (lv_at hl 0 rfl) ?_
        have hi_6 : (vK w0 (vM w0 - (i + 1))) < 8 := by omega
        refine va_iald (D := G.1) hx hb hK.1 hP 8 0 rfl rfl (vp_in_nI hi_6 (by omega)) dX4_unpick_41 ?_
        refine lv_topi (fun y_7 hy_7 => ?_)
        obtain rfl : y_7 = nI ((unB (vK w0) bf (vM w0 - (i)) (i)) (vK w0 (vM w0 - (i + 1)))) := hy_7.trans (nR_at (by omega))
        refine lv_sipush (v := nI 200) hx hb dX4_unpick_42 (by decide) ?_
        refine lv_icmp_ge (tgt := 59) hx hb dX4_unpick_45 (by decide) (fun c_45 => ?_) (fun c_45 => ?_)
        · have c_45 : 200 ≤ ((unB (vK w0) bf (vM w0 - (i)) (i)) (vK w0 (vM w0 - (i + 1)))) := (nI_leI (a := 200) (b := ((unB (vK w0) bf (vM w0 - (i)) (i)) (vK w0 (vM w0 - (i + 1))))) (by omega) (by omega)).mp c_45
          have hun : unB (vK w0) bf (vM w0 - i) i = unB (vK w0) bf (vM w0 - (i + 1)) (i + 1) := by
            have e9 : vM w0 - i = vM w0 - (i + 1) + 1 := by omega
            rw [e9] at c_45 ⊢
            exact un_ge rfl (hB _ hkK) (by omega)
          rw [hun] at hP hD
          have hP : va_P G.1 vwCl ([kO o 4 [.ref rg, .ref pg, .ref rr, .ref sp, .ref ot, .ref wo, .int (nI ho), .int (nI (un + i))], kGd G rg 12 (oA 12 ra), kGd G pg 12 (oA 12 pa), kH G rr 2 (oR e0 e1), kGd G e0 (vT w0) (oA (vT w0) qa), kGd G e1 (vT w1) (oA (vT w1) qb), kC G sp 2 (nR (w2 (vS w0) (vS w1))), kC G ot 2 (nR (w2 (vO w0) (vO w1))), kC G wo 8 (nR (unB (vK w0) bf (vM w0 - (i + 1)) (i + 1)))] ++ sT G ra pa qa qb (rugF (wUn w0 (i)) w1) (planF w0 w1) (vT w0) (runF w0) (vT w1) (runF w1)) H := hP
          have hD : va_D A ([kO o 4 [.ref rg, .ref pg, .ref rr, .ref sp, .ref ot, .ref wo, .int (nI ho), .int (nI (un + i))], kGd G rg 12 (oA 12 ra), kGd G pg 12 (oA 12 pa), kH G rr 2 (oR e0 e1), kGd G e0 (vT w0) (oA (vT w0) qa), kGd G e1 (vT w1) (oA (vT w1) qb), kC G sp 2 (nR (w2 (vS w0) (vS w1))), kC G ot 2 (nR (w2 (vO w0) (vO w1))), kC G wo 8 (nR (unB (vK w0) bf (vM w0 - (i + 1)) (i + 1)))] ++ sT G ra pa qa qb (rugF (wUn w0 (i)) w1) (planF w0 w1) (vT w0) (runF w0) (vT w1) (runF w1)) := hD
          refine lv_aload_n hx hb dX4_unpick_59 rfl (lv_at hl 2 rfl) ?_
          refine va_get (D := G.1) (ci := 4) (v := .ref rg) (C := RX4) (T := TX4) (N := 8) hx hb hts hq_0 hown hK.1 hP 0 rfl rfl 0 (by decide) hq_1 (fun _ h9 => h9) rfl dX4_unpick_60 ?_
          refine lv_iload_n hx hb dX4_unpick_63 rfl (lv_at hl 3 rfl) ?_
          refine lv_iload_n hx hb dX4_unpick_64 rfl (lv_at hl 1 rfl) ?_
          refine k_callQi (S := Unit) (wfx := fun _ => []) (fun _ => [kO o 4 [.ref rg, .ref pg, .ref rr, .ref sp, .ref ot, .ref wo, .int (nI ho), .int (nI (un + i))], kGd G rg 12 (oA 12 ra), kGd G pg 12 (oA 12 pa), kH G rr 2 (oR e0 e1), kGd G e0 (vT w0) (oA (vT w0) qa), kGd G e1 (vT w1) (oA (vT w1) qb), kC G sp 2 (nR (w2 (vS w0) (vS w1))), kC G ot 2 (nR (w2 (vO w0) (vO w1))), kC G wo 8 (nR (unB (vK w0) bf (vM w0 - (i + 1)) (i + 1)))]) [kO o 4 [.ref rg, .ref pg, .ref rr, .ref sp, .ref ot, .ref wo, .int (nI ho), .int (nI (un + i))], kGd G rg 12 (oA 12 ra), kGd G pg 12 (oA 12 pa), kH G rr 2 (oR e0 e1), kGd G e0 (vT w0) (oA (vT w0) qa), kGd G e1 (vT w1) (oA (vT w1) qb), kC G sp 2 (nR (w2 (vS w0) (vS w1))), kC G ot 2 (nR (w2 (vO w0) (vO w1))), kC G wo 8 (nR (unB (vK w0) bf (vM w0 - (i + 1)) (i + 1)))] (k_runS (As := [.int (nI 0), .int (nI (vM w0 - (i + 1)))]) (rest := [.ref rg]) (wc := []) ⟨hx, hb, hml, hown, hts⟩ (s_x0 l G (vM w0 - (i + 1)) (by omega)) (va_cwS 2 hts gX4_unpick_X4_x rfl rfl rfl (by decide +kernel) ⟨Nat.le_of_ble_eq_true rfl, Nat.le_of_ble_eq_true rfl⟩) hK hZ hP hD hS hA [] rfl rfl rfl hl.1 rfl (Nat.le_of_ble_eq_true rfl) dX4_unpick_65 ⟨(Nat.le_of_ble_eq_true rfl), (Nat.le_of_ble_eq_true rfl)⟩) hP hD hS hA [] [0, 1, 2, 3, 4, 5, 6, 7, 8] [0, 1, 2, 3, 4, 5, 6, 7, 8] rfl rfl rfl rfl (by decide) (fun _ => rfl) rfl (fun r_65 u_65 H locs hp_65 hP hD hS => ?_)
          have hp_65 : r_65 = nI (colOf 0 (vM w0 - (i + 1))) := hp_65
          subst hp_65
          have hi_8 : (colOf 0 (vM w0 - (i + 1))) < 12 := colOf_lt
          refine k_aldg hx hb hK hP 1 (colOf 0 (vM w0 - (i + 1))) rfl (vp_in_nI hi_8 (by omega)) (nI_clamp (Nat.lt_of_lt_of_le hi_8 (by omega))) (oA_at hi_8) dX4_unpick_68 ?_
          refine lv_iload_n hx hb dX4_unpick_69 rfl (lv_at hl 1 rfl) ?_
          refine lv_bipush (v := nI 6) hx hb dX4_unpick_70 (by decide) ?_
          refine lv_idiv hx hb dX4_unpick_72 (by first | decide | (intro h; exact absurd ((nI_eq (by omega) (by omega)).mp h) (by omega))) ?_
          refine lv_topi (fun y_9 hy_9 => ?_)
          obtain rfl : y_9 = nI ((vM w0 - (i + 1)) / 6) := hy_9.trans (pk_div (a := (vM w0 - (i + 1))) (d := 6) (by omega) (by omega) (by omega))
          refine lv_iconst (v := (-1)) hx hb dX4_unpick_73 (by decide) ?_
          have hi_10 : ((vM w0 - (i + 1)) / 6) < 10 := by omega
          refine va_iast (D := G.1) hx hb hK.1 hP hD hS _ 0 (sT_r (i := (colOf 0 (vM w0 - (i + 1)))) colOf_lt) rfl (vp_in_nI hi_10 (by omega)) dX4_unpick_74 (fun H locs hP hD hS => ?_)
          rw [nI_clamp (n := ((vM w0 - (i + 1)) / 6)) (by omega), sT_rs colOf_lt] at hP hD
          have hP : va_P G.1 vwCl ([kO o 4 [.ref rg, .ref pg, .ref rr, .ref sp, .ref ot, .ref wo, .int (nI ho), .int (nI (un + i))], kGd G rg 12 (oA 12 ra), kGd G pg 12 (oA 12 pa), kH G rr 2 (oR e0 e1), kGd G e0 (vT w0) (oA (vT w0) qa), kGd G e1 (vT w1) (oA (vT w1) qb), kC G sp 2 (nR (w2 (vS w0) (vS w1))), kC G ot 2 (nR (w2 (vO w0) (vO w1))), kC G wo 8 (nR (unB (vK w0) bf (vM w0 - (i + 1)) (i + 1)))] ++ sT G ra pa qa qb (updR (rugF (wUn w0 (i)) w1) (colOf 0 (vM w0 - (i + 1))) ((vM w0 - (i + 1)) / 6) (-1)) (planF w0 w1) (vT w0) (runF w0) (vT w1) (runF w1)) H := hP
          have hD : va_D A ([kO o 4 [.ref rg, .ref pg, .ref rr, .ref sp, .ref ot, .ref wo, .int (nI ho), .int (nI (un + i))], kGd G rg 12 (oA 12 ra), kGd G pg 12 (oA 12 pa), kH G rr 2 (oR e0 e1), kGd G e0 (vT w0) (oA (vT w0) qa), kGd G e1 (vT w1) (oA (vT w1) qb), kC G sp 2 (nR (w2 (vS w0) (vS w1))), kC G ot 2 (nR (w2 (vO w0) (vO w1))), kC G wo 8 (nR (unB (vK w0) bf (vM w0 - (i + 1)) (i + 1)))] ++ sT G ra pa qa qb (updR (rugF (wUn w0 (i)) w1) (colOf 0 (vM w0 - (i + 1))) ((vM w0 - (i + 1)) / 6) (-1)) (planF w0 w1) (vT w0) (runF w0) (vT w1) (runF w1)) := hD
          have hru : updR (rugF (wUn w0 i) w1) (colOf 0 (vM w0 - (i + 1))) ((vM w0 - (i + 1)) / 6) (-1) = rugF (wUn w0 (i + 1)) w1 := rug_u0 (by omega) (kaW_un (by omega)) (fun j _ hj => kaW_un_o (by omega) hj)
          rw [hru] at hP hD
          have hP : va_P G.1 vwCl ([kO o 4 [.ref rg, .ref pg, .ref rr, .ref sp, .ref ot, .ref wo, .int (nI ho), .int (nI (un + i))], kGd G rg 12 (oA 12 ra), kGd G pg 12 (oA 12 pa), kH G rr 2 (oR e0 e1), kGd G e0 (vT w0) (oA (vT w0) qa), kGd G e1 (vT w1) (oA (vT w1) qb), kC G sp 2 (nR (w2 (vS w0) (vS w1))), kC G ot 2 (nR (w2 (vO w0) (vO w1))), kC G wo 8 (nR (unB (vK w0) bf (vM w0 - (i + 1)) (i + 1)))] ++ sT G ra pa qa qb (rugF (wUn w0 (i + 1)) w1) (planF w0 w1) (vT w0) (runF w0) (vT w1) (runF w1)) H := hP
          have hD : va_D A ([kO o 4 [.ref rg, .ref pg, .ref rr, .ref sp, .ref ot, .ref wo, .int (nI ho), .int (nI (un + i))], kGd G rg 12 (oA 12 ra), kGd G pg 12 (oA 12 pa), kH G rr 2 (oR e0 e1), kGd G e0 (vT w0) (oA (vT w0) qa), kGd G e1 (vT w1) (oA (vT w1) qb), kC G sp 2 (nR (w2 (vS w0) (vS w1))), kC G ot 2 (nR (w2 (vO w0) (vO w1))), kC G wo 8 (nR (unB (vK w0) bf (vM w0 - (i + 1)) (i + 1)))] ++ sT G ra pa qa qb (rugF (wUn w0 (i + 1)) w1) (planF w0 w1) (vT w0) (runF w0) (vT w1) (runF w1)) := hD
          refine lv_aload_n hx hb dX4_unpick_75 rfl (lv_at hl 2 rfl) ?_
          refine lv_dup hx hb dX4_unpick_76 rfl ?_
          refine va_get (D := G.1) (ci := 4) (v := .int (nI (un + i))) (C := RX4) (T := TX4) (N := 8) hx hb hts hq_0 hown hK.1 hP 0 rfl rfl 7 (by decide) hq_3 (fun _ h9 => h9) rfl dX4_unpick_77 ?_
          refine lv_iconst (v := nI 1) hx hb dX4_unpick_80 (by decide) ?_
          refine lv_iadd hx hb dX4_unpick_81 ?_
          refine lv_topi (fun y_11 hy_11 => ?_)
          obtain rfl : y_11 = nI ((un + i) + 1) := hy_11.trans (nI_add (un + i) 1)
          refine va_put (D := G.1) (ci := 4) (v := .int (nI ((un + i) + 1))) (ty := .int) (C := RX4) (T := TX4) (N := 8) hx hb hts hq_0 tyX4 tyX4_ok nmX4 hown hK.1 hP hD hS 0 rfl rfl 7 (by decide) hq_3 (fun _ h9 => h9) rfl (by decide +kernel) rfl rfl (Nat.le_of_ble_eq_true rfl) dX4_unpick_82 (fun H locs hP hD hS => ?_)
          have hP : va_P G.1 vwCl ([kO o 4 [.ref rg, .ref pg, .ref rr, .ref sp, .ref ot, .ref wo, .int (nI ho), .int (nI ((un + i) + 1))], kGd G rg 12 (oA 12 ra), kGd G pg 12 (oA 12 pa), kH G rr 2 (oR e0 e1), kGd G e0 (vT w0) (oA (vT w0) qa), kGd G e1 (vT w1) (oA (vT w1) qb), kC G sp 2 (nR (w2 (vS w0) (vS w1))), kC G ot 2 (nR (w2 (vO w0) (vO w1))), kC G wo 8 (nR (unB (vK w0) bf (vM w0 - (i + 1)) (i + 1)))] ++ sT G ra pa qa qb (rugF (wUn w0 (i + 1)) w1) (planF w0 w1) (vT w0) (runF w0) (vT w1) (runF w1)) H := hP
          have hD : va_D A ([kO o 4 [.ref rg, .ref pg, .ref rr, .ref sp, .ref ot, .ref wo, .int (nI ho), .int (nI ((un + i) + 1))], kGd G rg 12 (oA 12 ra), kGd G pg 12 (oA 12 pa), kH G rr 2 (oR e0 e1), kGd G e0 (vT w0) (oA (vT w0) qa), kGd G e1 (vT w1) (oA (vT w1) qb), kC G sp 2 (nR (w2 (vS w0) (vS w1))), kC G ot 2 (nR (w2 (vO w0) (vO w1))), kC G wo 8 (nR (unB (vK w0) bf (vM w0 - (i + 1)) (i + 1)))] ++ sT G ra pa qa qb (rugF (wUn w0 (i + 1)) w1) (planF w0 w1) (vT w0) (runF w0) (vT w1) (runF w1)) := hD
          refine lv_iinc (v := nI (i + 1)) (lv' := [(4, .int (nI (i + 1))), (5, .int (nI (vK w0 (vM w0 - (i + 1))))), (3, .int (nI (vM w0 - (i + 1)))), (0, .ref o), (1, .int (nI 0)), (2, .int (nI k))]) hx hb dX4_unpick_85 hl (k := 5) rfl (nI_add i 1) (by decide) rfl (fun ls hl => ?_)
          refine lv_goto (tgt := 9) hx hb dX4_unpick_88 (by decide) ?_
          have hP : va_P G.1 vwCl ([kO o 4 [.ref rg, .ref pg, .ref rr, .ref sp, .ref ot, .ref wo, .int (nI ho), .int (nI (un + (i + 1)))], kGd G rg 12 (oA 12 ra), kGd G pg 12 (oA 12 pa), kH G rr 2 (oR e0 e1), kGd G e0 (vT w0) (oA (vT w0) qa), kGd G e1 (vT w1) (oA (vT w1) qb), kC G sp 2 (nR (w2 (vS w0) (vS w1))), kC G ot 2 (nR (w2 (vO w0) (vO w1))), kC G wo 8 (nR (unB (vK w0) bf (vM w0 - (i + 1)) (i + 1)))] ++ sT G ra pa qa qb (rugF (wUn w0 (i + 1)) w1) (planF w0 w1) (vT w0) (runF w0) (vT w1) (runF w1)) H := hP
          have hD : va_D A ([kO o 4 [.ref rg, .ref pg, .ref rr, .ref sp, .ref ot, .ref wo, .int (nI ho), .int (nI (un + (i + 1)))], kGd G rg 12 (oA 12 ra), kGd G pg 12 (oA 12 pa), kH G rr 2 (oR e0 e1), kGd G e0 (vT w0) (oA (vT w0) qa), kGd G e1 (vT w1) (oA (vT w1) qb), kC G sp 2 (nR (w2 (vS w0) (vS w1))), kC G ot 2 (nR (w2 (vO w0) (vO w1))), kC G wo 8 (nR (unB (vK w0) bf (vM w0 - (i + 1)) (i + 1)))] ++ sT G ra pa qa qb (rugF (wUn w0 (i + 1)) w1) (planF w0 w1) (vT w0) (runF w0) (vT w1) (runF w1)) := hD
          exact ih_9 (i + 1) (by omega) (by omega) _ _ _ hP hD hS (lv_sub hl [3, 4, 5, 2, 0] rfl)
        · have c_45 : ¬ (200 ≤ ((unB (vK w0) bf (vM w0 - (i)) (i)) (vK w0 (vM w0 - (i + 1))))) := fun h9 => c_45 ((nI_leI (a := 200) (b := ((unB (vK w0) bf (vM w0 - (i)) (i)) (vK w0 (vM w0 - (i + 1))))) (by omega) (by omega)).mpr h9)
          refine lv_aload_n hx hb dX4_unpick_48 rfl (lv_at hl 2 rfl) ?_
          refine va_get (D := G.1) (ci := 4) (v := .ref wo) (C := RX4) (T := TX4) (N := 8) hx hb hts hq_0 hown hK.1 hP 0 rfl rfl 5 (by decide) hq_2 (fun _ h9 => h9) rfl dX4_unpick_49 ?_
          refine lv_iload hx hb dX4_unpick_52 (lv_at hl 0 rfl) ?_
          refine lv_dup2_11 hx hb dX4_unpick_54 rfl rfl ?_
          have hi_12 : (vK w0 (vM w0 - (i + 1))) < 8 := by omega
          refine va_iald (D := G.1) hx hb hK.1 hP 8 0 rfl rfl (vp_in_nI hi_12 (by omega)) dX4_unpick_55 ?_
          refine lv_topi (fun y_13 hy_13 => ?_)
          obtain rfl : y_13 = nI ((unB (vK w0) bf (vM w0 - (i)) (i)) (vK w0 (vM w0 - (i + 1)))) := hy_13.trans (nR_at (by omega))
          refine lv_iconst (v := nI 1) hx hb dX4_unpick_56 (by decide) ?_
          refine lv_iadd hx hb dX4_unpick_57 ?_
          refine lv_topi (fun y_14 hy_14 => ?_)
          obtain rfl : y_14 = nI (((unB (vK w0) bf (vM w0 - (i)) (i)) (vK w0 (vM w0 - (i + 1)))) + 1) := hy_14.trans (nI_add ((unB (vK w0) bf (vM w0 - (i)) (i)) (vK w0 (vM w0 - (i + 1)))) 1)
          have hi_15 : (vK w0 (vM w0 - (i + 1))) < 8 := by omega
          refine va_iast (D := G.1) hx hb hK.1 hP hD hS 8 0 rfl rfl (vp_in_nI hi_15 (by omega)) dX4_unpick_58 (fun H locs hP hD hS => ?_)
          rw [nR_upd (f := (unB (vK w0) bf (vM w0 - (i)) (i))) (k := (vK w0 (vM w0 - (i + 1)))) (v := (((unB (vK w0) bf (vM w0 - (i)) (i)) (vK w0 (vM w0 - (i + 1)))) + 1)) (by omega)] at hP hD
          have hP : va_P G.1 vwCl ([kO o 4 [.ref rg, .ref pg, .ref rr, .ref sp, .ref ot, .ref wo, .int (nI ho), .int (nI (un + i))], kGd G rg 12 (oA 12 ra), kGd G pg 12 (oA 12 pa), kH G rr 2 (oR e0 e1), kGd G e0 (vT w0) (oA (vT w0) qa), kGd G e1 (vT w1) (oA (vT w1) qb), kC G sp 2 (nR (w2 (vS w0) (vS w1))), kC G ot 2 (nR (w2 (vO w0) (vO w1))), kC G wo 8 (nR (updN (unB (vK w0) bf (vM w0 - (i)) (i)) (vK w0 (vM w0 - (i + 1))) (((unB (vK w0) bf (vM w0 - (i)) (i)) (vK w0 (vM w0 - (i + 1)))) + 1)))] ++ sT G ra pa qa qb (rugF (wUn w0 (i)) w1) (planF w0 w1) (vT w0) (runF w0) (vT w1) (runF w1)) H := hP
          have hD : va_D A ([kO o 4 [.ref rg, .ref pg, .ref rr, .ref sp, .ref ot, .ref wo, .int (nI ho), .int (nI (un + i))], kGd G rg 12 (oA 12 ra), kGd G pg 12 (oA 12 pa), kH G rr 2 (oR e0 e1), kGd G e0 (vT w0) (oA (vT w0) qa), kGd G e1 (vT w1) (oA (vT w1) qb), kC G sp 2 (nR (w2 (vS w0) (vS w1))), kC G ot 2 (nR (w2 (vO w0) (vO w1))), kC G wo 8 (nR (updN (unB (vK w0) bf (vM w0 - (i)) (i)) (vK w0 (vM w0 - (i + 1))) (((unB (vK w0) bf (vM w0 - (i)) (i)) (vK w0 (vM w0 - (i + 1)))) + 1)))] ++ sT G ra pa qa qb (rugF (wUn w0 (i)) w1) (planF w0 w1) (vT w0) (runF w0) (vT w1) (runF w1)) := hD
          have hun : updN (unB (vK w0) bf (vM w0 - i) i) (vK w0 (vM w0 - (i + 1))) (unB (vK w0) bf (vM w0 - i) i (vK w0 (vM w0 - (i + 1))) + 1) = unB (vK w0) bf (vM w0 - (i + 1)) (i + 1) := by
            have e9 : vM w0 - i = vM w0 - (i + 1) + 1 := by omega
            rw [e9] at c_45 ⊢
            exact un_lt rfl (hB _ hkK) (by omega)
          rw [hun] at hP hD
          have hP : va_P G.1 vwCl ([kO o 4 [.ref rg, .ref pg, .ref rr, .ref sp, .ref ot, .ref wo, .int (nI ho), .int (nI (un + i))], kGd G rg 12 (oA 12 ra), kGd G pg 12 (oA 12 pa), kH G rr 2 (oR e0 e1), kGd G e0 (vT w0) (oA (vT w0) qa), kGd G e1 (vT w1) (oA (vT w1) qb), kC G sp 2 (nR (w2 (vS w0) (vS w1))), kC G ot 2 (nR (w2 (vO w0) (vO w1))), kC G wo 8 (nR (unB (vK w0) bf (vM w0 - (i + 1)) (i + 1)))] ++ sT G ra pa qa qb (rugF (wUn w0 (i)) w1) (planF w0 w1) (vT w0) (runF w0) (vT w1) (runF w1)) H := hP
          have hD : va_D A ([kO o 4 [.ref rg, .ref pg, .ref rr, .ref sp, .ref ot, .ref wo, .int (nI ho), .int (nI (un + i))], kGd G rg 12 (oA 12 ra), kGd G pg 12 (oA 12 pa), kH G rr 2 (oR e0 e1), kGd G e0 (vT w0) (oA (vT w0) qa), kGd G e1 (vT w1) (oA (vT w1) qb), kC G sp 2 (nR (w2 (vS w0) (vS w1))), kC G ot 2 (nR (w2 (vO w0) (vO w1))), kC G wo 8 (nR (unB (vK w0) bf (vM w0 - (i + 1)) (i + 1)))] ++ sT G ra pa qa qb (rugF (wUn w0 (i)) w1) (planF w0 w1) (vT w0) (runF w0) (vT w1) (runF w1)) := hD
          refine lv_aload_n hx hb dX4_unpick_59 rfl (lv_at hl 2 rfl) ?_
          refine va_get (D := G.1) (ci := 4) (v := .ref rg) (C := RX4) (T := TX4) (N := 8) hx hb hts hq_0 hown hK.1 hP 0 rfl rfl 0 (by decide) hq_1 (fun _ h9 => h9) rfl dX4_unpick_60 ?_
          refine lv_iload_n hx hb dX4_unpick_63 rfl (lv_at hl 3 rfl) ?_
          refine lv_iload_n hx hb dX4_unpick_64 rfl (lv_at hl 1 rfl) ?_
          refine k_callQi (S := Unit) (wfx := fun _ => []) (fun _ => [kO o 4 [.ref rg, .ref pg, .ref rr, .ref sp, .ref ot, .ref wo, .int (nI ho), .int (nI (un + i))], kGd G rg 12 (oA 12 ra), kGd G pg 12 (oA 12 pa), kH G rr 2 (oR e0 e1), kGd G e0 (vT w0) (oA (vT w0) qa), kGd G e1 (vT w1) (oA (vT w1) qb), kC G sp 2 (nR (w2 (vS w0) (vS w1))), kC G ot 2 (nR (w2 (vO w0) (vO w1))), kC G wo 8 (nR (unB (vK w0) bf (vM w0 - (i + 1)) (i + 1)))]) [kO o 4 [.ref rg, .ref pg, .ref rr, .ref sp, .ref ot, .ref wo, .int (nI ho), .int (nI (un + i))], kGd G rg 12 (oA 12 ra), kGd G pg 12 (oA 12 pa), kH G rr 2 (oR e0 e1), kGd G e0 (vT w0) (oA (vT w0) qa), kGd G e1 (vT w1) (oA (vT w1) qb), kC G sp 2 (nR (w2 (vS w0) (vS w1))), kC G ot 2 (nR (w2 (vO w0) (vO w1))), kC G wo 8 (nR (unB (vK w0) bf (vM w0 - (i + 1)) (i + 1)))] (k_runS (As := [.int (nI 0), .int (nI (vM w0 - (i + 1)))]) (rest := [.ref rg]) (wc := []) ⟨hx, hb, hml, hown, hts⟩ (s_x0 l G (vM w0 - (i + 1)) (by omega)) (va_cwS 2 hts gX4_unpick_X4_x rfl rfl rfl (by decide +kernel) ⟨Nat.le_of_ble_eq_true rfl, Nat.le_of_ble_eq_true rfl⟩) hK hZ hP hD hS hA [] rfl rfl rfl hl.1 rfl (Nat.le_of_ble_eq_true rfl) dX4_unpick_65 ⟨(Nat.le_of_ble_eq_true rfl), (Nat.le_of_ble_eq_true rfl)⟩) hP hD hS hA [] [0, 1, 2, 3, 4, 5, 6, 7, 8] [0, 1, 2, 3, 4, 5, 6, 7, 8] rfl rfl rfl rfl (by decide) (fun _ => rfl) rfl (fun r_65 u_65 H locs hp_65 hP hD hS => ?_)
          have hp_65 : r_65 = nI (colOf 0 (vM w0 - (i + 1))) := hp_65
          subst hp_65
          have hi_16 : (colOf 0 (vM w0 - (i + 1))) < 12 := colOf_lt
          refine k_aldg hx hb hK hP 1 (colOf 0 (vM w0 - (i + 1))) rfl (vp_in_nI hi_16 (by omega)) (nI_clamp (Nat.lt_of_lt_of_le hi_16 (by omega))) (oA_at hi_16) dX4_unpick_68 ?_
          refine lv_iload_n hx hb dX4_unpick_69 rfl (lv_at hl 1 rfl) ?_
          refine lv_bipush (v := nI 6) hx hb dX4_unpick_70 (by decide) ?_
          refine lv_idiv hx hb dX4_unpick_72 (by first | decide | (intro h; exact absurd ((nI_eq (by omega) (by omega)).mp h) (by omega))) ?_
          refine lv_topi (fun y_17 hy_17 => ?_)
          obtain rfl : y_17 = nI ((vM w0 - (i + 1)) / 6) := hy_17.trans (pk_div (a := (vM w0 - (i + 1))) (d := 6) (by omega) (by omega) (by omega))
          refine lv_iconst (v := (-1)) hx hb dX4_unpick_73 (by decide) ?_
          have hi_18 : ((vM w0 - (i + 1)) / 6) < 10 := by omega
          refine va_iast (D := G.1) hx hb hK.1 hP hD hS _ 0 (sT_r (i := (colOf 0 (vM w0 - (i + 1)))) colOf_lt) rfl (vp_in_nI hi_18 (by omega)) dX4_unpick_74 (fun H locs hP hD hS => ?_)
          rw [nI_clamp (n := ((vM w0 - (i + 1)) / 6)) (by omega), sT_rs colOf_lt] at hP hD
          have hP : va_P G.1 vwCl ([kO o 4 [.ref rg, .ref pg, .ref rr, .ref sp, .ref ot, .ref wo, .int (nI ho), .int (nI (un + i))], kGd G rg 12 (oA 12 ra), kGd G pg 12 (oA 12 pa), kH G rr 2 (oR e0 e1), kGd G e0 (vT w0) (oA (vT w0) qa), kGd G e1 (vT w1) (oA (vT w1) qb), kC G sp 2 (nR (w2 (vS w0) (vS w1))), kC G ot 2 (nR (w2 (vO w0) (vO w1))), kC G wo 8 (nR (unB (vK w0) bf (vM w0 - (i + 1)) (i + 1)))] ++ sT G ra pa qa qb (updR (rugF (wUn w0 (i)) w1) (colOf 0 (vM w0 - (i + 1))) ((vM w0 - (i + 1)) / 6) (-1)) (planF w0 w1) (vT w0) (runF w0) (vT w1) (runF w1)) H := hP
          have hD : va_D A ([kO o 4 [.ref rg, .ref pg, .ref rr, .ref sp, .ref ot, .ref wo, .int (nI ho), .int (nI (un + i))], kGd G rg 12 (oA 12 ra), kGd G pg 12 (oA 12 pa), kH G rr 2 (oR e0 e1), kGd G e0 (vT w0) (oA (vT w0) qa), kGd G e1 (vT w1) (oA (vT w1) qb), kC G sp 2 (nR (w2 (vS w0) (vS w1))), kC G ot 2 (nR (w2 (vO w0) (vO w1))), kC G wo 8 (nR (unB (vK w0) bf (vM w0 - (i + 1)) (i + 1)))] ++ sT G ra pa qa qb (updR (rugF (wUn w0 (i)) w1) (colOf 0 (vM w0 - (i + 1))) ((vM w0 - (i + 1)) / 6) (-1)) (planF w0 w1) (vT w0) (runF w0) (vT w1) (runF w1)) := hD
          have hru : updR (rugF (wUn w0 i) w1) (colOf 0 (vM w0 - (i + 1))) ((vM w0 - (i + 1)) / 6) (-1) = rugF (wUn w0 (i + 1)) w1 := rug_u0 (by omega) (kaW_un (by omega)) (fun j _ hj => kaW_un_o (by omega) hj)
          rw [hru] at hP hD
          have hP : va_P G.1 vwCl ([kO o 4 [.ref rg, .ref pg, .ref rr, .ref sp, .ref ot, .ref wo, .int (nI ho), .int (nI (un + i))], kGd G rg 12 (oA 12 ra), kGd G pg 12 (oA 12 pa), kH G rr 2 (oR e0 e1), kGd G e0 (vT w0) (oA (vT w0) qa), kGd G e1 (vT w1) (oA (vT w1) qb), kC G sp 2 (nR (w2 (vS w0) (vS w1))), kC G ot 2 (nR (w2 (vO w0) (vO w1))), kC G wo 8 (nR (unB (vK w0) bf (vM w0 - (i + 1)) (i + 1)))] ++ sT G ra pa qa qb (rugF (wUn w0 (i + 1)) w1) (planF w0 w1) (vT w0) (runF w0) (vT w1) (runF w1)) H := hP
          have hD : va_D A ([kO o 4 [.ref rg, .ref pg, .ref rr, .ref sp, .ref ot, .ref wo, .int (nI ho), .int (nI (un + i))], kGd G rg 12 (oA 12 ra), kGd G pg 12 (oA 12 pa), kH G rr 2 (oR e0 e1), kGd G e0 (vT w0) (oA (vT w0) qa), kGd G e1 (vT w1) (oA (vT w1) qb), kC G sp 2 (nR (w2 (vS w0) (vS w1))), kC G ot 2 (nR (w2 (vO w0) (vO w1))), kC G wo 8 (nR (unB (vK w0) bf (vM w0 - (i + 1)) (i + 1)))] ++ sT G ra pa qa qb (rugF (wUn w0 (i + 1)) w1) (planF w0 w1) (vT w0) (runF w0) (vT w1) (runF w1)) := hD
          refine lv_aload_n hx hb dX4_unpick_75 rfl (lv_at hl 2 rfl) ?_
          refine lv_dup hx hb dX4_unpick_76 rfl ?_
          refine va_get (D := G.1) (ci := 4) (v := .int (nI (un + i))) (C := RX4) (T := TX4) (N := 8) hx hb hts hq_0 hown hK.1 hP 0 rfl rfl 7 (by decide) hq_3 (fun _ h9 => h9) rfl dX4_unpick_77 ?_
          refine lv_iconst (v := nI 1) hx hb dX4_unpick_80 (by decide) ?_
          refine lv_iadd hx hb dX4_unpick_81 ?_
          refine lv_topi (fun y_19 hy_19 => ?_)
          obtain rfl : y_19 = nI ((un + i) + 1) := hy_19.trans (nI_add (un + i) 1)
          refine va_put (D := G.1) (ci := 4) (v := .int (nI ((un + i) + 1))) (ty := .int) (C := RX4) (T := TX4) (N := 8) hx hb hts hq_0 tyX4 tyX4_ok nmX4 hown hK.1 hP hD hS 0 rfl rfl 7 (by decide) hq_3 (fun _ h9 => h9) rfl (by decide +kernel) rfl rfl (Nat.le_of_ble_eq_true rfl) dX4_unpick_82 (fun H locs hP hD hS => ?_)
          have hP : va_P G.1 vwCl ([kO o 4 [.ref rg, .ref pg, .ref rr, .ref sp, .ref ot, .ref wo, .int (nI ho), .int (nI ((un + i) + 1))], kGd G rg 12 (oA 12 ra), kGd G pg 12 (oA 12 pa), kH G rr 2 (oR e0 e1), kGd G e0 (vT w0) (oA (vT w0) qa), kGd G e1 (vT w1) (oA (vT w1) qb), kC G sp 2 (nR (w2 (vS w0) (vS w1))), kC G ot 2 (nR (w2 (vO w0) (vO w1))), kC G wo 8 (nR (unB (vK w0) bf (vM w0 - (i + 1)) (i + 1)))] ++ sT G ra pa qa qb (rugF (wUn w0 (i + 1)) w1) (planF w0 w1) (vT w0) (runF w0) (vT w1) (runF w1)) H := hP
          have hD : va_D A ([kO o 4 [.ref rg, .ref pg, .ref rr, .ref sp, .ref ot, .ref wo, .int (nI ho), .int (nI ((un + i) + 1))], kGd G rg 12 (oA 12 ra), kGd G pg 12 (oA 12 pa), kH G rr 2 (oR e0 e1), kGd G e0 (vT w0) (oA (vT w0) qa), kGd G e1 (vT w1) (oA (vT w1) qb), kC G sp 2 (nR (w2 (vS w0) (vS w1))), kC G ot 2 (nR (w2 (vO w0) (vO w1))), kC G wo 8 (nR (unB (vK w0) bf (vM w0 - (i + 1)) (i + 1)))] ++ sT G ra pa qa qb (rugF (wUn w0 (i + 1)) w1) (planF w0 w1) (vT w0) (runF w0) (vT w1) (runF w1)) := hD
          refine lv_iinc (v := nI (i + 1)) (lv' := [(4, .int (nI (i + 1))), (5, .int (nI (vK w0 (vM w0 - (i + 1))))), (3, .int (nI (vM w0 - (i + 1)))), (0, .ref o), (1, .int (nI 0)), (2, .int (nI k))]) hx hb dX4_unpick_85 hl (k := 5) rfl (nI_add i 1) (by decide) rfl (fun ls hl => ?_)
          refine lv_goto (tgt := 9) hx hb dX4_unpick_88 (by decide) ?_
          have hP : va_P G.1 vwCl ([kO o 4 [.ref rg, .ref pg, .ref rr, .ref sp, .ref ot, .ref wo, .int (nI ho), .int (nI (un + (i + 1)))], kGd G rg 12 (oA 12 ra), kGd G pg 12 (oA 12 pa), kH G rr 2 (oR e0 e1), kGd G e0 (vT w0) (oA (vT w0) qa), kGd G e1 (vT w1) (oA (vT w1) qb), kC G sp 2 (nR (w2 (vS w0) (vS w1))), kC G ot 2 (nR (w2 (vO w0) (vO w1))), kC G wo 8 (nR (unB (vK w0) bf (vM w0 - (i + 1)) (i + 1)))] ++ sT G ra pa qa qb (rugF (wUn w0 (i + 1)) w1) (planF w0 w1) (vT w0) (runF w0) (vT w1) (runF w1)) H := hP
          have hD : va_D A ([kO o 4 [.ref rg, .ref pg, .ref rr, .ref sp, .ref ot, .ref wo, .int (nI ho), .int (nI (un + (i + 1)))], kGd G rg 12 (oA 12 ra), kGd G pg 12 (oA 12 pa), kH G rr 2 (oR e0 e1), kGd G e0 (vT w0) (oA (vT w0) qa), kGd G e1 (vT w1) (oA (vT w1) qb), kC G sp 2 (nR (w2 (vS w0) (vS w1))), kC G ot 2 (nR (w2 (vO w0) (vO w1))), kC G wo 8 (nR (unB (vK w0) bf (vM w0 - (i + 1)) (i + 1)))] ++ sT G ra pa qa qb (rugF (wUn w0 (i + 1)) w1) (planF w0 w1) (vT w0) (runF w0) (vT w1) (runF w1)) := hD
          exact ih_9 (i + 1) (by omega) (by omega) _ _ _ hP hD hS (lv_sub hl [3, 4, 5, 2, 0] rfl)
  rw [rug_un0, ← unB_0 (K := vK w0) (B := bf) (a := vM w0)] at hP hD
  exact loop_9 (k + 1) 0 (by omega) (by omega) H locs ls hP hD hS (lv_sub hl [2, 3, 4, 1, 0] rfl)
set_option maxHeartbeats 4000000 in
set_option maxRecDepth 100000 in
theorem s_unpick1 (l : Launch) (G : kG) (o : Nat) (rg : Nat) (pg : Nat) (rr : Nat) (e0 : Nat) (e1 : Nat) (sp : Nat) (ot : Nat) (wo : Nat) (ra : Nat → Nat) (pa : Nat → Nat) (qa : Nat → Nat) (qb : Nat → Nat) (w0 : Wv) (w1 : Wv) (bf : Nat → Nat) (ho : Nat) (un : Nat) (k : Nat) (h0 : wOk w0) (h1 : wOk w1) (hB : bOk bf) (hk : k ≤ vM w1) : kM l G yX4_unpick wsX4_unpick ({ frames := 2, cells := 0, slots := 0, locals := 43 } : Room) [.ref o, .int (nI 1), .int (nI k)] ([kO o 4 [.ref rg, .ref pg, .ref rr, .ref sp, .ref ot, .ref wo, .int (nI ho), .int (nI un)], kGd G rg 12 (oA 12 ra), kGd G pg 12 (oA 12 pa), kH G rr 2 (oR e0 e1), kGd G e0 (vT w0) (oA (vT w0) qa), kGd G e1 (vT w1) (oA (vT w1) qb), kC G sp 2 (nR (w2 (vS w0) (vS w1))), kC G ot 2 (nR (w2 (vO w0) (vO w1))), kC G wo 8 (nR bf)] ++ sT G ra pa qa qb (rugF w0 w1) (planF w0 w1) (vT w0) (runF w0) (vT w1) (runF w1)) (kQi G ([kO o 4 [.ref rg, .ref pg, .ref rr, .ref sp, .ref ot, .ref wo, .int (nI ho), .int (nI un)], kGd G rg 12 (oA 12 ra), kGd G pg 12 (oA 12 pa), kH G rr 2 (oR e0 e1), kGd G e0 (vT w0) (oA (vT w0) qa), kGd G e1 (vT w1) (oA (vT w1) qb), kC G sp 2 (nR (w2 (vS w0) (vS w1))), kC G ot 2 (nR (w2 (vO w0) (vO w1))), kC G wo 8 (nR bf)] ++ sT G ra pa qa qb (rugF w0 w1) (planF w0 w1) (vT w0) (runF w0) (vT w1) (runF w1)) (fun (r : Int32) (_ : Unit) => r = nI (vM w1 - k)) (fun (_ : Unit) => ([kO o 4 [.ref rg, .ref pg, .ref rr, .ref sp, .ref ot, .ref wo, .int (nI ho), .int (nI (un + k))], kGd G rg 12 (oA 12 ra), kGd G pg 12 (oA 12 pa), kH G rr 2 (oR e0 e1), kGd G e0 (vT w0) (oA (vT w0) qa), kGd G e1 (vT (wUn w1 k)) (oA (vT (wUn w1 k)) qb), kC G sp 2 (nR (w2 (vS w0) (vS (wUn w1 k)))), kC G ot 2 (nR (w2 (vO w0) (vO (wUn w1 k)))), kC G wo 8 (nR (unB (vK w1) bf (vM w1 - k) k))] ++ sT G ra pa qa qb (rugF w0 (wUn w1 k)) (planF w0 (wUn w1 k)) (vT w0) (runF w0) (vT (wUn w1 k)) (runF (wUn w1 k))))) := by
  refine k_ofW (cc := cX4_unpick) (maxL := 6) (rt := (some .int)) (by decide) rfl (Nat.le_of_ble_eq_true rfl) ?_
  intro p e s m args below meth c A ls Qs H locs hQ hAe hx hb hr hml hts hown hlocks hin hK hZ hP hD hS hA hl
  have hown : s.vm.findClass RX4 = some m.cls := hown
  have hl : lv_has ls 6 [(0, .ref o), (1, .int (nI 1)), (2, .int (nI k))] := hl
  have m0b : vM w0 ≤ 60 := h0.2.2.2.1
  have m1b : vM w1 ≤ 60 := h1.2.2.2.1
  have t0b : vT w0 ≤ 20 := h0.2.2.1
  have t1b : vT w1 ≤ 20 := h1.2.2.1
  have pb0 : ∀ i, i < 60 → vP w0 i < 8 := h0.2.2.2.2.1
  have pb1 : ∀ i, i < 60 → vP w1 i < 8 := h1.2.2.2.2.1
  have kb0 : ∀ i, i < 60 → vK w0 i < 8 := h0.2.2.2.2.2.1
  have kb1 : ∀ i, i < 60 → vK w1 i < 8 := h1.2.2.2.2.2.1
  have cb0 : ∀ i, i < vT w0 → vC w0 i < 8 := h0.2.2.2.2.2.2.1
  have cb1 : ∀ i, i < vT w1 → vC w1 i < 8 := h1.2.2.2.2.2.2.1
  have nb0 : ∀ i, i < vT w0 → 1 ≤ vN w0 i ∧ vN w0 i ≤ 60 := h0.2.2.2.2.2.2.2
  have nb1 : ∀ i, i < vT w1 → 1 ≤ vN w1 i ∧ vN w1 i ≤ 60 := h1.2.2.2.2.2.2.2
  have sb0 : vS w0 ≤ 6 := h0.2.1
  have sb1 : vS w1 ≤ 6 := h1.2.1
  have hq_0 : ∀ w ∈ wsX40, w ∈ wsX4_unpick := by decide +kernel
  have hq_1 : (Cond.fieldLink RX4 9 "KnotRugsLaw$Sim" "rug" "[[I").before args s = true := hts _ (by decide +kernel)
  have hq_2 : (Cond.fieldLink RX4 29 "KnotRugsLaw$Sim" "wool" "[I").before args s = true := hts _ (by decide +kernel)
  have hq_3 : (Cond.fieldLink RX4 42 "KnotRugsLaw$Sim" "unpicked" "I").before args s = true := hts _ (by decide +kernel)
  refine lv_aload_n hx hb dX4_unpick_0 rfl (lv_at hl 0 rfl) ?_
  refine lv_iload_n hx hb dX4_unpick_1 rfl (lv_at hl 1 rfl) ?_
  refine k_callPi (S := Unit) (wfx := fun _ => [kO o 4 [.ref rg, .ref pg, .ref rr, .ref sp, .ref ot, .ref wo, .int (nI ho), .int (nI un)], kGd G rg 12 (oA 12 ra), kGd G pg 12 (oA 12 pa), kH G rr 2 (oR e0 e1), kGd G e0 (vT w0) (oA (vT w0) qa), kGd G e1 (vT w1) (oA (vT w1) qb), kC G sp 2 (nR (w2 (vS w0) (vS w1))), kC G ot 2 (nR (w2 (vO w0) (vO w1))), kC G wo 8 (nR bf)]) (wfp := fun _ => sT G ra pa qa qb (rugF w0 w1) (planF w0 w1) (vT w0) (runF w0) (vT w1) (runF w1)) (fun _ => [kO o 4 [.ref rg, .ref pg, .ref rr, .ref sp, .ref ot, .ref wo, .int (nI ho), .int (nI un)], kGd G rg 12 (oA 12 ra), kGd G pg 12 (oA 12 pa), kH G rr 2 (oR e0 e1), kGd G e0 (vT w0) (oA (vT w0) qa), kGd G e1 (vT w1) (oA (vT w1) qb), kC G sp 2 (nR (w2 (vS w0) (vS w1))), kC G ot 2 (nR (w2 (vO w0) (vO w1))), kC G wo 8 (nR bf)]) [] (k_runVP (As := [.int (nI 1)]) (rest := []) (cx := [kO o 4 [.ref rg, .ref pg, .ref rr, .ref sp, .ref ot, .ref wo, .int (nI ho), .int (nI un)], kGd G rg 12 (oA 12 ra), kGd G pg 12 (oA 12 pa), kH G rr 2 (oR e0 e1), kGd G e0 (vT w0) (oA (vT w0) qa), kGd G e1 (vT w1) (oA (vT w1) qb), kC G sp 2 (nR (w2 (vS w0) (vS w1))), kC G ot 2 (nR (w2 (vO w0) (vO w1))), kC G wo 8 (nR bf)]) ⟨hx, hb, hml, hown, hts⟩ (s_knots1 l G o rg pg rr e0 e1 sp ot wo ra pa qa qb w0 w1 bf ho un h0 h1 hB) (cwV 1 hts gX4_unpick_X4_knots rfl rfl rfl (by decide +kernel) ⟨Nat.le_of_ble_eq_true rfl, Nat.le_of_ble_eq_true rfl⟩) hK hZ hP hD hS hA [0, 1, 2, 3, 4, 5, 6, 7, 8] rfl rfl 0 4 rfl rfl rfl rfl hl.1 rfl (Nat.le_of_ble_eq_true rfl) dX4_unpick_2 ⟨(Nat.le_of_ble_eq_true rfl), (Nat.le_of_ble_eq_true rfl)⟩) hP hD hS hA [0, 1, 2, 3, 4, 5, 6, 7, 8] [] [0, 1, 2, 3, 4, 5, 6, 7, 8] rfl rfl rfl (by decide) (fun _ => rfl) rfl (fun r_2 u_2 H locs hp_2 hP hD hS => ?_)
  have hp_2 : r_2 = nI (vM w1) := hp_2
  subst hp_2
  refine lv_istore_n (lv' := [(3, .int (nI (vM w1))), (0, .ref o), (1, .int (nI 1)), (2, .int (nI k))]) hx hb dX4_unpick_5 rfl hl (by decide) rfl (fun ls hl => ?_)
  refine lv_iconst (v := nI 0) hx hb dX4_unpick_6 (by decide) ?_
  refine lv_istore (lv' := [(4, .int (nI 0)), (3, .int (nI (vM w1))), (0, .ref o), (1, .int (nI 1)), (2, .int (nI k))]) hx hb dX4_unpick_7 hl (by decide) rfl (fun ls hl => ?_)
  have loop_9 : ∀ (fu_9 : Nat) (i : Nat), i ≤ k → k < i + fu_9 → ∀ (H : Heap) (locs : List Loc) (ls : Array Slot), va_P G.1 vwCl ([kO o 4 [.ref rg, .ref pg, .ref rr, .ref sp, .ref ot, .ref wo, .int (nI ho), .int (nI (un + i))], kGd G rg 12 (oA 12 ra), kGd G pg 12 (oA 12 pa), kH G rr 2 (oR e0 e1), kGd G e0 (vT w0) (oA (vT w0) qa), kGd G e1 (vT w1) (oA (vT w1) qb), kC G sp 2 (nR (w2 (vS w0) (vS w1))), kC G ot 2 (nR (w2 (vO w0) (vO w1))), kC G wo 8 (nR (unB (vK w1) bf (vM w1 - (i)) (i)))] ++ sT G ra pa qa qb (rugF w0 (wUn w1 (i))) (planF w0 w1) (vT w0) (runF w0) (vT w1) (runF w1)) H → va_D A ([kO o 4 [.ref rg, .ref pg, .ref rr, .ref sp, .ref ot, .ref wo, .int (nI ho), .int (nI (un + i))], kGd G rg 12 (oA 12 ra), kGd G pg 12 (oA 12 pa), kH G rr 2 (oR e0 e1), kGd G e0 (vT w0) (oA (vT w0) qa), kGd G e1 (vT w1) (oA (vT w1) qb), kC G sp 2 (nR (w2 (vS w0) (vS w1))), kC G ot 2 (nR (w2 (vO w0) (vO w1))), kC G wo 8 (nR (unB (vK w1) bf (vM w1 - (i)) (i)))] ++ sT G ra pa qa qb (rugF w0 (wUn w1 (i))) (planF w0 w1) (vT w0) (runF w0) (vT w1) (runF w1)) → va_S A s.heap H locs → lv_has ls 6 [(0, .ref o), (1, .int (nI 1)), (2, .int (nI k)), (3, .int (nI (vM w1 - i))), (4, .int (nI i))] → W p l e ({ frames := 2, cells := 0, slots := 0, locals := 43 } : Room) s m args below meth c H locs 0 0 Qs (F0 m 9 ls []) := by
    intro fu_9
    induction fu_9 with
    | zero =>
      intro i hi hf
      exact absurd hf (by omega)
    | succ fu_9 ih_9 =>
      intro i hi hf H locs ls hP hD hS hl
      refine lv_iload hx hb dX4_unpick_9 (lv_at hl 4 rfl) ?_
      refine lv_iload_n hx hb dX4_unpick_11 rfl (lv_at hl 2 rfl) ?_
      refine lv_icmp_ge (tgt := 91) hx hb dX4_unpick_12 (by decide) (fun c_12 => ?_) (fun c_12 => ?_)
      · have c_12 : k ≤ i := (nI_leI (a := k) (b := i) (by omega) (by omega)).mp c_12
        refine lv_iload_n hx hb dX4_unpick_91 rfl (lv_at hl 3 rfl) ?_
        have hi9 : i = k := by omega
        subst hi9
        rw [plan_un1 (k := i)] at hP hD
        exact k_iret (ws := ([kO o 4 [.ref rg, .ref pg, .ref rr, .ref sp, .ref ot, .ref wo, .int (nI ho), .int (nI un)], kGd G rg 12 (oA 12 ra), kGd G pg 12 (oA 12 pa), kH G rr 2 (oR e0 e1), kGd G e0 (vT w0) (oA (vT w0) qa), kGd G e1 (vT w1) (oA (vT w1) qb), kC G sp 2 (nR (w2 (vS w0) (vS w1))), kC G ot 2 (nR (w2 (vO w0) (vO w1))), kC G wo 8 (nR bf)] ++ sT G ra pa qa qb (rugF w0 w1) (planF w0 w1) (vT w0) (runF w0) (vT w1) (runF w1))) (()) hx hb hr hlocks hP hD hS hAe hQ (Nat.le_of_ble_eq_true rfl) (Nat.le_of_ble_eq_true rfl) dX4_unpick_92 (rfl) (rfl)
      · have c_12 : ¬ (k ≤ i) := fun h9 => c_12 ((nI_leI (a := k) (b := i) (by omega) (by omega)).mpr h9)
        refine lv_iinc (v := nI (vM w1 - (i + 1))) (lv' := [(3, .int (nI (vM w1 - (i + 1)))), (0, .ref o), (1, .int (nI 1)), (2, .int (nI k)), (4, .int (nI i))]) hx hb dX4_unpick_15 hl (k := 3) rfl ((by have := ii_m1 (p := vM w1 - i) (by omega); rw [show vM w1 - i - 1 = vM w1 - (i + 1) by omega] at this; exact this)) (by decide) rfl (fun ls hl => ?_)
        refine lv_aload_n hx hb dX4_unpick_18 rfl (lv_at hl 1 rfl) ?_
        refine va_get (D := G.1) (ci := 4) (v := .ref rg) (C := RX4) (T := TX4) (N := 8) hx hb hts hq_0 hown hK.1 hP 0 rfl rfl 0 (by decide) hq_1 (fun _ h9 => h9) rfl dX4_unpick_19 ?_
        refine lv_iload_n hx hb dX4_unpick_22 rfl (lv_at hl 2 rfl) ?_
        refine lv_iload_n hx hb dX4_unpick_23 rfl (lv_at hl 0 rfl) ?_
        refine k_callQi (S := Unit) (wfx := fun _ => []) (fun _ => [kO o 4 [.ref rg, .ref pg, .ref rr, .ref sp, .ref ot, .ref wo, .int (nI ho), .int (nI (un + i))], kGd G rg 12 (oA 12 ra), kGd G pg 12 (oA 12 pa), kH G rr 2 (oR e0 e1), kGd G e0 (vT w0) (oA (vT w0) qa), kGd G e1 (vT w1) (oA (vT w1) qb), kC G sp 2 (nR (w2 (vS w0) (vS w1))), kC G ot 2 (nR (w2 (vO w0) (vO w1))), kC G wo 8 (nR (unB (vK w1) bf (vM w1 - (i)) (i)))]) [kO o 4 [.ref rg, .ref pg, .ref rr, .ref sp, .ref ot, .ref wo, .int (nI ho), .int (nI (un + i))], kGd G rg 12 (oA 12 ra), kGd G pg 12 (oA 12 pa), kH G rr 2 (oR e0 e1), kGd G e0 (vT w0) (oA (vT w0) qa), kGd G e1 (vT w1) (oA (vT w1) qb), kC G sp 2 (nR (w2 (vS w0) (vS w1))), kC G ot 2 (nR (w2 (vO w0) (vO w1))), kC G wo 8 (nR (unB (vK w1) bf (vM w1 - (i)) (i)))] (k_runS (As := [.int (nI 1), .int (nI (vM w1 - (i + 1)))]) (rest := [.ref rg]) (wc := []) ⟨hx, hb, hml, hown, hts⟩ (s_x1 l G (vM w1 - (i + 1)) (by omega)) (va_cwS 2 hts gX4_unpick_X4_x rfl rfl rfl (by decide +kernel) ⟨Nat.le_of_ble_eq_true rfl, Nat.le_of_ble_eq_true rfl⟩) hK hZ hP hD hS hA [] rfl rfl rfl hl.1 rfl (Nat.le_of_ble_eq_true rfl) dX4_unpick_24 ⟨(Nat.le_of_ble_eq_true rfl), (Nat.le_of_ble_eq_true rfl)⟩) hP hD hS hA [] [0, 1, 2, 3, 4, 5, 6, 7, 8] [0, 1, 2, 3, 4, 5, 6, 7, 8] rfl rfl rfl rfl (by decide) (fun _ => rfl) rfl (fun r_24 u_24 H locs hp_24 hP hD hS => ?_)
        have hp_24 : r_24 = nI (colOf 1 (vM w1 - (i + 1))) := hp_24
        subst hp_24
        have hi_1 : (colOf 1 (vM w1 - (i + 1))) < 12 := colOf_lt
        refine k_aldg hx hb hK hP 1 (colOf 1 (vM w1 - (i + 1))) rfl (vp_in_nI hi_1 (by omega)) (nI_clamp (Nat.lt_of_lt_of_le hi_1 (by omega))) (oA_at hi_1) dX4_unpick_27 ?_
        refine lv_iload_n hx hb dX4_unpick_28 rfl (lv_at hl 0 rfl) ?_
        refine lv_bipush (v := nI 6) hx hb dX4_unpick_29 (by decide) ?_
        refine lv_idiv hx hb dX4_unpick_31 (by first | decide | (intro h; exact absurd ((nI_eq (by omega) (by omega)).mp h) (by omega))) ?_
        refine lv_topi (fun y_2 hy_2 => ?_)
        obtain rfl : y_2 = nI ((vM w1 - (i + 1)) / 6) := hy_2.trans (pk_div (a := (vM w1 - (i + 1))) (d := 6) (by omega) (by omega) (by omega))
        have hi_3 : ((vM w1 - (i + 1)) / 6) < 10 := by omega
        refine va_iald (D := G.1) hx hb hK.1 hP _ 0 (sT_r (i := (colOf 1 (vM w1 - (i + 1)))) colOf_lt) rfl (vp_in_nI hi_3 (by omega)) dX4_unpick_32 ?_
        refine lv_topi (fun y_4 hy_4 => ?_)
        obtain rfl : y_4 = (rugF w0 (wUn w1 (i))) (colOf 1 (vM w1 - (i + 1))) ((vM w1 - (i + 1)) / 6) := hy_4.trans (congrArg _ (nI_clamp (by omega)))
        refine lv_topi (fun y_5 hy_5 => ?_)
        obtain rfl : y_5 = nI (vK w1 (vM w1 - (i + 1))) := hy_5.trans ((rug_c1 (by omega)).trans (kaN_t (show (vM w1 - (i + 1)) < vM w1 - i by omega)).symm)
        have hkK : vK w1 (vM w1 - (i + 1)) < 8 := kb1 _ (by omega)
        have hbK : unB (vK w1) bf (vM w1 - i) i (vK w1 (vM w1 - (i + 1))) ≤ 200 := unB_ok hB _ hkK
        refine lv_istore (lv' := [(5, .int (nI (vK w1 (vM w1 - (i + 1))))), (3, .int (nI (vM w1 - (i + 1)))), (0, .ref o), (1, .int (nI 1)), (2, .int (nI k)), (4, .int (nI i))]) hx hb dX4_unpick_33 hl (by decide) rfl (fun ls hl => ?_)
        refine lv_aload_n hx hb dX4_unpick_35 rfl (lv_at hl 2 rfl) ?_
        refine va_get (D := G.1) (ci := 4) (v := .ref wo) (C := RX4) (T := TX4) (N := 8) hx hb hts hq_0 hown hK.1 hP 0 rfl rfl 5 (by decide) hq_2 (fun _ h9 => h9) rfl dX4_unpick_36 ?_
        refine lv_iload hx hb dX4_unpick_39 (lv_at hl 0 rfl) ?_
        have hi_6 : (vK w1 (vM w1 - (i + 1))) < 8 := by omega
        refine va_iald (D := G.1) hx hb hK.1 hP 8 0 rfl rfl (vp_in_nI hi_6 (by omega)) dX4_unpick_41 ?_
        refine lv_topi (fun y_7 hy_7 => ?_)
        obtain rfl : y_7 = nI ((unB (vK w1) bf (vM w1 - (i)) (i)) (vK w1 (vM w1 - (i + 1)))) := hy_7.trans (nR_at (by omega))
        refine lv_sipush (v := nI 200) hx hb dX4_unpick_42 (by decide) ?_
        refine lv_icmp_ge (tgt := 59) hx hb dX4_unpick_45 (by decide) (fun c_45 => ?_) (fun c_45 => ?_)
        · have c_45 : 200 ≤ ((unB (vK w1) bf (vM w1 - (i)) (i)) (vK w1 (vM w1 - (i + 1)))) := (nI_leI (a := 200) (b := ((unB (vK w1) bf (vM w1 - (i)) (i)) (vK w1 (vM w1 - (i + 1))))) (by omega) (by omega)).mp c_45
          have hun : unB (vK w1) bf (vM w1 - i) i = unB (vK w1) bf (vM w1 - (i + 1)) (i + 1) := by
            have e9 : vM w1 - i = vM w1 - (i + 1) + 1 := by omega
            rw [e9] at c_45 ⊢
            exact un_ge rfl (hB _ hkK) (by omega)
          rw [hun] at hP hD
          have hP : va_P G.1 vwCl ([kO o 4 [.ref rg, .ref pg, .ref rr, .ref sp, .ref ot, .ref wo, .int (nI ho), .int (nI (un + i))], kGd G rg 12 (oA 12 ra), kGd G pg 12 (oA 12 pa), kH G rr 2 (oR e0 e1), kGd G e0 (vT w0) (oA (vT w0) qa), kGd G e1 (vT w1) (oA (vT w1) qb), kC G sp 2 (nR (w2 (vS w0) (vS w1))), kC G ot 2 (nR (w2 (vO w0) (vO w1))), kC G wo 8 (nR (unB (vK w1) bf (vM w1 - (i + 1)) (i + 1)))] ++ sT G ra pa qa qb (rugF w0 (wUn w1 (i))) (planF w0 w1) (vT w0) (runF w0) (vT w1) (runF w1)) H := hP
          have hD : va_D A ([kO o 4 [.ref rg, .ref pg, .ref rr, .ref sp, .ref ot, .ref wo, .int (nI ho), .int (nI (un + i))], kGd G rg 12 (oA 12 ra), kGd G pg 12 (oA 12 pa), kH G rr 2 (oR e0 e1), kGd G e0 (vT w0) (oA (vT w0) qa), kGd G e1 (vT w1) (oA (vT w1) qb), kC G sp 2 (nR (w2 (vS w0) (vS w1))), kC G ot 2 (nR (w2 (vO w0) (vO w1))), kC G wo 8 (nR (unB (vK w1) bf (vM w1 - (i + 1)) (i + 1)))] ++ sT G ra pa qa qb (rugF w0 (wUn w1 (i))) (planF w0 w1) (vT w0) (runF w0) (vT w1) (runF w1)) := hD
          refine lv_aload_n hx hb dX4_unpick_59 rfl (lv_at hl 2 rfl) ?_
          refine va_get (D := G.1) (ci := 4) (v := .ref rg) (C := RX4) (T := TX4) (N := 8) hx hb hts hq_0 hown hK.1 hP 0 rfl rfl 0 (by decide) hq_1 (fun _ h9 => h9) rfl dX4_unpick_60 ?_
          refine lv_iload_n hx hb dX4_unpick_63 rfl (lv_at hl 3 rfl) ?_
          refine lv_iload_n hx hb dX4_unpick_64 rfl (lv_at hl 1 rfl) ?_
          refine k_callQi (S := Unit) (wfx := fun _ => []) (fun _ => [kO o 4 [.ref rg, .ref pg, .ref rr, .ref sp, .ref ot, .ref wo, .int (nI ho), .int (nI (un + i))], kGd G rg 12 (oA 12 ra), kGd G pg 12 (oA 12 pa), kH G rr 2 (oR e0 e1), kGd G e0 (vT w0) (oA (vT w0) qa), kGd G e1 (vT w1) (oA (vT w1) qb), kC G sp 2 (nR (w2 (vS w0) (vS w1))), kC G ot 2 (nR (w2 (vO w0) (vO w1))), kC G wo 8 (nR (unB (vK w1) bf (vM w1 - (i + 1)) (i + 1)))]) [kO o 4 [.ref rg, .ref pg, .ref rr, .ref sp, .ref ot, .ref wo, .int (nI ho), .int (nI (un + i))], kGd G rg 12 (oA 12 ra), kGd G pg 12 (oA 12 pa), kH G rr 2 (oR e0 e1), kGd G e0 (vT w0) (oA (vT w0) qa), kGd G e1 (vT w1) (oA (vT w1) qb), kC G sp 2 (nR (w2 (vS w0) (vS w1))), kC G ot 2 (nR (w2 (vO w0) (vO w1))), kC G wo 8 (nR (unB (vK w1) bf (vM w1 - (i + 1)) (i + 1)))] (k_runS (As := [.int (nI 1), .int (nI (vM w1 - (i + 1)))]) (rest := [.ref rg]) (wc := []) ⟨hx, hb, hml, hown, hts⟩ (s_x1 l G (vM w1 - (i + 1)) (by omega)) (va_cwS 2 hts gX4_unpick_X4_x rfl rfl rfl (by decide +kernel) ⟨Nat.le_of_ble_eq_true rfl, Nat.le_of_ble_eq_true rfl⟩) hK hZ hP hD hS hA [] rfl rfl rfl hl.1 rfl (Nat.le_of_ble_eq_true rfl) dX4_unpick_65 ⟨(Nat.le_of_ble_eq_true rfl), (Nat.le_of_ble_eq_true rfl)⟩) hP hD hS hA [] [0, 1, 2, 3, 4, 5, 6, 7, 8] [0, 1, 2, 3, 4, 5, 6, 7, 8] rfl rfl rfl rfl (by decide) (fun _ => rfl) rfl (fun r_65 u_65 H locs hp_65 hP hD hS => ?_)
          have hp_65 : r_65 = nI (colOf 1 (vM w1 - (i + 1))) := hp_65
          subst hp_65
          have hi_8 : (colOf 1 (vM w1 - (i + 1))) < 12 := colOf_lt
          refine k_aldg hx hb hK hP 1 (colOf 1 (vM w1 - (i + 1))) rfl (vp_in_nI hi_8 (by omega)) (nI_clamp (Nat.lt_of_lt_of_le hi_8 (by omega))) (oA_at hi_8) dX4_unpick_68 ?_
          refine lv_iload_n hx hb dX4_unpick_69 rfl (lv_at hl 1 rfl) ?_
          refine lv_bipush (v := nI 6) hx hb dX4_unpick_70 (by decide) ?_
          refine lv_idiv hx hb dX4_unpick_72 (by first | decide | (intro h; exact absurd ((nI_eq (by omega) (by omega)).mp h) (by omega))) ?_
          refine lv_topi (fun y_9 hy_9 => ?_)
          obtain rfl : y_9 = nI ((vM w1 - (i + 1)) / 6) := hy_9.trans (pk_div (a := (vM w1 - (i + 1))) (d := 6) (by omega) (by omega) (by omega))
          refine lv_iconst (v := (-1)) hx hb dX4_unpick_73 (by decide) ?_
          have hi_10 : ((vM w1 - (i + 1)) / 6) < 10 := by omega
          refine va_iast (D := G.1) hx hb hK.1 hP hD hS _ 0 (sT_r (i := (colOf 1 (vM w1 - (i + 1)))) colOf_lt) rfl (vp_in_nI hi_10 (by omega)) dX4_unpick_74 (fun H locs hP hD hS => ?_)
          rw [nI_clamp (n := ((vM w1 - (i + 1)) / 6)) (by omega), sT_rs colOf_lt] at hP hD
          have hP : va_P G.1 vwCl ([kO o 4 [.ref rg, .ref pg, .ref rr, .ref sp, .ref ot, .ref wo, .int (nI ho), .int (nI (un + i))], kGd G rg 12 (oA 12 ra), kGd G pg 12 (oA 12 pa), kH G rr 2 (oR e0 e1), kGd G e0 (vT w0) (oA (vT w0) qa), kGd G e1 (vT w1) (oA (vT w1) qb), kC G sp 2 (nR (w2 (vS w0) (vS w1))), kC G ot 2 (nR (w2 (vO w0) (vO w1))), kC G wo 8 (nR (unB (vK w1) bf (vM w1 - (i + 1)) (i + 1)))] ++ sT G ra pa qa qb (updR (rugF w0 (wUn w1 (i))) (colOf 1 (vM w1 - (i + 1))) ((vM w1 - (i + 1)) / 6) (-1)) (planF w0 w1) (vT w0) (runF w0) (vT w1) (runF w1)) H := hP
          have hD : va_D A ([kO o 4 [.ref rg, .ref pg, .ref rr, .ref sp, .ref ot, .ref wo, .int (nI ho), .int (nI (un + i))], kGd G rg 12 (oA 12 ra), kGd G pg 12 (oA 12 pa), kH G rr 2 (oR e0 e1), kGd G e0 (vT w0) (oA (vT w0) qa), kGd G e1 (vT w1) (oA (vT w1) qb), kC G sp 2 (nR (w2 (vS w0) (vS w1))), kC G ot 2 (nR (w2 (vO w0) (vO w1))), kC G wo 8 (nR (unB (vK w1) bf (vM w1 - (i + 1)) (i + 1)))] ++ sT G ra pa qa qb (updR (rugF w0 (wUn w1 (i))) (colOf 1 (vM w1 - (i + 1))) ((vM w1 - (i + 1)) / 6) (-1)) (planF w0 w1) (vT w0) (runF w0) (vT w1) (runF w1)) := hD
          have hru : updR (rugF w0 (wUn w1 i)) (colOf 1 (vM w1 - (i + 1))) ((vM w1 - (i + 1)) / 6) (-1) = rugF w0 (wUn w1 (i + 1)) := rug_u1 (by omega) (kaW_un (by omega)) (fun j _ hj => kaW_un_o (by omega) hj)
          rw [hru] at hP hD
          have hP : va_P G.1 vwCl ([kO o 4 [.ref rg, .ref pg, .ref rr, .ref sp, .ref ot, .ref wo, .int (nI ho), .int (nI (un + i))], kGd G rg 12 (oA 12 ra), kGd G pg 12 (oA 12 pa), kH G rr 2 (oR e0 e1), kGd G e0 (vT w0) (oA (vT w0) qa), kGd G e1 (vT w1) (oA (vT w1) qb), kC G sp 2 (nR (w2 (vS w0) (vS w1))), kC G ot 2 (nR (w2 (vO w0) (vO w1))), kC G wo 8 (nR (unB (vK w1) bf (vM w1 - (i + 1)) (i + 1)))] ++ sT G ra pa qa qb (rugF w0 (wUn w1 (i + 1))) (planF w0 w1) (vT w0) (runF w0) (vT w1) (runF w1)) H := hP
          have hD : va_D A ([kO o 4 [.ref rg, .ref pg, .ref rr, .ref sp, .ref ot, .ref wo, .int (nI ho), .int (nI (un + i))], kGd G rg 12 (oA 12 ra), kGd G pg 12 (oA 12 pa), kH G rr 2 (oR e0 e1), kGd G e0 (vT w0) (oA (vT w0) qa), kGd G e1 (vT w1) (oA (vT w1) qb), kC G sp 2 (nR (w2 (vS w0) (vS w1))), kC G ot 2 (nR (w2 (vO w0) (vO w1))), kC G wo 8 (nR (unB (vK w1) bf (vM w1 - (i + 1)) (i + 1)))] ++ sT G ra pa qa qb (rugF w0 (wUn w1 (i + 1))) (planF w0 w1) (vT w0) (runF w0) (vT w1) (runF w1)) := hD
          refine lv_aload_n hx hb dX4_unpick_75 rfl (lv_at hl 2 rfl) ?_
          refine lv_dup hx hb dX4_unpick_76 rfl ?_
          refine va_get (D := G.1) (ci := 4) (v := .int (nI (un + i))) (C := RX4) (T := TX4) (N := 8) hx hb hts hq_0 hown hK.1 hP 0 rfl rfl 7 (by decide) hq_3 (fun _ h9 => h9) rfl dX4_unpick_77 ?_
          refine lv_iconst (v := nI 1) hx hb dX4_unpick_80 (by decide) ?_
          refine lv_iadd hx hb dX4_unpick_81 ?_
          refine lv_topi (fun y_11 hy_11 => ?_)
          obtain rfl : y_11 = nI ((un + i) + 1) := hy_11.trans (nI_add (un + i) 1)
          refine va_put (D := G.1) (ci := 4) (v := .int (nI ((un + i) + 1))) (ty := .int) (C := RX4) (T := TX4) (N := 8) hx hb hts hq_0 tyX4 tyX4_ok nmX4 hown hK.1 hP hD hS 0 rfl rfl 7 (by decide) hq_3 (fun _ h9 => h9) rfl (by decide +kernel) rfl rfl (Nat.le_of_ble_eq_true rfl) dX4_unpick_82 (fun H locs hP hD hS => ?_)
          have hP : va_P G.1 vwCl ([kO o 4 [.ref rg, .ref pg, .ref rr, .ref sp, .ref ot, .ref wo, .int (nI ho), .int (nI ((un + i) + 1))], kGd G rg 12 (oA 12 ra), kGd G pg 12 (oA 12 pa), kH G rr 2 (oR e0 e1), kGd G e0 (vT w0) (oA (vT w0) qa), kGd G e1 (vT w1) (oA (vT w1) qb), kC G sp 2 (nR (w2 (vS w0) (vS w1))), kC G ot 2 (nR (w2 (vO w0) (vO w1))), kC G wo 8 (nR (unB (vK w1) bf (vM w1 - (i + 1)) (i + 1)))] ++ sT G ra pa qa qb (rugF w0 (wUn w1 (i + 1))) (planF w0 w1) (vT w0) (runF w0) (vT w1) (runF w1)) H := hP
          have hD : va_D A ([kO o 4 [.ref rg, .ref pg, .ref rr, .ref sp, .ref ot, .ref wo, .int (nI ho), .int (nI ((un + i) + 1))], kGd G rg 12 (oA 12 ra), kGd G pg 12 (oA 12 pa), kH G rr 2 (oR e0 e1), kGd G e0 (vT w0) (oA (vT w0) qa), kGd G e1 (vT w1) (oA (vT w1) qb), kC G sp 2 (nR (w2 (vS w0) (vS w1))), kC G ot 2 (nR (w2 (vO w0) (vO w1))), kC G wo 8 (nR (unB (vK w1) bf (vM w1 - (i + 1)) (i + 1)))] ++ sT G ra pa qa qb (rugF w0 (wUn w1 (i + 1))) (planF w0 w1) (vT w0) (runF w0) (vT w1) (runF w1)) := hD
          refine lv_iinc (v := nI (i + 1)) (lv' := [(4, .int (nI (i + 1))), (5, .int (nI (vK w1 (vM w1 - (i + 1))))), (3, .int (nI (vM w1 - (i + 1)))), (0, .ref o), (1, .int (nI 1)), (2, .int (nI k))]) hx hb dX4_unpick_85 hl (k := 5) rfl (nI_add i 1) (by decide) rfl (fun ls hl => ?_)
          refine lv_goto (tgt := 9) hx hb dX4_unpick_88 (by decide) ?_
          have hP : va_P G.1 vwCl ([kO o 4 [.ref rg, .ref pg, .ref rr, .ref sp, .ref ot, .ref wo, .int (nI ho), .int (nI (un + (i + 1)))], kGd G rg 12 (oA 12 ra), kGd G pg 12 (oA 12 pa), kH G rr 2 (oR e0 e1), kGd G e0 (vT w0) (oA (vT w0) qa), kGd G e1 (vT w1) (oA (vT w1) qb), kC G sp 2 (nR (w2 (vS w0) (vS w1))), kC G ot 2 (nR (w2 (vO w0) (vO w1))), kC G wo 8 (nR (unB (vK w1) bf (vM w1 - (i + 1)) (i + 1)))] ++ sT G ra pa qa qb (rugF w0 (wUn w1 (i + 1))) (planF w0 w1) (vT w0) (runF w0) (vT w1) (runF w1)) H := hP
          have hD : va_D A ([kO o 4 [.ref rg, .ref pg, .ref rr, .ref sp, .ref ot, .ref wo, .int (nI ho), .int (nI (un + (i + 1)))], kGd G rg 12 (oA 12 ra), kGd G pg 12 (oA 12 pa), kH G rr 2 (oR e0 e1), kGd G e0 (vT w0) (oA (vT w0) qa), kGd G e1 (vT w1) (oA (vT w1) qb), kC G sp 2 (nR (w2 (vS w0) (vS w1))), kC G ot 2 (nR (w2 (vO w0) (vO w1))), kC G wo 8 (nR (unB (vK w1) bf (vM w1 - (i + 1)) (i + 1)))] ++ sT G ra pa qa qb (rugF w0 (wUn w1 (i + 1))) (planF w0 w1) (vT w0) (runF w0) (vT w1) (runF w1)) := hD
          exact ih_9 (i + 1) (by omega) (by omega) _ _ _ hP hD hS (lv_sub hl [3, 4, 5, 2, 0] rfl)
        · have c_45 : ¬ (200 ≤ ((unB (vK w1) bf (vM w1 - (i)) (i)) (vK w1 (vM w1 - (i + 1))))) := fun h9 => c_45 ((nI_leI (a := 200) (b := ((unB (vK w1) bf (vM w1 - (i)) (i)) (vK w1 (vM w1 - (i + 1))))) (by omega) (by omega)).mpr h9)
          refine lv_aload_n hx hb dX4_unpick_48 rfl (lv_at hl 2 rfl) ?_
          refine va_get (D := G.1) (ci := 4) (v := .ref wo) (C := RX4) (T := TX4) (N := 8) hx hb hts hq_0 hown hK.1 hP 0 rfl rfl 5 (by decide) hq_2 (fun _ h9 => h9) rfl dX4_unpick_49 ?_
          refine lv_iload hx hb dX4_unpick_52 (lv_at hl 0 rfl) ?_
          refine lv_dup2_11 hx hb dX4_unpick_54 rfl rfl ?_
          have hi_12 : (vK w1 (vM w1 - (i + 1))) < 8 := by omega
          refine va_iald (D := G.1) hx hb hK.1 hP 8 0 rfl rfl (vp_in_nI hi_12 (by omega)) dX4_unpick_55 ?_
          refine lv_topi (fun y_13 hy_13 => ?_)
          obtain rfl : y_13 = nI ((unB (vK w1) bf (vM w1 - (i)) (i)) (vK w1 (vM w1 - (i + 1)))) := hy_13.trans (nR_at (by omega))
          refine lv_iconst (v := nI 1) hx hb dX4_unpick_56 (by decide) ?_
          refine lv_iadd hx hb dX4_unpick_57 ?_
          refine lv_topi (fun y_14 hy_14 => ?_)
          obtain rfl : y_14 = nI (((unB (vK w1) bf (vM w1 - (i)) (i)) (vK w1 (vM w1 - (i + 1)))) + 1) := hy_14.trans (nI_add ((unB (vK w1) bf (vM w1 - (i)) (i)) (vK w1 (vM w1 - (i + 1)))) 1)
          have hi_15 : (vK w1 (vM w1 - (i + 1))) < 8 := by omega
          refine va_iast (D := G.1) hx hb hK.1 hP hD hS 8 0 rfl rfl (vp_in_nI hi_15 (by omega)) dX4_unpick_58 (fun H locs hP hD hS => ?_)
          rw [nR_upd (f := (unB (vK w1) bf (vM w1 - (i)) (i))) (k := (vK w1 (vM w1 - (i + 1)))) (v := (((unB (vK w1) bf (vM w1 - (i)) (i)) (vK w1 (vM w1 - (i + 1)))) + 1)) (by omega)] at hP hD
          have hP : va_P G.1 vwCl ([kO o 4 [.ref rg, .ref pg, .ref rr, .ref sp, .ref ot, .ref wo, .int (nI ho), .int (nI (un + i))], kGd G rg 12 (oA 12 ra), kGd G pg 12 (oA 12 pa), kH G rr 2 (oR e0 e1), kGd G e0 (vT w0) (oA (vT w0) qa), kGd G e1 (vT w1) (oA (vT w1) qb), kC G sp 2 (nR (w2 (vS w0) (vS w1))), kC G ot 2 (nR (w2 (vO w0) (vO w1))), kC G wo 8 (nR (updN (unB (vK w1) bf (vM w1 - (i)) (i)) (vK w1 (vM w1 - (i + 1))) (((unB (vK w1) bf (vM w1 - (i)) (i)) (vK w1 (vM w1 - (i + 1)))) + 1)))] ++ sT G ra pa qa qb (rugF w0 (wUn w1 (i))) (planF w0 w1) (vT w0) (runF w0) (vT w1) (runF w1)) H := hP
          have hD : va_D A ([kO o 4 [.ref rg, .ref pg, .ref rr, .ref sp, .ref ot, .ref wo, .int (nI ho), .int (nI (un + i))], kGd G rg 12 (oA 12 ra), kGd G pg 12 (oA 12 pa), kH G rr 2 (oR e0 e1), kGd G e0 (vT w0) (oA (vT w0) qa), kGd G e1 (vT w1) (oA (vT w1) qb), kC G sp 2 (nR (w2 (vS w0) (vS w1))), kC G ot 2 (nR (w2 (vO w0) (vO w1))), kC G wo 8 (nR (updN (unB (vK w1) bf (vM w1 - (i)) (i)) (vK w1 (vM w1 - (i + 1))) (((unB (vK w1) bf (vM w1 - (i)) (i)) (vK w1 (vM w1 - (i + 1)))) + 1)))] ++ sT G ra pa qa qb (rugF w0 (wUn w1 (i))) (planF w0 w1) (vT w0) (runF w0) (vT w1) (runF w1)) := hD
          have hun : updN (unB (vK w1) bf (vM w1 - i) i) (vK w1 (vM w1 - (i + 1))) (unB (vK w1) bf (vM w1 - i) i (vK w1 (vM w1 - (i + 1))) + 1) = unB (vK w1) bf (vM w1 - (i + 1)) (i + 1) := by
            have e9 : vM w1 - i = vM w1 - (i + 1) + 1 := by omega
            rw [e9] at c_45 ⊢
            exact un_lt rfl (hB _ hkK) (by omega)
          rw [hun] at hP hD
          have hP : va_P G.1 vwCl ([kO o 4 [.ref rg, .ref pg, .ref rr, .ref sp, .ref ot, .ref wo, .int (nI ho), .int (nI (un + i))], kGd G rg 12 (oA 12 ra), kGd G pg 12 (oA 12 pa), kH G rr 2 (oR e0 e1), kGd G e0 (vT w0) (oA (vT w0) qa), kGd G e1 (vT w1) (oA (vT w1) qb), kC G sp 2 (nR (w2 (vS w0) (vS w1))), kC G ot 2 (nR (w2 (vO w0) (vO w1))), kC G wo 8 (nR (unB (vK w1) bf (vM w1 - (i + 1)) (i + 1)))] ++ sT G ra pa qa qb (rugF w0 (wUn w1 (i))) (planF w0 w1) (vT w0) (runF w0) (vT w1) (runF w1)) H := hP
          have hD : va_D A ([kO o 4 [.ref rg, .ref pg, .ref rr, .ref sp, .ref ot, .ref wo, .int (nI ho), .int (nI (un + i))], kGd G rg 12 (oA 12 ra), kGd G pg 12 (oA 12 pa), kH G rr 2 (oR e0 e1), kGd G e0 (vT w0) (oA (vT w0) qa), kGd G e1 (vT w1) (oA (vT w1) qb), kC G sp 2 (nR (w2 (vS w0) (vS w1))), kC G ot 2 (nR (w2 (vO w0) (vO w1))), kC G wo 8 (nR (unB (vK w1) bf (vM w1 - (i + 1)) (i + 1)))] ++ sT G ra pa qa qb (rugF w0 (wUn w1 (i))) (planF w0 w1) (vT w0) (runF w0) (vT w1) (runF w1)) := hD
          refine lv_aload_n hx hb dX4_unpick_59 rfl (lv_at hl 2 rfl) ?_
          refine va_get (D := G.1) (ci := 4) (v := .ref rg) (C := RX4) (T := TX4) (N := 8) hx hb hts hq_0 hown hK.1 hP 0 rfl rfl 0 (by decide) hq_1 (fun _ h9 => h9) rfl dX4_unpick_60 ?_
          refine lv_iload_n hx hb dX4_unpick_63 rfl (lv_at hl 3 rfl) ?_
          refine lv_iload_n hx hb dX4_unpick_64 rfl (lv_at hl 1 rfl) ?_
          refine k_callQi (S := Unit) (wfx := fun _ => []) (fun _ => [kO o 4 [.ref rg, .ref pg, .ref rr, .ref sp, .ref ot, .ref wo, .int (nI ho), .int (nI (un + i))], kGd G rg 12 (oA 12 ra), kGd G pg 12 (oA 12 pa), kH G rr 2 (oR e0 e1), kGd G e0 (vT w0) (oA (vT w0) qa), kGd G e1 (vT w1) (oA (vT w1) qb), kC G sp 2 (nR (w2 (vS w0) (vS w1))), kC G ot 2 (nR (w2 (vO w0) (vO w1))), kC G wo 8 (nR (unB (vK w1) bf (vM w1 - (i + 1)) (i + 1)))]) [kO o 4 [.ref rg, .ref pg, .ref rr, .ref sp, .ref ot, .ref wo, .int (nI ho), .int (nI (un + i))], kGd G rg 12 (oA 12 ra), kGd G pg 12 (oA 12 pa), kH G rr 2 (oR e0 e1), kGd G e0 (vT w0) (oA (vT w0) qa), kGd G e1 (vT w1) (oA (vT w1) qb), kC G sp 2 (nR (w2 (vS w0) (vS w1))), kC G ot 2 (nR (w2 (vO w0) (vO w1))), kC G wo 8 (nR (unB (vK w1) bf (vM w1 - (i + 1)) (i + 1)))] (k_runS (As := [.int (nI 1), .int (nI (vM w1 - (i + 1)))]) (rest := [.ref rg]) (wc := []) ⟨hx, hb, hml, hown, hts⟩ (s_x1 l G (vM w1 - (i + 1)) (by omega)) (va_cwS 2 hts gX4_unpick_X4_x rfl rfl rfl (by decide +kernel) ⟨Nat.le_of_ble_eq_true rfl, Nat.le_of_ble_eq_true rfl⟩) hK hZ hP hD hS hA [] rfl rfl rfl hl.1 rfl (Nat.le_of_ble_eq_true rfl) dX4_unpick_65 ⟨(Nat.le_of_ble_eq_true rfl), (Nat.le_of_ble_eq_true rfl)⟩) hP hD hS hA [] [0, 1, 2, 3, 4, 5, 6, 7, 8] [0, 1, 2, 3, 4, 5, 6, 7, 8] rfl rfl rfl rfl (by decide) (fun _ => rfl) rfl (fun r_65 u_65 H locs hp_65 hP hD hS => ?_)
          have hp_65 : r_65 = nI (colOf 1 (vM w1 - (i + 1))) := hp_65
          subst hp_65
          have hi_16 : (colOf 1 (vM w1 - (i + 1))) < 12 := colOf_lt
          refine k_aldg hx hb hK hP 1 (colOf 1 (vM w1 - (i + 1))) rfl (vp_in_nI hi_16 (by omega)) (nI_clamp (Nat.lt_of_lt_of_le hi_16 (by omega))) (oA_at hi_16) dX4_unpick_68 ?_
          refine lv_iload_n hx hb dX4_unpick_69 rfl (lv_at hl 1 rfl) ?_
          refine lv_bipush (v := nI 6) hx hb dX4_unpick_70 (by decide) ?_
          refine lv_idiv hx hb dX4_unpick_72 (by first | decide | (intro h; exact absurd ((nI_eq (by omega) (by omega)).mp h) (by omega))) ?_
          refine lv_topi (fun y_17 hy_17 => ?_)
          obtain rfl : y_17 = nI ((vM w1 - (i + 1)) / 6) := hy_17.trans (pk_div (a := (vM w1 - (i + 1))) (d := 6) (by omega) (by omega) (by omega))
          refine lv_iconst (v := (-1)) hx hb dX4_unpick_73 (by decide) ?_
          have hi_18 : ((vM w1 - (i + 1)) / 6) < 10 := by omega
          refine va_iast (D := G.1) hx hb hK.1 hP hD hS _ 0 (sT_r (i := (colOf 1 (vM w1 - (i + 1)))) colOf_lt) rfl (vp_in_nI hi_18 (by omega)) dX4_unpick_74 (fun H locs hP hD hS => ?_)
          rw [nI_clamp (n := ((vM w1 - (i + 1)) / 6)) (by omega), sT_rs colOf_lt] at hP hD
          have hP : va_P G.1 vwCl ([kO o 4 [.ref rg, .ref pg, .ref rr, .ref sp, .ref ot, .ref wo, .int (nI ho), .int (nI (un + i))], kGd G rg 12 (oA 12 ra), kGd G pg 12 (oA 12 pa), kH G rr 2 (oR e0 e1), kGd G e0 (vT w0) (oA (vT w0) qa), kGd G e1 (vT w1) (oA (vT w1) qb), kC G sp 2 (nR (w2 (vS w0) (vS w1))), kC G ot 2 (nR (w2 (vO w0) (vO w1))), kC G wo 8 (nR (unB (vK w1) bf (vM w1 - (i + 1)) (i + 1)))] ++ sT G ra pa qa qb (updR (rugF w0 (wUn w1 (i))) (colOf 1 (vM w1 - (i + 1))) ((vM w1 - (i + 1)) / 6) (-1)) (planF w0 w1) (vT w0) (runF w0) (vT w1) (runF w1)) H := hP
          have hD : va_D A ([kO o 4 [.ref rg, .ref pg, .ref rr, .ref sp, .ref ot, .ref wo, .int (nI ho), .int (nI (un + i))], kGd G rg 12 (oA 12 ra), kGd G pg 12 (oA 12 pa), kH G rr 2 (oR e0 e1), kGd G e0 (vT w0) (oA (vT w0) qa), kGd G e1 (vT w1) (oA (vT w1) qb), kC G sp 2 (nR (w2 (vS w0) (vS w1))), kC G ot 2 (nR (w2 (vO w0) (vO w1))), kC G wo 8 (nR (unB (vK w1) bf (vM w1 - (i + 1)) (i + 1)))] ++ sT G ra pa qa qb (updR (rugF w0 (wUn w1 (i))) (colOf 1 (vM w1 - (i + 1))) ((vM w1 - (i + 1)) / 6) (-1)) (planF w0 w1) (vT w0) (runF w0) (vT w1) (runF w1)) := hD
          have hru : updR (rugF w0 (wUn w1 i)) (colOf 1 (vM w1 - (i + 1))) ((vM w1 - (i + 1)) / 6) (-1) = rugF w0 (wUn w1 (i + 1)) := rug_u1 (by omega) (kaW_un (by omega)) (fun j _ hj => kaW_un_o (by omega) hj)
          rw [hru] at hP hD
          have hP : va_P G.1 vwCl ([kO o 4 [.ref rg, .ref pg, .ref rr, .ref sp, .ref ot, .ref wo, .int (nI ho), .int (nI (un + i))], kGd G rg 12 (oA 12 ra), kGd G pg 12 (oA 12 pa), kH G rr 2 (oR e0 e1), kGd G e0 (vT w0) (oA (vT w0) qa), kGd G e1 (vT w1) (oA (vT w1) qb), kC G sp 2 (nR (w2 (vS w0) (vS w1))), kC G ot 2 (nR (w2 (vO w0) (vO w1))), kC G wo 8 (nR (unB (vK w1) bf (vM w1 - (i + 1)) (i + 1)))] ++ sT G ra pa qa qb (rugF w0 (wUn w1 (i + 1))) (planF w0 w1) (vT w0) (runF w0) (vT w1) (runF w1)) H := hP
          have hD : va_D A ([kO o 4 [.ref rg, .ref pg, .ref rr, .ref sp, .ref ot, .ref wo, .int (nI ho), .int (nI (un + i))], kGd G rg 12 (oA 12 ra), kGd G pg 12 (oA 12 pa), kH G rr 2 (oR e0 e1), kGd G e0 (vT w0) (oA (vT w0) qa), kGd G e1 (vT w1) (oA (vT w1) qb), kC G sp 2 (nR (w2 (vS w0) (vS w1))), kC G ot 2 (nR (w2 (vO w0) (vO w1))), kC G wo 8 (nR (unB (vK w1) bf (vM w1 - (i + 1)) (i + 1)))] ++ sT G ra pa qa qb (rugF w0 (wUn w1 (i + 1))) (planF w0 w1) (vT w0) (runF w0) (vT w1) (runF w1)) := hD
          refine lv_aload_n hx hb dX4_unpick_75 rfl (lv_at hl 2 rfl) ?_
          refine lv_dup hx hb dX4_unpick_76 rfl ?_
          refine va_get (D := G.1) (ci := 4) (v := .int (nI (un + i))) (C := RX4) (T := TX4) (N := 8) hx hb hts hq_0 hown hK.1 hP 0 rfl rfl 7 (by decide) hq_3 (fun _ h9 => h9) rfl dX4_unpick_77 ?_
          refine lv_iconst (v := nI 1) hx hb dX4_unpick_80 (by decide) ?_
          refine lv_iadd hx hb dX4_unpick_81 ?_
          refine lv_topi (fun y_19 hy_19 => ?_)
          obtain rfl : y_19 = nI ((un + i) + 1) := hy_19.trans (nI_add (un + i) 1)
          refine va_put (D := G.1) (ci := 4) (v := .int (nI ((un + i) + 1))) (ty := .int) (C := RX4) (T := TX4) (N := 8) hx hb hts hq_0 tyX4 tyX4_ok nmX4 hown hK.1 hP hD hS 0 rfl rfl 7 (by decide) hq_3 (fun _ h9 => h9) rfl (by decide +kernel) rfl rfl (Nat.le_of_ble_eq_true rfl) dX4_unpick_82 (fun H locs hP hD hS => ?_)
          have hP : va_P G.1 vwCl ([kO o 4 [.ref rg, .ref pg, .ref rr, .ref sp, .ref ot, .ref wo, .int (nI ho), .int (nI ((un + i) + 1))], kGd G rg 12 (oA 12 ra), kGd G pg 12 (oA 12 pa), kH G rr 2 (oR e0 e1), kGd G e0 (vT w0) (oA (vT w0) qa), kGd G e1 (vT w1) (oA (vT w1) qb), kC G sp 2 (nR (w2 (vS w0) (vS w1))), kC G ot 2 (nR (w2 (vO w0) (vO w1))), kC G wo 8 (nR (unB (vK w1) bf (vM w1 - (i + 1)) (i + 1)))] ++ sT G ra pa qa qb (rugF w0 (wUn w1 (i + 1))) (planF w0 w1) (vT w0) (runF w0) (vT w1) (runF w1)) H := hP
          have hD : va_D A ([kO o 4 [.ref rg, .ref pg, .ref rr, .ref sp, .ref ot, .ref wo, .int (nI ho), .int (nI ((un + i) + 1))], kGd G rg 12 (oA 12 ra), kGd G pg 12 (oA 12 pa), kH G rr 2 (oR e0 e1), kGd G e0 (vT w0) (oA (vT w0) qa), kGd G e1 (vT w1) (oA (vT w1) qb), kC G sp 2 (nR (w2 (vS w0) (vS w1))), kC G ot 2 (nR (w2 (vO w0) (vO w1))), kC G wo 8 (nR (unB (vK w1) bf (vM w1 - (i + 1)) (i + 1)))] ++ sT G ra pa qa qb (rugF w0 (wUn w1 (i + 1))) (planF w0 w1) (vT w0) (runF w0) (vT w1) (runF w1)) := hD
          refine lv_iinc (v := nI (i + 1)) (lv' := [(4, .int (nI (i + 1))), (5, .int (nI (vK w1 (vM w1 - (i + 1))))), (3, .int (nI (vM w1 - (i + 1)))), (0, .ref o), (1, .int (nI 1)), (2, .int (nI k))]) hx hb dX4_unpick_85 hl (k := 5) rfl (nI_add i 1) (by decide) rfl (fun ls hl => ?_)
          refine lv_goto (tgt := 9) hx hb dX4_unpick_88 (by decide) ?_
          have hP : va_P G.1 vwCl ([kO o 4 [.ref rg, .ref pg, .ref rr, .ref sp, .ref ot, .ref wo, .int (nI ho), .int (nI (un + (i + 1)))], kGd G rg 12 (oA 12 ra), kGd G pg 12 (oA 12 pa), kH G rr 2 (oR e0 e1), kGd G e0 (vT w0) (oA (vT w0) qa), kGd G e1 (vT w1) (oA (vT w1) qb), kC G sp 2 (nR (w2 (vS w0) (vS w1))), kC G ot 2 (nR (w2 (vO w0) (vO w1))), kC G wo 8 (nR (unB (vK w1) bf (vM w1 - (i + 1)) (i + 1)))] ++ sT G ra pa qa qb (rugF w0 (wUn w1 (i + 1))) (planF w0 w1) (vT w0) (runF w0) (vT w1) (runF w1)) H := hP
          have hD : va_D A ([kO o 4 [.ref rg, .ref pg, .ref rr, .ref sp, .ref ot, .ref wo, .int (nI ho), .int (nI (un + (i + 1)))], kGd G rg 12 (oA 12 ra), kGd G pg 12 (oA 12 pa), kH G rr 2 (oR e0 e1), kGd G e0 (vT w0) (oA (vT w0) qa), kGd G e1 (vT w1) (oA (vT w1) qb), kC G sp 2 (nR (w2 (vS w0) (vS w1))), kC G ot 2 (nR (w2 (vO w0) (vO w1))), kC G wo 8 (nR (unB (vK w1) bf (vM w1 - (i + 1)) (i + 1)))] ++ sT G ra pa qa qb (rugF w0 (wUn w1 (i + 1))) (planF w0 w1) (vT w0) (runF w0) (vT w1) (runF w1)) := hD
          exact ih_9 (i + 1) (by omega) (by omega) _ _ _ hP hD hS (lv_sub hl [3, 4, 5, 2, 0] rfl)
  rw [rug_un1, ← unB_0 (K := vK w1) (B := bf) (a := vM w1)] at hP hD
  exact loop_9 (k + 1) 0 (by omega) (by omega) H locs ls hP hD hS (lv_sub hl [2, 3, 4, 1, 0] rfl)
