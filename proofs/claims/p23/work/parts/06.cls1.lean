set_option maxHeartbeats 4000000 in
set_option maxRecDepth 100000 in
theorem c_at (l : Launch) (G : kG) (h : Nat) (n : Nat) (f : Nat → Nat) (k : Nat) (hk : k < n) (hn : n < 2 ^ 31) : kM l G yX3_at wsX3_at ({ frames := 0, cells := 0, slots := 0, locals := 0 } : Room) [.ref h, .int (nI k)] [kC G h n (nR f)] (kQi G [kC G h n (nR f)] (fun (r : Int32) (_ : Unit) => r = nI (f k)) (fun (_ : Unit) => [kC G h n (nR f)])) := by
  refine k_ofW (cc := cX3_at) (maxL := 2) (rt := (some .int)) (by decide) rfl (Nat.le_of_ble_eq_true rfl) ?_
  intro p e s m args below meth c A ls Qs H locs hQ hAe hx hb hr hml hts hown hlocks hin hK hZ hP hD hS hA hl
  have hown : s.vm.findClass RX3 = some m.cls := hown
  have hl : lv_has ls 2 [(0, .ref h), (1, .int (nI k))] := hl
  refine lv_iload_n hx hb dX3_at_0 rfl (lv_at hl 1 rfl) ?_
  refine lv_if_lt (tgt := 16) hx hb dX3_at_1 (by decide) (fun c_1 => absurd c_1 (nI_pos (n := k) (by omega))) (fun c_1 => ?_)
  refine lv_iload_n hx hb dX3_at_4 rfl (lv_at hl 1 rfl) ?_
  refine lv_aload_n hx hb dX3_at_5 rfl (lv_at hl 0 rfl) ?_
  refine va_alen (D := G.1) (v := nI n) hx hb hK.1 hP 0 0 rfl rfl rfl dX3_at_6 ?_
  refine lv_icmp_ge (tgt := 16) hx hb dX3_at_7 (by decide) (fun c_7 => absurd ((nI_leI (a := n) (b := k) (by omega) (by omega)).mp c_7) (by omega)) (fun c_7 => ?_)
  have c_7 : ¬ (n ≤ k) := fun h9 => c_7 ((nI_leI (a := n) (b := k) (by omega) (by omega)).mpr h9)
  refine lv_aload_n hx hb dX3_at_10 rfl (lv_at hl 0 rfl) ?_
  refine lv_iload_n hx hb dX3_at_11 rfl (lv_at hl 1 rfl) ?_
  have hi_1 : k < n := by omega
  refine va_iald (D := G.1) hx hb hK.1 hP 0 0 rfl rfl (vp_in_nI hi_1 (by omega)) dX3_at_12 ?_
  refine lv_topi (fun y_2 hy_2 => ?_)
  obtain rfl : y_2 = nI (f k) := hy_2.trans (nR_at (by omega))
  refine lv_goto (tgt := 17) hx hb dX3_at_13 (by decide) ?_
  exact k_iret (ws := [kC G h n (nR f)]) (()) hx hb hr hlocks hP hD hS hAe hQ (Nat.le_of_ble_eq_true rfl) (Nat.le_of_ble_eq_true rfl) dX3_at_17 (rfl) (rfl)
set_option maxHeartbeats 4000000 in
set_option maxRecDepth 100000 in
theorem c_put (l : Launch) (G : kG) (h : Nat) (n : Nat) (f : Nat → Nat) (k : Nat) (v : Nat) (hk : k < n) (hn : n < 2 ^ 31) : kM l G yX3_put wsX3_put ({ frames := 0, cells := 0, slots := 0, locals := 0 } : Room) [.ref h, .int (nI k), .int (nI v)] [kC G h n (nR f)] (kQv G [kC G h n (nR f)] (fun (_ : Unit) => True) (fun (_ : Unit) => [kC G h n (nR (updN f k v))])) := by
  refine k_ofW (cc := cX3_put) (maxL := 3) (rt := none) (by decide) rfl (Nat.le_of_ble_eq_true rfl) ?_
  intro p e s m args below meth c A ls Qs H locs hQ hAe hx hb hr hml hts hown hlocks hin hK hZ hP hD hS hA hl
  have hown : s.vm.findClass RX3 = some m.cls := hown
  have hl : lv_has ls 3 [(0, .ref h), (1, .int (nI k)), (2, .int (nI v))] := hl
  refine lv_iload_n hx hb dX3_put_0 rfl (lv_at hl 1 rfl) ?_
  refine lv_if_lt (tgt := 14) hx hb dX3_put_1 (by decide) (fun c_1 => absurd c_1 (nI_pos (n := k) (by omega))) (fun c_1 => ?_)
  refine lv_iload_n hx hb dX3_put_4 rfl (lv_at hl 1 rfl) ?_
  refine lv_aload_n hx hb dX3_put_5 rfl (lv_at hl 0 rfl) ?_
  refine va_alen (D := G.1) (v := nI n) hx hb hK.1 hP 0 0 rfl rfl rfl dX3_put_6 ?_
  refine lv_icmp_ge (tgt := 14) hx hb dX3_put_7 (by decide) (fun c_7 => absurd ((nI_leI (a := n) (b := k) (by omega) (by omega)).mp c_7) (by omega)) (fun c_7 => ?_)
  have c_7 : ¬ (n ≤ k) := fun h9 => c_7 ((nI_leI (a := n) (b := k) (by omega) (by omega)).mpr h9)
  refine lv_aload_n hx hb dX3_put_10 rfl (lv_at hl 0 rfl) ?_
  refine lv_iload_n hx hb dX3_put_11 rfl (lv_at hl 1 rfl) ?_
  refine lv_iload_n hx hb dX3_put_12 rfl (lv_at hl 2 rfl) ?_
  have hi_1 : k < n := by omega
  refine va_iast (D := G.1) hx hb hK.1 hP hD hS 0 0 rfl rfl (vp_in_nI hi_1 (by omega)) dX3_put_13 (fun H locs hP hD hS => ?_)
  rw [nR_upd (f := f) (k := k) (v := v) (by omega)] at hP hD
  have hP : va_P G.1 vwCl [kC G h n (nR (updN f k v))] H := hP
  have hD : va_D A [kC G h n (nR (updN f k v))] := hD
  exact k_vret (ws := [kC G h n (nR f)]) (()) hx hb hr hlocks hP hD hS hAe hQ (Nat.le_of_ble_eq_true rfl) (Nat.le_of_ble_eq_true rfl) dX3_put_14 (rfl) (trivial)
set_option maxHeartbeats 4000000 in
set_option maxRecDepth 100000 in
theorem c_sideOf (l : Launch) (G : kG) (x : Nat) (hx9 : x < 12) : kM l G yX3_sideOf wsX3_sideOf ({ frames := 0, cells := 0, slots := 0, locals := 0 } : Room) [.int (nI x)] [] (kQi G [] (fun (r : Int32) (_ : Unit) => r = nI (sdN x)) (fun (_ : Unit) => [])) := by
  refine k_ofW (cc := cX3_sideOf) (maxL := 1) (rt := (some .int)) (by decide) rfl (Nat.le_of_ble_eq_true rfl) ?_
  intro p e s m args below meth c A ls Qs H locs hQ hAe hx hb hr hml hts hown hlocks hin hK hZ hP hD hS hA hl
  have hown : s.vm.findClass RX3 = some m.cls := hown
  have hl : lv_has ls 1 [(0, .int (nI x))] := hl
  refine lv_iload_n hx hb dX3_sideOf_0 rfl (lv_at hl 0 rfl) ?_
  refine lv_bipush (v := nI 6) hx hb dX3_sideOf_1 (by decide) ?_
  refine lv_icmp_ge (tgt := 10) hx hb dX3_sideOf_3 (by decide) (fun c_3 => ?_) (fun c_3 => ?_)
  · have c_3 : 6 ≤ x := (nI_leI (a := 6) (b := x) (by omega) (by omega)).mp c_3
    refine lv_iconst (v := nI 1) hx hb dX3_sideOf_10 (by decide) ?_
    exact k_iret (ws := []) (()) hx hb hr hlocks hP hD hS hAe hQ (Nat.le_of_ble_eq_true rfl) (Nat.le_of_ble_eq_true rfl) dX3_sideOf_11 (rfl) (by unfold sdN; first | rw [if_pos (by omega)] | rw [if_neg (by omega)])
  · have c_3 : ¬ (6 ≤ x) := fun h9 => c_3 ((nI_leI (a := 6) (b := x) (by omega) (by omega)).mpr h9)
    refine lv_iconst (v := nI 0) hx hb dX3_sideOf_6 (by decide) ?_
    refine lv_goto (tgt := 11) hx hb dX3_sideOf_7 (by decide) ?_
    exact k_iret (ws := []) (()) hx hb hr hlocks hP hD hS hAe hQ (Nat.le_of_ble_eq_true rfl) (Nat.le_of_ble_eq_true rfl) dX3_sideOf_11 (rfl) (by unfold sdN; first | rw [if_pos (by omega)] | rw [if_neg (by omega)])
set_option maxHeartbeats 4000000 in
set_option maxRecDepth 100000 in
theorem c_placeOf (l : Launch) (G : kG) (x : Nat) (y : Nat) (hx9 : x < 12) (hy9 : y < 10) : kM l G yX3_placeOf wsX3_placeOf ({ frames := 0, cells := 0, slots := 0, locals := 0 } : Room) [.int (nI x), .int (nI y)] [] (kQi G [] (fun (r : Int32) (_ : Unit) => r = nI (plN x y)) (fun (_ : Unit) => [])) := by
  refine k_ofW (cc := cX3_placeOf) (maxL := 2) (rt := (some .int)) (by decide) rfl (Nat.le_of_ble_eq_true rfl) ?_
  intro p e s m args below meth c A ls Qs H locs hQ hAe hx hb hr hml hts hown hlocks hin hK hZ hP hD hS hA hl
  have hown : s.vm.findClass RX3 = some m.cls := hown
  have hl : lv_has ls 2 [(0, .int (nI x)), (1, .int (nI y))] := hl
  refine lv_bipush (v := nI 6) hx hb dX3_placeOf_0 (by decide) ?_
  refine lv_iload_n hx hb dX3_placeOf_2 rfl (lv_at hl 1 rfl) ?_
  refine lv_imul hx hb dX3_placeOf_3 ?_
  refine lv_topi (fun y_1 hy_1 => ?_)
  obtain rfl : y_1 = nI (6 * y) := hy_1.trans (pk_mul 6 y)
  refine lv_iload_n hx hb dX3_placeOf_4 rfl (lv_at hl 0 rfl) ?_
  refine lv_bipush (v := nI 6) hx hb dX3_placeOf_5 (by decide) ?_
  refine lv_icmp_ge (tgt := 14) hx hb dX3_placeOf_7 (by decide) (fun c_7 => ?_) (fun c_7 => ?_)
  · have c_7 : 6 ≤ x := (nI_leI (a := 6) (b := x) (by omega) (by omega)).mp c_7
    refine lv_bipush (v := nI 11) hx hb dX3_placeOf_14 (by decide) ?_
    refine lv_iload_n hx hb dX3_placeOf_16 rfl (lv_at hl 0 rfl) ?_
    refine lv_isub hx hb dX3_placeOf_17 ?_
    refine lv_topi (fun y_2 hy_2 => ?_)
    obtain rfl : y_2 = nI (11 - x) := hy_2.trans (pk_sub (a := 11) (b := x) (by omega))
    refine lv_iadd hx hb dX3_placeOf_18 ?_
    refine lv_topi (fun y_3 hy_3 => ?_)
    obtain rfl : y_3 = nI ((6 * y) + (11 - x)) := hy_3.trans (nI_add (6 * y) (11 - x))
    exact k_iret (ws := []) (()) hx hb hr hlocks hP hD hS hAe hQ (Nat.le_of_ble_eq_true rfl) (Nat.le_of_ble_eq_true rfl) dX3_placeOf_19 (rfl) (by unfold plN; first | rw [if_pos (by omega)] | rw [if_neg (by omega)])
  · have c_7 : ¬ (6 ≤ x) := fun h9 => c_7 ((nI_leI (a := 6) (b := x) (by omega) (by omega)).mpr h9)
    refine lv_iload_n hx hb dX3_placeOf_10 rfl (lv_at hl 0 rfl) ?_
    refine lv_goto (tgt := 18) hx hb dX3_placeOf_11 (by decide) ?_
    refine lv_iadd hx hb dX3_placeOf_18 ?_
    refine lv_topi (fun y_4 hy_4 => ?_)
    obtain rfl : y_4 = nI ((6 * y) + x) := hy_4.trans (nI_add (6 * y) x)
    exact k_iret (ws := []) (()) hx hb hr hlocks hP hD hS hAe hQ (Nat.le_of_ble_eq_true rfl) (Nat.le_of_ble_eq_true rfl) dX3_placeOf_19 (rfl) (by unfold plN; first | rw [if_pos (by omega)] | rw [if_neg (by omega)])
set_option maxHeartbeats 4000000 in
set_option maxRecDepth 100000 in
theorem c_copyRow (l : Launch) (G : kG) (a : Nat) (b : Nat) (n : Nat) (f : Nat → Nat) (g : Nat → Nat) (hn : n < 2 ^ 31) : kM l G yX3_copyRow wsX3_copyRow ({ frames := 0, cells := 0, slots := 0, locals := 0 } : Room) [.ref a, .ref b] [kC G a n (nR f), kC G b n (nR g)] (kQv G [kC G a n (nR f), kC G b n (nR g)] (fun (_ : Unit) => True) (fun (_ : Unit) => [kC G a n (nR f), kC G b n (nR f)])) := by
  refine k_ofW (cc := cX3_copyRow) (maxL := 3) (rt := none) (by decide) rfl (Nat.le_of_ble_eq_true rfl) ?_
  intro p e s m args below meth c A ls Qs H locs hQ hAe hx hb hr hml hts hown hlocks hin hK hZ hP hD hS hA hl
  have hown : s.vm.findClass RX3 = some m.cls := hown
  have hl : lv_has ls 3 [(0, .ref a), (1, .ref b)] := hl
  refine lv_iconst (v := nI 0) hx hb dX3_copyRow_0 (by decide) ?_
  refine lv_istore_n (lv' := [(2, .int (nI 0)), (0, .ref a), (1, .ref b)]) hx hb dX3_copyRow_1 rfl hl (by decide) rfl (fun ls hl => ?_)
  have loop_2 : ∀ (fu_2 : Nat) (i : Nat), i ≤ n → n < i + fu_2 → ∀ (H : Heap) (locs : List Loc) (ls : Array Slot), va_P G.1 vwCl [kC G a n (nR f), kC G b n (nR (cpN f g i))] H → va_D A [kC G a n (nR f), kC G b n (nR (cpN f g i))] → va_S A s.heap H locs → lv_has ls 3 [(0, .ref a), (1, .ref b), (2, .int (nI i))] → W p l e ({ frames := 0, cells := 0, slots := 0, locals := 0 } : Room) s m args below meth c H locs 0 0 Qs (F0 m 2 ls []) := by
    intro fu_2
    induction fu_2 with
    | zero =>
      intro i hi hf
      exact absurd hf (by omega)
    | succ fu_2 ih_2 =>
      intro i hi hf H locs ls hP hD hS hl
      refine lv_iload_n hx hb dX3_copyRow_2 rfl (lv_at hl 2 rfl) ?_
      refine lv_aload_n hx hb dX3_copyRow_3 rfl (lv_at hl 0 rfl) ?_
      refine va_alen (D := G.1) (v := nI n) hx hb hK.1 hP 0 0 rfl rfl rfl dX3_copyRow_4 ?_
      refine lv_icmp_ge (tgt := 26) hx hb dX3_copyRow_5 (by decide) (fun c_5 => ?_) (fun c_5 => ?_)
      · have c_5 : n ≤ i := (nI_leI (a := n) (b := i) (by omega) (by omega)).mp c_5
        have hi9 : i = n := by omega
        rw [hi9] at hP hD
        have hP := kP_swap hP 1 (nR f) rfl rfl (fun j hj => congrArg nI (if_pos hj))
        have hD := kD_swap (e := .inl (G.2.1, n, .inl (nR f))) hD 1 rfl rfl
        have hP : va_P G.1 vwCl [kC G a n (nR f), kC G b n (nR f)] H := hP
        have hD : va_D A [kC G a n (nR f), kC G b n (nR f)] := hD
        exact k_vret (ws := [kC G a n (nR f), kC G b n (nR g)]) (()) hx hb hr hlocks hP hD hS hAe hQ (Nat.le_of_ble_eq_true rfl) (Nat.le_of_ble_eq_true rfl) dX3_copyRow_26 (rfl) (trivial)
      · have c_5 : ¬ (n ≤ i) := fun h9 => c_5 ((nI_leI (a := n) (b := i) (by omega) (by omega)).mpr h9)
        refine lv_iload_n hx hb dX3_copyRow_8 rfl (lv_at hl 2 rfl) ?_
        refine lv_aload_n hx hb dX3_copyRow_9 rfl (lv_at hl 1 rfl) ?_
        refine va_alen (D := G.1) (v := nI n) hx hb hK.1 hP 1 0 rfl rfl rfl dX3_copyRow_10 ?_
        refine lv_icmp_ge (tgt := 26) hx hb dX3_copyRow_11 (by decide) (fun c_11 => absurd ((nI_leI (a := n) (b := i) (by omega) (by omega)).mp c_11) (by omega)) (fun c_11 => ?_)
        have c_11 : ¬ (n ≤ i) := fun h9 => c_11 ((nI_leI (a := n) (b := i) (by omega) (by omega)).mpr h9)
        refine lv_aload_n hx hb dX3_copyRow_14 rfl (lv_at hl 1 rfl) ?_
        refine lv_iload_n hx hb dX3_copyRow_15 rfl (lv_at hl 2 rfl) ?_
        refine lv_aload_n hx hb dX3_copyRow_16 rfl (lv_at hl 0 rfl) ?_
        refine lv_iload_n hx hb dX3_copyRow_17 rfl (lv_at hl 2 rfl) ?_
        have hi_1 : i < n := by omega
        refine va_iald (D := G.1) hx hb hK.1 hP 0 0 rfl rfl (vp_in_nI hi_1 (by omega)) dX3_copyRow_18 ?_
        refine lv_topi (fun y_2 hy_2 => ?_)
        obtain rfl : y_2 = nI (f i) := hy_2.trans (nR_at (by omega))
        have hi_3 : i < n := by omega
        refine va_iast (D := G.1) hx hb hK.1 hP hD hS 1 0 rfl rfl (vp_in_nI hi_3 (by omega)) dX3_copyRow_19 (fun H locs hP hD hS => ?_)
        rw [nR_upd (f := (cpN f g i)) (k := i) (v := (f i)) (by omega)] at hP hD
        have hP : va_P G.1 vwCl [kC G a n (nR f), kC G b n (nR (updN (cpN f g i) i (f i)))] H := hP
        have hD : va_D A [kC G a n (nR f), kC G b n (nR (updN (cpN f g i) i (f i)))] := hD
        refine lv_iinc (v := nI (i + 1)) (lv' := [(2, .int (nI (i + 1))), (0, .ref a), (1, .ref b)]) hx hb dX3_copyRow_20 hl (k := 2) rfl (nI_add i 1) (by decide) rfl (fun ls hl => ?_)
        refine lv_goto (tgt := 2) hx hb dX3_copyRow_23 (by decide) ?_
        rw [cpN_1] at hP hD
        exact ih_2 (i + 1) (by omega) (by omega) _ _ _ hP hD hS (lv_sub hl [1, 2, 0] rfl)
  rw [← cpN_0 (f := f) (g := g)] at hP hD
  exact loop_2 (n + 1) 0 (by omega) (by omega) H locs ls hP hD hS (lv_sub hl [1, 2, 0] rfl)
set_option maxHeartbeats 4000000 in
set_option maxRecDepth 100000 in
theorem n_checkIndex (l : Launch) (G : kG) (x : Nat) (n : Nat) (hx9 : x < n) (hn : n < 2 ^ 31) : kM l G yX3_checkIndex wsX3_checkIndex ({ frames := 0, cells := 0, slots := 0, locals := 0 } : Room) [.int (nI x), .int (nI n)] [] (kQv G [] (fun (_ : Unit) => True) (fun (_ : Unit) => [])) := by
  refine k_ofW (cc := cX3_checkIndex) (maxL := 2) (rt := none) (by decide) rfl (Nat.le_of_ble_eq_true rfl) ?_
  intro p e s m args below meth c A ls Qs H locs hQ hAe hx hb hr hml hts hown hlocks hin hK hZ hP hD hS hA hl
  have hown : s.vm.findClass RX3 = some m.cls := hown
  have hl : lv_has ls 2 [(0, .int (nI x)), (1, .int (nI n))] := hl
  refine lv_iload_n hx hb dX3_checkIndex_0 rfl (lv_at hl 0 rfl) ?_
  refine lv_if_lt (tgt := 9) hx hb dX3_checkIndex_1 (by decide) (fun c_1 => absurd c_1 (nI_pos (n := x) (by omega))) (fun c_1 => ?_)
  refine lv_iload_n hx hb dX3_checkIndex_4 rfl (lv_at hl 0 rfl) ?_
  refine lv_iload_n hx hb dX3_checkIndex_5 rfl (lv_at hl 1 rfl) ?_
  refine lv_icmp_lt (tgt := 19) hx hb dX3_checkIndex_6 (by decide) (fun c_6 => ?_) (fun c_6 => absurd ((nI_ltI (a := x) (b := n) (by omega) (by omega)).mpr (by omega)) c_6)
  have c_6 : x < n := (nI_ltI (a := x) (b := n) (by omega) (by omega)).mp c_6
  exact k_vret (ws := []) (()) hx hb hr hlocks hP hD hS hAe hQ (Nat.le_of_ble_eq_true rfl) (Nat.le_of_ble_eq_true rfl) dX3_checkIndex_19 (rfl) (trivial)
set_option maxHeartbeats 4000000 in
set_option maxRecDepth 100000 in
theorem n_checkRange (l : Launch) (G : kG) (x : Nat) (a : Nat) (b : Nat) (h1 : a ≤ x) (h2 : x ≤ b) (hb9 : b < 2 ^ 31) : kM l G yX3_checkRange wsX3_checkRange ({ frames := 0, cells := 0, slots := 0, locals := 0 } : Room) [.int (nI x), .int (nI a), .int (nI b)] [] (kQv G [] (fun (_ : Unit) => True) (fun (_ : Unit) => [])) := by
  refine k_ofW (cc := cX3_checkRange) (maxL := 3) (rt := none) (by decide) rfl (Nat.le_of_ble_eq_true rfl) ?_
  intro p e s m args below meth c A ls Qs H locs hQ hAe hx hb hr hml hts hown hlocks hin hK hZ hP hD hS hA hl
  have hown : s.vm.findClass RX3 = some m.cls := hown
  have hl : lv_has ls 3 [(0, .int (nI x)), (1, .int (nI a)), (2, .int (nI b))] := hl
  refine lv_iload_n hx hb dX3_checkRange_0 rfl (lv_at hl 0 rfl) ?_
  refine lv_iload_n hx hb dX3_checkRange_1 rfl (lv_at hl 1 rfl) ?_
  refine lv_icmp_lt (tgt := 10) hx hb dX3_checkRange_2 (by decide) (fun c_2 => absurd ((nI_ltI (a := x) (b := a) (by omega) (by omega)).mp c_2) (by omega)) (fun c_2 => ?_)
  have c_2 : ¬ (x < a) := fun h9 => c_2 ((nI_ltI (a := x) (b := a) (by omega) (by omega)).mpr h9)
  refine lv_iload_n hx hb dX3_checkRange_5 rfl (lv_at hl 0 rfl) ?_
  refine lv_iload_n hx hb dX3_checkRange_6 rfl (lv_at hl 2 rfl) ?_
  refine lv_icmp_le (tgt := 20) hx hb dX3_checkRange_7 (by decide) (fun c_7 => ?_) (fun c_7 => absurd ((nI_leI (a := x) (b := b) (by omega) (by omega)).mpr (by omega)) c_7)
  have c_7 : x ≤ b := (nI_leI (a := x) (b := b) (by omega) (by omega)).mp c_7
  exact k_vret (ws := []) (()) hx hb hr hlocks hP hD hS hAe hQ (Nat.le_of_ble_eq_true rfl) (Nat.le_of_ble_eq_true rfl) dX3_checkRange_20 (rfl) (trivial)
set_option maxHeartbeats 4000000 in
set_option maxRecDepth 100000 in
theorem n_checkWeaver (l : Launch) (G : kG) (x : Nat) (hx9 : x < 2) : kM l G yX3_checkWeaver wsX3_checkWeaver ({ frames := 1, cells := 0, slots := 0, locals := 21 } : Room) [.int (nI x)] [] (kQv G [] (fun (_ : Unit) => True) (fun (_ : Unit) => [])) := by
  refine k_ofW (cc := cX3_checkWeaver) (maxL := 1) (rt := none) (by decide) rfl (Nat.le_of_ble_eq_true rfl) ?_
  intro p e s m args below meth c A ls Qs H locs hQ hAe hx hb hr hml hts hown hlocks hin hK hZ hP hD hS hA hl
  have hown : s.vm.findClass RX3 = some m.cls := hown
  have hl : lv_has ls 1 [(0, .int (nI x))] := hl
  refine lv_iload_n hx hb dX3_checkWeaver_0 rfl (lv_at hl 0 rfl) ?_
  refine lv_iconst (v := nI 2) hx hb dX3_checkWeaver_1 (by decide) ?_
  refine k_callv (fun _ => []) [] (k_runS (As := [.int (nI x), .int (nI 2)]) (rest := []) (wc := []) ⟨hx, hb, hml, hown, hts⟩ (n_checkIndex l G x 2 hx9 (by decide)) (va_cwS 2 hts gX3_checkWeaver_X3_checkIndex rfl rfl rfl (by decide +kernel) ⟨Nat.le_of_ble_eq_true rfl, Nat.le_of_ble_eq_true rfl⟩) hK hZ hP hD hS hA [] rfl rfl rfl hl.1 rfl (Nat.le_of_ble_eq_true rfl) dX3_checkWeaver_2 ⟨Nat.le_of_ble_eq_true rfl, Nat.le_of_ble_eq_true rfl⟩) hP hD hS hA [] [] [] rfl rfl rfl (by decide) (fun _ => rfl) rfl (fun u_2 H locs hp_2 hP hD hS => ?_)
  exact k_vret (ws := []) (()) hx hb hr hlocks hP hD hS hAe hQ (Nat.le_of_ble_eq_true rfl) (Nat.le_of_ble_eq_true rfl) dX3_checkWeaver_5 (rfl) (trivial)
set_option maxHeartbeats 4000000 in
set_option maxRecDepth 100000 in
theorem n_checkColour (l : Launch) (G : kG) (x : Nat) (hx9 : x < 8) : kM l G yX3_checkColour wsX3_checkColour ({ frames := 1, cells := 0, slots := 0, locals := 22 } : Room) [.int (nI x)] [] (kQv G [] (fun (_ : Unit) => True) (fun (_ : Unit) => [])) := by
  refine k_ofW (cc := cX3_checkColour) (maxL := 1) (rt := none) (by decide) rfl (Nat.le_of_ble_eq_true rfl) ?_
  intro p e s m args below meth c A ls Qs H locs hQ hAe hx hb hr hml hts hown hlocks hin hK hZ hP hD hS hA hl
  have hown : s.vm.findClass RX3 = some m.cls := hown
  have hl : lv_has ls 1 [(0, .int (nI x))] := hl
  refine lv_iload_n hx hb dX3_checkColour_0 rfl (lv_at hl 0 rfl) ?_
  refine lv_iconst (v := nI 0) hx hb dX3_checkColour_1 (by decide) ?_
  refine lv_bipush (v := nI 7) hx hb dX3_checkColour_2 (by decide) ?_
  refine k_callv (fun _ => []) [] (k_runS (As := [.int (nI x), .int (nI 0), .int (nI 7)]) (rest := []) (wc := []) ⟨hx, hb, hml, hown, hts⟩ (n_checkRange l G x 0 7 (Nat.zero_le _) (by omega) (by decide)) (va_cwS 3 hts gX3_checkColour_X3_checkRange rfl rfl rfl (by decide +kernel) ⟨Nat.le_of_ble_eq_true rfl, Nat.le_of_ble_eq_true rfl⟩) hK hZ hP hD hS hA [] rfl rfl rfl hl.1 rfl (Nat.le_of_ble_eq_true rfl) dX3_checkColour_4 ⟨Nat.le_of_ble_eq_true rfl, Nat.le_of_ble_eq_true rfl⟩) hP hD hS hA [] [] [] rfl rfl rfl (by decide) (fun _ => rfl) rfl (fun u_4 H locs hp_4 hP hD hS => ?_)
  exact k_vret (ws := []) (()) hx hb hr hlocks hP hD hS hAe hQ (Nat.le_of_ble_eq_true rfl) (Nat.le_of_ble_eq_true rfl) dX3_checkColour_7 (rfl) (trivial)
set_option maxHeartbeats 4000000 in
set_option maxRecDepth 100000 in
theorem n_checkCell (l : Launch) (G : kG) (x : Nat) (y : Nat) (hx9 : x < 12) (hy9 : y < 10) : kM l G yX3_checkCell wsX3_checkCell ({ frames := 1, cells := 0, slots := 0, locals := 21 } : Room) [.int (nI x), .int (nI y)] [] (kQv G [] (fun (_ : Unit) => True) (fun (_ : Unit) => [])) := by
  refine k_ofW (cc := cX3_checkCell) (maxL := 2) (rt := none) (by decide) rfl (Nat.le_of_ble_eq_true rfl) ?_
  intro p e s m args below meth c A ls Qs H locs hQ hAe hx hb hr hml hts hown hlocks hin hK hZ hP hD hS hA hl
  have hown : s.vm.findClass RX3 = some m.cls := hown
  have hl : lv_has ls 2 [(0, .int (nI x)), (1, .int (nI y))] := hl
  refine lv_iload_n hx hb dX3_checkCell_0 rfl (lv_at hl 0 rfl) ?_
  refine lv_bipush (v := nI 12) hx hb dX3_checkCell_1 (by decide) ?_
  refine k_callv (fun _ => []) [] (k_runS (As := [.int (nI x), .int (nI 12)]) (rest := []) (wc := []) ⟨hx, hb, hml, hown, hts⟩ (n_checkIndex l G x 12 hx9 (by decide)) (va_cwS 2 hts gX3_checkCell_X3_checkIndex rfl rfl rfl (by decide +kernel) ⟨Nat.le_of_ble_eq_true rfl, Nat.le_of_ble_eq_true rfl⟩) hK hZ hP hD hS hA [] rfl rfl rfl hl.1 rfl (Nat.le_of_ble_eq_true rfl) dX3_checkCell_3 ⟨Nat.le_of_ble_eq_true rfl, Nat.le_of_ble_eq_true rfl⟩) hP hD hS hA [] [] [] rfl rfl rfl (by decide) (fun _ => rfl) rfl (fun u_3 H locs hp_3 hP hD hS => ?_)
  refine lv_iload_n hx hb dX3_checkCell_6 rfl (lv_at hl 1 rfl) ?_
  refine lv_bipush (v := nI 10) hx hb dX3_checkCell_7 (by decide) ?_
  refine k_callv (fun _ => []) [] (k_runS (As := [.int (nI y), .int (nI 10)]) (rest := []) (wc := []) ⟨hx, hb, hml, hown, hts⟩ (n_checkIndex l G y 10 hy9 (by decide)) (va_cwS 2 hts gX3_checkCell_X3_checkIndex rfl rfl rfl (by decide +kernel) ⟨Nat.le_of_ble_eq_true rfl, Nat.le_of_ble_eq_true rfl⟩) hK hZ hP hD hS hA [] rfl rfl rfl hl.1 rfl (Nat.le_of_ble_eq_true rfl) dX3_checkCell_9 ⟨Nat.le_of_ble_eq_true rfl, Nat.le_of_ble_eq_true rfl⟩) hP hD hS hA [] [] [] rfl rfl rfl (by decide) (fun _ => rfl) rfl (fun u_9 H locs hp_9 hP hD hS => ?_)
  exact k_vret (ws := []) (()) hx hb hr hlocks hP hD hS hAe hQ (Nat.le_of_ble_eq_true rfl) (Nat.le_of_ble_eq_true rfl) dX3_checkCell_12 (rfl) (trivial)
