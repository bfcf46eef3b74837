set_option maxHeartbeats 4000000 in
set_option maxRecDepth 100000 in
theorem m_hoursOn (l : Launch) (G : kG) (q0 : Nat) (q1 : Nat) (q2 : Nat) (q3 : Nat) (q4 : Nat) (q5 : Nat) (q6 : Nat) (w0 : Wv) (w1 : Wv) (bf : Nat → Nat) (ho : Nat) (un : Nat) (ru : Nat → Nat) (th : Nat) (n : Nat) (hn : n ≤ 100) (h0 : wOk w0) (h1 : wOk w1) (hB : bOk bf) (hru : ruOk w0 w1 ru) : kM l G yX4_hoursOn wsX4_hoursOn ({ frames := 3, cells := 0, slots := 0, locals := 68 } : Room) [.ref q0, .int (nI n)] [kO q0 4 [.int (nI th), .ref q1, .ref q2, .ref q3, .ref q4, .ref q5, .ref q6], kC G q1 8 (nR (peF w0 w1)), kC G q2 120 (nR (knF w0 w1)), kC G q3 120 (nR (plF w0 w1)), kC G q4 80 (nR ru), kC G q5 8 (nR bf), kC G q6 2 (nR (nuF ho un))] (kQv G [kO q0 4 [.int (nI th), .ref q1, .ref q2, .ref q3, .ref q4, .ref q5, .ref q6], kC G q1 8 (nR (peF w0 w1)), kC G q2 120 (nR (knF w0 w1)), kC G q3 120 (nR (plF w0 w1)), kC G q4 80 (nR ru), kC G q5 8 (nR bf), kC G q6 2 (nR (nuF ho un))] (fun (u : Nat → Nat) => ruOk (hrs n (w0, w1, bf)).1.1 (hrs n (w0, w1, bf)).1.2.1 u) (fun (u : Nat → Nat) => [kO q0 4 [.int (nI th), .ref q1, .ref q2, .ref q3, .ref q4, .ref q5, .ref q6], kC G q1 8 (nR (peF ((hrs n (w0, w1, bf)).1.1) ((hrs n (w0, w1, bf)).1.2.1))), kC G q2 120 (nR (knF ((hrs n (w0, w1, bf)).1.1) ((hrs n (w0, w1, bf)).1.2.1))), kC G q3 120 (nR (plF ((hrs n (w0, w1, bf)).1.1) ((hrs n (w0, w1, bf)).1.2.1))), kC G q4 80 (nR u), kC G q5 8 (nR ((hrs n (w0, w1, bf)).1.2.2)), kC G q6 2 (nR (nuF (ho + n) un))])) := by
  refine k_ofW (cc := cX4_hoursOn) (maxL := 5) (rt := none) (by decide) rfl (Nat.le_of_ble_eq_true rfl) ?_
  intro p e s m args below meth c A ls Qs H locs hQ hAe hx hb hr hml hts hown hlocks hin hK hZ hP hD hS hA hl
  have hown : s.vm.findClass RX4 = some m.cls := hown
  have hl : lv_has ls 5 [(0, .ref q0), (1, .int (nI n))] := hl
  have hq_0 : ∀ w ∈ wsX40, w ∈ wsX4_hoursOn := by decide +kernel
  have hq_1 : (Cond.fieldLink RX4 25 "KnotRugsModel" "numbers" "[I").before args s = true := hts _ (by decide +kernel)
  refine lv_iconst (v := nI 0) hx hb dX4_hoursOn_0 (by decide) ?_
  refine lv_istore_n (lv' := [(2, .int (nI 0)), (0, .ref q0), (1, .int (nI n))]) hx hb dX4_hoursOn_1 rfl hl (by decide) rfl (fun ls hl => ?_)
  have loop_2 : ∀ (fu_2 : Nat) (q : Rg) (r : Nat → Nat) (j : Nat) (z : Nat), hrI n (w0, w1, bf) q j z → ruOk q.1 q.2.1 r → n < j + fu_2 → ∀ (H : Heap) (locs : List Loc) (ls : Array Slot), va_P G.1 vwCl [kO q0 4 [.int (nI th), .ref q1, .ref q2, .ref q3, .ref q4, .ref q5, .ref q6], kC G q1 8 (nR (peF q.1 q.2.1)), kC G q2 120 (nR (knF q.1 q.2.1)), kC G q3 120 (nR (plF q.1 q.2.1)), kC G q4 80 (nR r), kC G q5 8 (nR q.2.2), kC G q6 2 (nR (nuF (ho + j) un))] H → va_D A [kO q0 4 [.int (nI th), .ref q1, .ref q2, .ref q3, .ref q4, .ref q5, .ref q6], kC G q1 8 (nR (peF q.1 q.2.1)), kC G q2 120 (nR (knF q.1 q.2.1)), kC G q3 120 (nR (plF q.1 q.2.1)), kC G q4 80 (nR r), kC G q5 8 (nR q.2.2), kC G q6 2 (nR (nuF (ho + j) un))] → va_S A s.heap H locs → lv_has ls 5 [(0, .ref q0), (1, .int (nI n)), (2, .int (nI j))] → W p l e ({ frames := 3, cells := 0, slots := 0, locals := 68 } : Room) s m args below meth c H locs 0 0 Qs (F0 m 2 ls []) := by
    intro fu_2
    induction fu_2 with
    | zero =>
      intro q r j z hI hro hf
      have hj : j ≤ n := hI.1; exact absurd hf (by omega)
    | succ fu_2 ih_2 =>
      intro q r j z hI hro hf H locs ls hP hD hS hl
      have hj : j ≤ n := hI.1
      have hq := hI.2.1
      have hq1 := wk_ok hq.1 hq.2.2
      have s1 : vS q.1 ≤ 6 := hq.1.2.1
      have s2 : vS q.2.1 ≤ 6 := hq.2.1.2.1
      refine lv_iload_n hx hb dX4_hoursOn_2 rfl (lv_at hl 2 rfl) ?_
      refine lv_iload_n hx hb dX4_hoursOn_3 rfl (lv_at hl 1 rfl) ?_
      refine lv_icmp_ge (tgt := 71) hx hb dX4_hoursOn_4 (by decide) (fun c_4 => ?_) (fun c_4 => ?_)
      · have c_4 : n ≤ j := (nI_leI (a := n) (b := j) (by omega) (by omega)).mp c_4
        have he := hrI_e hI (by omega)
        exact k_vret (ws := [kO q0 4 [.int (nI th), .ref q1, .ref q2, .ref q3, .ref q4, .ref q5, .ref q6], kC G q1 8 (nR (peF w0 w1)), kC G q2 120 (nR (knF w0 w1)), kC G q3 120 (nR (plF w0 w1)), kC G q4 80 (nR ru), kC G q5 8 (nR bf), kC G q6 2 (nR (nuF ho un))]) (r) hx hb hr hlocks hP hD hS hAe hQ (Nat.le_of_ble_eq_true rfl) (Nat.le_of_ble_eq_true rfl) dX4_hoursOn_71 (by rw [← he.2.1, he.1]) (by rw [← he.2.1]; exact hro)
      · have c_4 : ¬ (n ≤ j) := fun h9 => c_4 ((nI_leI (a := n) (b := j) (by omega) (by omega)).mpr h9)
        refine lv_iconst (v := nI 0) hx hb dX4_hoursOn_7 (by decide) ?_
        refine lv_istore_n (lv' := [(3, .int (nI 0)), (0, .ref q0), (1, .int (nI n)), (2, .int (nI j))]) hx hb dX4_hoursOn_8 rfl hl (by decide) rfl (fun ls hl => ?_)
        refine lv_iload_n hx hb dX4_hoursOn_9 rfl (lv_at hl 0 rfl) ?_
        refine lv_iconst (v := nI 2) hx hb dX4_hoursOn_10 (by decide) ?_
        refine lv_icmp_ge (tgt := 55) hx hb dX4_hoursOn_11 (by decide) (fun c_11 => absurd c_11 (by decide)) (fun c_11 => ?_)
        refine lv_aload_n hx hb dX4_hoursOn_14 rfl (lv_at hl 1 rfl) ?_
        refine lv_iload_n hx hb dX4_hoursOn_15 rfl (lv_at hl 0 rfl) ?_
        refine lv_iconst (v := nI 0) hx hb dX4_hoursOn_16 (by decide) ?_
        refine k_calli (fun _ => [kO q0 4 [.int (nI th), .ref q1, .ref q2, .ref q3, .ref q4, .ref q5, .ref q6], kC G q1 8 (nR (peF q.1 q.2.1)), kC G q2 120 (nR (knF q.1 q.2.1)), kC G q3 120 (nR (plF q.1 q.2.1)), kC G q4 80 (nR r), kC G q5 8 (nR q.2.2), kC G q6 2 (nR (nuF (ho + j) un))]) [kC G q2 120 (nR (knF q.1 q.2.1)), kC G q3 120 (nR (plF q.1 q.2.1)), kC G q4 80 (nR r), kC G q5 8 (nR q.2.2), kC G q6 2 (nR (nuF (ho + j) un))] (k_runV (As := [.int (nI 0), .int (nI 0)]) (rest := []) (wc := [kO q0 4 [.int (nI th), .ref q1, .ref q2, .ref q3, .ref q4, .ref q5, .ref q6], kC G q1 8 (nR (peF q.1 q.2.1))]) ⟨hx, hb, hml, hown, hts⟩ (m_pe l G q0 q1 q2 q3 q4 q5 q6 th (peF q.1 q.2.1) 0 0 (by decide) (by decide)) (cwV 2 hts gX4_hoursOn_X4_pe rfl rfl rfl (by decide +kernel) ⟨Nat.le_of_ble_eq_true rfl, Nat.le_of_ble_eq_true rfl⟩) hK hZ hP hD hS hA [0, 1] rfl rfl 0 4 rfl rfl rfl rfl hl.1 rfl (Nat.le_of_ble_eq_true rfl) dX4_hoursOn_17 ⟨Nat.le_of_ble_eq_true rfl, Nat.le_of_ble_eq_true rfl⟩) hP hD hS hA [0, 1] [2, 3, 4, 5, 6] [5, 6, 0, 1, 2, 3, 4] rfl rfl rfl (by decide) (fun _ => rfl) rfl (fun r_17 u_17 H locs hp_17 hP hD hS => ?_)
        have hp_17 : r_17 = nI (vS q.1) := hp_17
        subst hp_17
        refine lv_istore (lv' := [(4, .int (nI (vS q.1))), (3, .int (nI 0)), (0, .ref q0), (1, .int (nI n)), (2, .int (nI j))]) hx hb dX4_hoursOn_20 hl (by decide) rfl (fun ls hl => ?_)
        have loop_220 : ∀ (fu_22 : Nat) (w : Wv) (B : Nat → Nat) (r2 : Nat → Nat) (t : Nat), wkI q.1 q.2.2 w B t → ruOk w q.2.1 r2 → vS q.1 < t + fu_22 → ∀ (H : Heap) (locs : List Loc) (ls : Array Slot), va_P G.1 vwCl [kO q0 4 [.int (nI th), .ref q1, .ref q2, .ref q3, .ref q4, .ref q5, .ref q6], kC G q1 8 (nR (peF w q.2.1)), kC G q2 120 (nR (knF w q.2.1)), kC G q3 120 (nR (plF w q.2.1)), kC G q4 80 (nR r2), kC G q5 8 (nR B), kC G q6 2 (nR (nuF (ho + j) un))] H → va_D A [kO q0 4 [.int (nI th), .ref q1, .ref q2, .ref q3, .ref q4, .ref q5, .ref q6], kC G q1 8 (nR (peF w q.2.1)), kC G q2 120 (nR (knF w q.2.1)), kC G q3 120 (nR (plF w q.2.1)), kC G q4 80 (nR r2), kC G q5 8 (nR B), kC G q6 2 (nR (nuF (ho + j) un))] → va_S A s.heap H locs → lv_has ls 5 [(0, .ref q0), (1, .int (nI n)), (2, .int (nI j)), (3, .int (nI 0)), (4, .int (nI (vS q.1 - t)))] → W p l e ({ frames := 3, cells := 0, slots := 0, locals := 68 } : Room) s m args below meth c H locs 0 0 Qs (F0 m 22 ls []) := by
          intro fu_22
          induction fu_22 with
          | zero =>
            intro w B r2 t hJ hr2 hf2
            have hj9 : t ≤ vS q.1 := hJ.1; exact absurd hf2 (by omega)
          | succ fu_22 ih_22 =>
            intro w B r2 t hJ hr2 hf2 H locs ls hP hD hS hl
            have hwo : wOk w := hJ.2.2.1
            have hBo : bOk B := hJ.2.2.2.1
            have hj9 : t ≤ vS q.1 := hJ.1
            have qb1 : vT w ≤ 20 := hwo.2.2.1
            have qb2 : vM w ≤ 60 := hwo.2.2.2.1
            refine lv_iload hx hb dX4_hoursOn_22 (lv_at hl 4 rfl) ?_
            refine lv_if_le (tgt := 49) hx hb dX4_hoursOn_24 (by decide) (fun c_24 => ?_) (fun c_24 => ?_)
            · have c_24 : (vS q.1 - t) = 0 := (k_le0 (a := (vS q.1 - t)) (by omega)).mp c_24
              have he := wkI_e hJ (by first | exact Or.inl (by omega) | exact Or.inr (fun q9 => by omega) | exact Or.inr (fun q9 => hp_37 q9.2.2))
              obtain ⟨rfl, rfl, rfl⟩ := he
              have hP : va_P G.1 vwCl [kO q0 4 [.int (nI th), .ref q1, .ref q2, .ref q3, .ref q4, .ref q5, .ref q6], kC G q1 8 (nR (peF ((wk q.1 q.2.2).1) q.2.1)), kC G q2 120 (nR (knF ((wk q.1 q.2.2).1) q.2.1)), kC G q3 120 (nR (plF ((wk q.1 q.2.2).1) q.2.1)), kC G q4 80 (nR r2), kC G q5 8 (nR ((wk q.1 q.2.2).2.1)), kC G q6 2 (nR (nuF (ho + j) un))] H := hP
              have hD : va_D A [kO q0 4 [.int (nI th), .ref q1, .ref q2, .ref q3, .ref q4, .ref q5, .ref q6], kC G q1 8 (nR (peF ((wk q.1 q.2.2).1) q.2.1)), kC G q2 120 (nR (knF ((wk q.1 q.2.2).1) q.2.1)), kC G q3 120 (nR (plF ((wk q.1 q.2.2).1) q.2.1)), kC G q4 80 (nR r2), kC G q5 8 (nR ((wk q.1 q.2.2).2.1)), kC G q6 2 (nR (nuF (ho + j) un))] := hD
              refine lv_iinc (v := nI 1) (lv' := [(3, .int (nI 1)), (0, .ref q0), (1, .int (nI n)), (2, .int (nI j)), (4, .int (nI (vS q.1 - (wk q.1 q.2.2).2.2)))]) hx hb dX4_hoursOn_49 hl (k := 3) rfl (by decide) (by decide) rfl (fun ls hl => ?_)
              refine lv_goto (tgt := 9) hx hb dX4_hoursOn_52 (by decide) ?_
              refine lv_iload_n hx hb dX4_hoursOn_9 rfl (lv_at hl 0 rfl) ?_
              refine lv_iconst (v := nI 2) hx hb dX4_hoursOn_10 (by decide) ?_
              refine lv_icmp_ge (tgt := 55) hx hb dX4_hoursOn_11 (by decide) (fun c_11 => absurd c_11 (by decide)) (fun c_11 => ?_)
              refine lv_aload_n hx hb dX4_hoursOn_14 rfl (lv_at hl 1 rfl) ?_
              refine lv_iload_n hx hb dX4_hoursOn_15 rfl (lv_at hl 0 rfl) ?_
              refine lv_iconst (v := nI 0) hx hb dX4_hoursOn_16 (by decide) ?_
              refine k_calli (fun _ => [kO q0 4 [.int (nI th), .ref q1, .ref q2, .ref q3, .ref q4, .ref q5, .ref q6], kC G q1 8 (nR (peF ((wk q.1 q.2.2).1) q.2.1)), kC G q2 120 (nR (knF ((wk q.1 q.2.2).1) q.2.1)), kC G q3 120 (nR (plF ((wk q.1 q.2.2).1) q.2.1)), kC G q4 80 (nR r2), kC G q5 8 (nR ((wk q.1 q.2.2).2.1)), kC G q6 2 (nR (nuF (ho + j) un))]) [kC G q2 120 (nR (knF ((wk q.1 q.2.2).1) q.2.1)), kC G q3 120 (nR (plF ((wk q.1 q.2.2).1) q.2.1)), kC G q4 80 (nR r2), kC G q5 8 (nR ((wk q.1 q.2.2).2.1)), kC G q6 2 (nR (nuF (ho + j) un))] (k_runV (As := [.int (nI 1), .int (nI 0)]) (rest := []) (wc := [kO q0 4 [.int (nI th), .ref q1, .ref q2, .ref q3, .ref q4, .ref q5, .ref q6], kC G q1 8 (nR (peF ((wk q.1 q.2.2).1) q.2.1))]) ⟨hx, hb, hml, hown, hts⟩ (m_pe l G q0 q1 q2 q3 q4 q5 q6 th (peF ((wk q.1 q.2.2).1) q.2.1) 1 0 (by decide) (by decide)) (cwV 2 hts gX4_hoursOn_X4_pe rfl rfl rfl (by decide +kernel) ⟨Nat.le_of_ble_eq_true rfl, Nat.le_of_ble_eq_true rfl⟩) hK hZ hP hD hS hA [0, 1] rfl rfl 0 4 rfl rfl rfl rfl hl.1 rfl (Nat.le_of_ble_eq_true rfl) dX4_hoursOn_17 ⟨Nat.le_of_ble_eq_true rfl, Nat.le_of_ble_eq_true rfl⟩) hP hD hS hA [0, 1] [2, 3, 4, 5, 6] [5, 6, 0, 1, 2, 3, 4] rfl rfl rfl (by decide) (fun _ => rfl) rfl (fun r_17 u_17 H locs hp_17 hP hD hS => ?_)
              have hp_17 : r_17 = nI (vS q.2.1) := hp_17
              subst hp_17
              refine lv_istore (lv' := [(4, .int (nI (vS q.2.1))), (3, .int (nI 1)), (0, .ref q0), (1, .int (nI n)), (2, .int (nI j))]) hx hb dX4_hoursOn_20 hl (by decide) rfl (fun ls hl => ?_)
              have loop_221 : ∀ (fu_22 : Nat) (w9 : Wv) (B9 : Nat → Nat) (r9 : Nat → Nat) (t9 : Nat), wkI q.2.1 (wk q.1 q.2.2).2.1 w9 B9 t9 → ruOk (wk q.1 q.2.2).1 w9 r9 → vS q.2.1 < t9 + fu_22 → ∀ (H : Heap) (locs : List Loc) (ls : Array Slot), va_P G.1 vwCl [kO q0 4 [.int (nI th), .ref q1, .ref q2, .ref q3, .ref q4, .ref q5, .ref q6], kC G q1 8 (nR (peF ((wk q.1 q.2.2).1) w9)), kC G q2 120 (nR (knF ((wk q.1 q.2.2).1) w9)), kC G q3 120 (nR (plF ((wk q.1 q.2.2).1) w9)), kC G q4 80 (nR r9), kC G q5 8 (nR B9), kC G q6 2 (nR (nuF (ho + j) un))] H → va_D A [kO q0 4 [.int (nI th), .ref q1, .ref q2, .ref q3, .ref q4, .ref q5, .ref q6], kC G q1 8 (nR (peF ((wk q.1 q.2.2).1) w9)), kC G q2 120 (nR (knF ((wk q.1 q.2.2).1) w9)), kC G q3 120 (nR (plF ((wk q.1 q.2.2).1) w9)), kC G q4 80 (nR r9), kC G q5 8 (nR B9), kC G q6 2 (nR (nuF (ho + j) un))] → va_S A s.heap H locs → lv_has ls 5 [(0, .ref q0), (1, .int (nI n)), (2, .int (nI j)), (3, .int (nI 1)), (4, .int (nI (vS q.2.1 - t9)))] → W p l e ({ frames := 3, cells := 0, slots := 0, locals := 68 } : Room) s m args below meth c H locs 0 0 Qs (F0 m 22 ls []) := by
                intro fu_22
                induction fu_22 with
                | zero =>
                  intro w9 B9 r9 t9 hJ9 hr9 hf3
                  have hj9 : t9 ≤ vS q.2.1 := hJ9.1; exact absurd hf3 (by omega)
                | succ fu_22 ih_22 =>
                  intro w9 B9 r9 t9 hJ9 hr9 hf3 H locs ls hP hD hS hl
                  have hwo : wOk w9 := hJ9.2.2.1
                  have hBo : bOk B9 := hJ9.2.2.2.1
                  have hj9 : t9 ≤ vS q.2.1 := hJ9.1
                  have qb1 : vT w9 ≤ 20 := hwo.2.2.1
                  have qb2 : vM w9 ≤ 60 := hwo.2.2.2.1
                  refine lv_iload hx hb dX4_hoursOn_22 (lv_at hl 4 rfl) ?_
                  refine lv_if_le (tgt := 49) hx hb dX4_hoursOn_24 (by decide) (fun c_24 => ?_) (fun c_24 => ?_)
                  · have c_24 : (vS q.2.1 - t9) = 0 := (k_le0 (a := (vS q.2.1 - t9)) (by omega)).mp c_24
                    have he := wkI_e hJ9 (by first | exact Or.inl (by omega) | exact Or.inr (fun q9 => by omega) | exact Or.inr (fun q9 => hp_37 q9.2.2))
                    obtain ⟨rfl, rfl, rfl⟩ := he
                    have hP : va_P G.1 vwCl [kO q0 4 [.int (nI th), .ref q1, .ref q2, .ref q3, .ref q4, .ref q5, .ref q6], kC G q1 8 (nR (peF ((wk q.1 q.2.2).1) ((wk q.2.1 (wk q.1 q.2.2).2.1).1))), kC G q2 120 (nR (knF ((wk q.1 q.2.2).1) ((wk q.2.1 (wk q.1 q.2.2).2.1).1))), kC G q3 120 (nR (plF ((wk q.1 q.2.2).1) ((wk q.2.1 (wk q.1 q.2.2).2.1).1))), kC G q4 80 (nR r9), kC G q5 8 (nR ((wk q.2.1 (wk q.1 q.2.2).2.1).2.1)), kC G q6 2 (nR (nuF (ho + j) un))] H := hP
                    have hD : va_D A [kO q0 4 [.int (nI th), .ref q1, .ref q2, .ref q3, .ref q4, .ref q5, .ref q6], kC G q1 8 (nR (peF ((wk q.1 q.2.2).1) ((wk q.2.1 (wk q.1 q.2.2).2.1).1))), kC G q2 120 (nR (knF ((wk q.1 q.2.2).1) ((wk q.2.1 (wk q.1 q.2.2).2.1).1))), kC G q3 120 (nR (plF ((wk q.1 q.2.2).1) ((wk q.2.1 (wk q.1 q.2.2).2.1).1))), kC G q4 80 (nR r9), kC G q5 8 (nR ((wk q.2.1 (wk q.1 q.2.2).2.1).2.1)), kC G q6 2 (nR (nuF (ho + j) un))] := hD
                    refine lv_iinc (v := nI 2) (lv' := [(3, .int (nI 2)), (0, .ref q0), (1, .int (nI n)), (2, .int (nI j)), (4, .int (nI (vS q.2.1 - (wk q.2.1 (wk q.1 q.2.2).2.1).2.2)))]) hx hb dX4_hoursOn_49 hl (k := 3) rfl (by decide) (by decide) rfl (fun ls hl => ?_)
                    refine lv_goto (tgt := 9) hx hb dX4_hoursOn_52 (by decide) ?_
                    refine lv_iload_n hx hb dX4_hoursOn_9 rfl (lv_at hl 0 rfl) ?_
                    refine lv_iconst (v := nI 2) hx hb dX4_hoursOn_10 (by decide) ?_
                    refine lv_icmp_ge (tgt := 55) hx hb dX4_hoursOn_11 (by decide) (fun c_11 => ?_) (fun c_11 => absurd c_11 (by decide))
                    refine lv_aload_n hx hb dX4_hoursOn_55 rfl (lv_at hl 1 rfl) ?_
                    refine va_get (D := G.1) (ci := 4) (v := .ref q6) (C := RX4) (T := TX4) (N := 7) hx hb hts hq_0 hown hK.1 hP 0 rfl rfl 6 (by decide) hq_1 (fun _ h9 => h9) rfl dX4_hoursOn_56 ?_
                    refine lv_iconst (v := nI 0) hx hb dX4_hoursOn_59 (by decide) ?_
                    refine lv_dup2_11 hx hb dX4_hoursOn_60 rfl rfl ?_
                    have hi_1 : 0 < 2 := by omega
                    refine va_iald (D := G.1) hx hb hK.1 hP 6 0 rfl rfl (vp_in_nI hi_1 (by omega)) dX4_hoursOn_61 ?_
                    refine lv_topi (fun y_2 hy_2 => ?_)
                    obtain rfl : y_2 = nI ((nuF (ho + j) un) 0) := hy_2.trans (nR_at (by omega))
                    refine lv_topi (fun y_3 hy_3 => ?_)
                    obtain rfl : y_3 = nI (ho + j) := hy_3.trans (rfl)
                    refine lv_iconst (v := nI 1) hx hb dX4_hoursOn_62 (by decide) ?_
                    refine lv_iadd hx hb dX4_hoursOn_63 ?_
                    refine lv_topi (fun y_4 hy_4 => ?_)
                    obtain rfl : y_4 = nI ((ho + j) + 1) := hy_4.trans (nI_add (ho + j) 1)
                    have hi_5 : 0 < 2 := by omega
                    refine va_iast (D := G.1) hx hb hK.1 hP hD hS 6 0 rfl rfl (vp_in_nI hi_5 (by omega)) dX4_hoursOn_64 (fun H locs hP hD hS => ?_)
                    rw [nR_upd (f := (nuF (ho + j) un)) (k := 0) (v := ((ho + j) + 1)) (by omega)] at hP hD
                    have hP : va_P G.1 vwCl [kO q0 4 [.int (nI th), .ref q1, .ref q2, .ref q3, .ref q4, .ref q5, .ref q6], kC G q1 8 (nR (peF ((wk q.1 q.2.2).1) ((wk q.2.1 (wk q.1 q.2.2).2.1).1))), kC G q2 120 (nR (knF ((wk q.1 q.2.2).1) ((wk q.2.1 (wk q.1 q.2.2).2.1).1))), kC G q3 120 (nR (plF ((wk q.1 q.2.2).1) ((wk q.2.1 (wk q.1 q.2.2).2.1).1))), kC G q4 80 (nR r9), kC G q5 8 (nR ((wk q.2.1 (wk q.1 q.2.2).2.1).2.1)), kC G q6 2 (nR (updN (nuF (ho + j) un) 0 ((ho + j) + 1)))] H := hP
                    have hD : va_D A [kO q0 4 [.int (nI th), .ref q1, .ref q2, .ref q3, .ref q4, .ref q5, .ref q6], kC G q1 8 (nR (peF ((wk q.1 q.2.2).1) ((wk q.2.1 (wk q.1 q.2.2).2.1).1))), kC G q2 120 (nR (knF ((wk q.1 q.2.2).1) ((wk q.2.1 (wk q.1 q.2.2).2.1).1))), kC G q3 120 (nR (plF ((wk q.1 q.2.2).1) ((wk q.2.1 (wk q.1 q.2.2).2.1).1))), kC G q4 80 (nR r9), kC G q5 8 (nR ((wk q.2.1 (wk q.1 q.2.2).2.1).2.1)), kC G q6 2 (nR (updN (nuF (ho + j) un) 0 ((ho + j) + 1)))] := hD
                    rw [nu_0] at hP hD
                    have hP : va_P G.1 vwCl [kO q0 4 [.int (nI th), .ref q1, .ref q2, .ref q3, .ref q4, .ref q5, .ref q6], kC G q1 8 (nR (peF ((wk q.1 q.2.2).1) ((wk q.2.1 (wk q.1 q.2.2).2.1).1))), kC G q2 120 (nR (knF ((wk q.1 q.2.2).1) ((wk q.2.1 (wk q.1 q.2.2).2.1).1))), kC G q3 120 (nR (plF ((wk q.1 q.2.2).1) ((wk q.2.1 (wk q.1 q.2.2).2.1).1))), kC G q4 80 (nR r9), kC G q5 8 (nR ((wk q.2.1 (wk q.1 q.2.2).2.1).2.1)), kC G q6 2 (nR (nuF (ho + (j + 1)) un))] H := hP
                    have hD : va_D A [kO q0 4 [.int (nI th), .ref q1, .ref q2, .ref q3, .ref q4, .ref q5, .ref q6], kC G q1 8 (nR (peF ((wk q.1 q.2.2).1) ((wk q.2.1 (wk q.1 q.2.2).2.1).1))), kC G q2 120 (nR (knF ((wk q.1 q.2.2).1) ((wk q.2.1 (wk q.1 q.2.2).2.1).1))), kC G q3 120 (nR (plF ((wk q.1 q.2.2).1) ((wk q.2.1 (wk q.1 q.2.2).2.1).1))), kC G q4 80 (nR r9), kC G q5 8 (nR ((wk q.2.1 (wk q.1 q.2.2).2.1).2.1)), kC G q6 2 (nR (nuF (ho + (j + 1)) un))] := hD
                    refine lv_iinc (v := nI (j + 1)) (lv' := [(2, .int (nI (j + 1))), (3, .int (nI 2)), (0, .ref q0), (1, .int (nI n)), (4, .int (nI (vS q.2.1 - (wk q.2.1 (wk q.1 q.2.2).2.1).2.2)))]) hx hb dX4_hoursOn_65 hl (k := 3) rfl (nI_add j 1) (by decide) rfl (fun ls hl => ?_)
                    refine lv_goto (tgt := 2) hx hb dX4_hoursOn_68 (by decide) ?_
                    exact ih_2 ((hr1 q).1) r9 (j + 1) (z + (wk q.1 q.2.2).2.2 + (wk q.2.1 (wk q.1 q.2.2).2.1).2.2) (hrI_s hI (by omega)) hr9 (by omega) _ _ _ hP hD hS (lv_sub hl [2, 3, 0] rfl)
                  · have c_24 : ¬ ((vS q.2.1 - t9) = 0) := fun h9 => c_24 ((k_le0 (a := (vS q.2.1 - t9)) (by omega)).mpr h9)
                    refine lv_aload_n hx hb dX4_hoursOn_27 rfl (lv_at hl 0 rfl) ?_
                    refine lv_iload_n hx hb dX4_hoursOn_28 rfl (lv_at hl 3 rfl) ?_
                    refine k_calli (fun u_29 => [kO q0 4 [.int (nI th), .ref q1, .ref q2, .ref q3, .ref q4, .ref q5, .ref q6], kC G q1 8 (nR (peF ((wk q.1 q.2.2).1) w9)), kC G q2 120 (nR (knF ((wk q.1 q.2.2).1) w9)), kC G q3 120 (nR (plF ((wk q.1 q.2.2).1) w9)), kC G q4 80 (nR r9), kC G q5 8 (nR B9), kC G q6 2 (nR (nuF (ho + j) un))]) [] (k_runV (As := [.int (nI 1)]) (rest := []) (wc := [kO q0 4 [.int (nI th), .ref q1, .ref q2, .ref q3, .ref q4, .ref q5, .ref q6], kC G q1 8 (nR (peF ((wk q.1 q.2.2).1) w9)), kC G q2 120 (nR (knF ((wk q.1 q.2.2).1) w9)), kC G q3 120 (nR (plF ((wk q.1 q.2.2).1) w9)), kC G q4 80 (nR r9), kC G q5 8 (nR B9), kC G q6 2 (nR (nuF (ho + j) un))]) ⟨hx, hb, hml, hown, hts⟩ (m_isDone1 l G q0 q1 q2 q3 q4 q5 q6 ((wk q.1 q.2.2).1) w9 B9 (ho + j) un r9 th hq1.1 hwo hr9) (cwV 1 hts gX4_hoursOn_X4_isDone rfl rfl rfl (by decide +kernel) ⟨Nat.le_of_ble_eq_true rfl, Nat.le_of_ble_eq_true rfl⟩) hK hZ hP hD hS hA [0, 1, 2, 3, 4, 5, 6] rfl rfl 0 4 rfl rfl rfl rfl hl.1 rfl (Nat.le_of_ble_eq_true rfl) dX4_hoursOn_29 ⟨Nat.le_of_ble_eq_true rfl, Nat.le_of_ble_eq_true rfl⟩) hP hD hS hA [0, 1, 2, 3, 4, 5, 6] [] [0, 1, 2, 3, 4, 5, 6] rfl rfl rfl (by decide) (fun _ => rfl) rfl (fun r_29 u_29 H locs hp_29 hP hD hS => ?_)
                    rcases hp_29 with ⟨rfl, hp_29⟩ | ⟨rfl, hp_29⟩
                    · refine lv_if_ne (tgt := 49) hx hb dX4_hoursOn_32 (by decide) (fun c_32 => ?_) (fun c_32 => absurd c_32 (by decide))
                      have he := wkI_e hJ9 (by first | exact Or.inl (by omega) | exact Or.inr (fun q9 => by omega) | exact Or.inr (fun q9 => hp_37 q9.2.2))
                      obtain ⟨rfl, rfl, rfl⟩ := he
                      have hP : va_P G.1 vwCl [kO q0 4 [.int (nI th), .ref q1, .ref q2, .ref q3, .ref q4, .ref q5, .ref q6], kC G q1 8 (nR (peF ((wk q.1 q.2.2).1) ((wk q.2.1 (wk q.1 q.2.2).2.1).1))), kC G q2 120 (nR (knF ((wk q.1 q.2.2).1) ((wk q.2.1 (wk q.1 q.2.2).2.1).1))), kC G q3 120 (nR (plF ((wk q.1 q.2.2).1) ((wk q.2.1 (wk q.1 q.2.2).2.1).1))), kC G q4 80 (nR r9), kC G q5 8 (nR ((wk q.2.1 (wk q.1 q.2.2).2.1).2.1)), kC G q6 2 (nR (nuF (ho + j) un))] H := hP
                      have hD : va_D A [kO q0 4 [.int (nI th), .ref q1, .ref q2, .ref q3, .ref q4, .ref q5, .ref q6], kC G q1 8 (nR (peF ((wk q.1 q.2.2).1) ((wk q.2.1 (wk q.1 q.2.2).2.1).1))), kC G q2 120 (nR (knF ((wk q.1 q.2.2).1) ((wk q.2.1 (wk q.1 q.2.2).2.1).1))), kC G q3 120 (nR (plF ((wk q.1 q.2.2).1) ((wk q.2.1 (wk q.1 q.2.2).2.1).1))), kC G q4 80 (nR r9), kC G q5 8 (nR ((wk q.2.1 (wk q.1 q.2.2).2.1).2.1)), kC G q6 2 (nR (nuF (ho + j) un))] := hD
                      refine lv_iinc (v := nI 2) (lv' := [(3, .int (nI 2)), (0, .ref q0), (1, .int (nI n)), (2, .int (nI j)), (4, .int (nI (vS q.2.1 - (wk q.2.1 (wk q.1 q.2.2).2.1).2.2)))]) hx hb dX4_hoursOn_49 hl (k := 3) rfl (by decide) (by decide) rfl (fun ls hl => ?_)
                      refine lv_goto (tgt := 9) hx hb dX4_hoursOn_52 (by decide) ?_
                      refine lv_iload_n hx hb dX4_hoursOn_9 rfl (lv_at hl 0 rfl) ?_
                      refine lv_iconst (v := nI 2) hx hb dX4_hoursOn_10 (by decide) ?_
                      refine lv_icmp_ge (tgt := 55) hx hb dX4_hoursOn_11 (by decide) (fun c_11 => ?_) (fun c_11 => absurd c_11 (by decide))
                      refine lv_aload_n hx hb dX4_hoursOn_55 rfl (lv_at hl 1 rfl) ?_
                      refine va_get (D := G.1) (ci := 4) (v := .ref q6) (C := RX4) (T := TX4) (N := 7) hx hb hts hq_0 hown hK.1 hP 0 rfl rfl 6 (by decide) hq_1 (fun _ h9 => h9) rfl dX4_hoursOn_56 ?_
                      refine lv_iconst (v := nI 0) hx hb dX4_hoursOn_59 (by decide) ?_
                      refine lv_dup2_11 hx hb dX4_hoursOn_60 rfl rfl ?_
                      have hi_6 : 0 < 2 := by omega
                      refine va_iald (D := G.1) hx hb hK.1 hP 6 0 rfl rfl (vp_in_nI hi_6 (by omega)) dX4_hoursOn_61 ?_
                      refine lv_topi (fun y_7 hy_7 => ?_)
                      obtain rfl : y_7 = nI ((nuF (ho + j) un) 0) := hy_7.trans (nR_at (by omega))
                      refine lv_topi (fun y_8 hy_8 => ?_)
                      obtain rfl : y_8 = nI (ho + j) := hy_8.trans (rfl)
                      refine lv_iconst (v := nI 1) hx hb dX4_hoursOn_62 (by decide) ?_
                      refine lv_iadd hx hb dX4_hoursOn_63 ?_
                      refine lv_topi (fun y_9 hy_9 => ?_)
                      obtain rfl : y_9 = nI ((ho + j) + 1) := hy_9.trans (nI_add (ho + j) 1)
                      have hi_10 : 0 < 2 := by omega
                      refine va_iast (D := G.1) hx hb hK.1 hP hD hS 6 0 rfl rfl (vp_in_nI hi_10 (by omega)) dX4_hoursOn_64 (fun H locs hP hD hS => ?_)
                      rw [nR_upd (f := (nuF (ho + j) un)) (k := 0) (v := ((ho + j) + 1)) (by omega)] at hP hD
                      have hP : va_P G.1 vwCl [kO q0 4 [.int (nI th), .ref q1, .ref q2, .ref q3, .ref q4, .ref q5, .ref q6], kC G q1 8 (nR (peF ((wk q.1 q.2.2).1) ((wk q.2.1 (wk q.1 q.2.2).2.1).1))), kC G q2 120 (nR (knF ((wk q.1 q.2.2).1) ((wk q.2.1 (wk q.1 q.2.2).2.1).1))), kC G q3 120 (nR (plF ((wk q.1 q.2.2).1) ((wk q.2.1 (wk q.1 q.2.2).2.1).1))), kC G q4 80 (nR r9), kC G q5 8 (nR ((wk q.2.1 (wk q.1 q.2.2).2.1).2.1)), kC G q6 2 (nR (updN (nuF (ho + j) un) 0 ((ho + j) + 1)))] H := hP
                      have hD : va_D A [kO q0 4 [.int (nI th), .ref q1, .ref q2, .ref q3, .ref q4, .ref q5, .ref q6], kC G q1 8 (nR (peF ((wk q.1 q.2.2).1) ((wk q.2.1 (wk q.1 q.2.2).2.1).1))), kC G q2 120 (nR (knF ((wk q.1 q.2.2).1) ((wk q.2.1 (wk q.1 q.2.2).2.1).1))), kC G q3 120 (nR (plF ((wk q.1 q.2.2).1) ((wk q.2.1 (wk q.1 q.2.2).2.1).1))), kC G q4 80 (nR r9), kC G q5 8 (nR ((wk q.2.1 (wk q.1 q.2.2).2.1).2.1)), kC G q6 2 (nR (updN (nuF (ho + j) un) 0 ((ho + j) + 1)))] := hD
                      rw [nu_0] at hP hD
                      have hP : va_P G.1 vwCl [kO q0 4 [.int (nI th), .ref q1, .ref q2, .ref q3, .ref q4, .ref q5, .ref q6], kC G q1 8 (nR (peF ((wk q.1 q.2.2).1) ((wk q.2.1 (wk q.1 q.2.2).2.1).1))), kC G q2 120 (nR (knF ((wk q.1 q.2.2).1) ((wk q.2.1 (wk q.1 q.2.2).2.1).1))), kC G q3 120 (nR (plF ((wk q.1 q.2.2).1) ((wk q.2.1 (wk q.1 q.2.2).2.1).1))), kC G q4 80 (nR r9), kC G q5 8 (nR ((wk q.2.1 (wk q.1 q.2.2).2.1).2.1)), kC G q6 2 (nR (nuF (ho + (j + 1)) un))] H := hP
                      have hD : va_D A [kO q0 4 [.int (nI th), .ref q1, .ref q2, .ref q3, .ref q4, .ref q5, .ref q6], kC G q1 8 (nR (peF ((wk q.1 q.2.2).1) ((wk q.2.1 (wk q.1 q.2.2).2.1).1))), kC G q2 120 (nR (knF ((wk q.1 q.2.2).1) ((wk q.2.1 (wk q.1 q.2.2).2.1).1))), kC G q3 120 (nR (plF ((wk q.1 q.2.2).1) ((wk q.2.1 (wk q.1 q.2.2).2.1).1))), kC G q4 80 (nR r9), kC G q5 8 (nR ((wk q.2.1 (wk q.1 q.2.2).2.1).2.1)), kC G q6 2 (nR (nuF (ho + (j + 1)) un))] := hD
                      refine lv_iinc (v := nI (j + 1)) (lv' := [(2, .int (nI (j + 1))), (3, .int (nI 2)), (0, .ref q0), (1, .int (nI n)), (4, .int (nI (vS q.2.1 - (wk q.2.1 (wk q.1 q.2.2).2.1).2.2)))]) hx hb dX4_hoursOn_65 hl (k := 3) rfl (nI_add j 1) (by decide) rfl (fun ls hl => ?_)
                      refine lv_goto (tgt := 2) hx hb dX4_hoursOn_68 (by decide) ?_
                      exact ih_2 ((hr1 q).1) r9 (j + 1) (z + (wk q.1 q.2.2).2.2 + (wk q.2.1 (wk q.1 q.2.2).2.1).2.2) (hrI_s hI (by omega)) hr9 (by omega) _ _ _ hP hD hS (lv_sub hl [2, 3, 0] rfl)
                    · refine lv_if_ne (tgt := 49) hx hb dX4_hoursOn_32 (by decide) (fun c_32 => absurd c_32 (by decide)) (fun c_32 => ?_)
                      refine lv_aload_n hx hb dX4_hoursOn_35 rfl (lv_at hl 0 rfl) ?_
                      refine lv_iload_n hx hb dX4_hoursOn_36 rfl (lv_at hl 3 rfl) ?_
                      refine k_calli (fun u_37 => [kO q0 4 [.int (nI th), .ref q1, .ref q2, .ref q3, .ref q4, .ref q5, .ref q6], kC G q1 8 (nR (peF ((wk q.1 q.2.2).1) u_37.1)), kC G q2 120 (nR (knF ((wk q.1 q.2.2).1) u_37.1)), kC G q3 120 (nR (plF ((wk q.1 q.2.2).1) u_37.1)), kC G q4 80 (nR u_37.2.2), kC G q5 8 (nR u_37.2.1), kC G q6 2 (nR (nuF (ho + j) un))]) [] (k_runV (As := [.int (nI 1)]) (rest := []) (wc := [kO q0 4 [.int (nI th), .ref q1, .ref q2, .ref q3, .ref q4, .ref q5, .ref q6], kC G q1 8 (nR (peF ((wk q.1 q.2.2).1) w9)), kC G q2 120 (nR (knF ((wk q.1 q.2.2).1) w9)), kC G q3 120 (nR (plF ((wk q.1 q.2.2).1) w9)), kC G q4 80 (nR r9), kC G q5 8 (nR B9), kC G q6 2 (nR (nuF (ho + j) un))]) ⟨hx, hb, hml, hown, hts⟩ (m_knot1 l G q0 q1 q2 q3 q4 q5 q6 ((wk q.1 q.2.2).1) w9 B9 (ho + j) un r9 th hq1.1 hwo hBo hr9 (by omega) (by omega)) (cwV 1 hts gX4_hoursOn_X4_knot rfl rfl rfl (by decide +kernel) ⟨Nat.le_of_ble_eq_true rfl, Nat.le_of_ble_eq_true rfl⟩) hK hZ hP hD hS hA [0, 1, 2, 3, 4, 5, 6] rfl rfl 0 4 rfl rfl rfl rfl hl.1 rfl (Nat.le_of_ble_eq_true rfl) dX4_hoursOn_37 ⟨Nat.le_of_ble_eq_true rfl, Nat.le_of_ble_eq_true rfl⟩) hP hD hS hA [0, 1, 2, 3, 4, 5, 6] [] [0, 1, 2, 3, 4, 5, 6] rfl rfl rfl (by decide) (fun _ => rfl) rfl (fun r_37 u_37 H locs hp_37 hP hD hS => ?_)
                      rcases hp_37 with ⟨rfl, hp_37, hk1, hk2, hk3⟩ | ⟨rfl, hp_37, hu9⟩
                      · obtain ⟨uw, ub, ur⟩ := u_37
                        obtain rfl : uw = knW w9 B9 := hk1
                        obtain rfl : ub = takeB B9 (vC w9 0) := hk2
                        have hk3 : ruOk ((wk q.1 q.2.2).1) (knW w9 B9) ur := hk3
                        have hP : va_P G.1 vwCl [kO q0 4 [.int (nI th), .ref q1, .ref q2, .ref q3, .ref q4, .ref q5, .ref q6], kC G q1 8 (nR (peF ((wk q.1 q.2.2).1) (knW w9 B9))), kC G q2 120 (nR (knF ((wk q.1 q.2.2).1) (knW w9 B9))), kC G q3 120 (nR (plF ((wk q.1 q.2.2).1) (knW w9 B9))), kC G q4 80 (nR ur), kC G q5 8 (nR (takeB B9 (vC w9 0))), kC G q6 2 (nR (nuF (ho + j) un))] H := hP
                        have hD : va_D A [kO q0 4 [.int (nI th), .ref q1, .ref q2, .ref q3, .ref q4, .ref q5, .ref q6], kC G q1 8 (nR (peF ((wk q.1 q.2.2).1) (knW w9 B9))), kC G q2 120 (nR (knF ((wk q.1 q.2.2).1) (knW w9 B9))), kC G q3 120 (nR (plF ((wk q.1 q.2.2).1) (knW w9 B9))), kC G q4 80 (nR ur), kC G q5 8 (nR (takeB B9 (vC w9 0))), kC G q6 2 (nR (nuF (ho + j) un))] := hD
                        refine lv_if_eq (tgt := 49) hx hb dX4_hoursOn_40 (by decide) (fun c_40 => absurd c_40 (by decide)) (fun c_40 => ?_)
                        refine lv_iinc (v := nI (vS q.2.1 - (t9 + 1))) (lv' := [(4, .int (nI (vS q.2.1 - (t9 + 1)))), (0, .ref q0), (1, .int (nI n)), (2, .int (nI j)), (3, .int (nI 1))]) hx hb dX4_hoursOn_43 hl (k := 4) rfl (by rw [show vS q.2.1 - t9 = (vS q.2.1 - (t9 + 1)) + 1 by omega]; exact pk_m1 _) (by decide) rfl (fun ls hl => ?_)
                        refine lv_goto (tgt := 22) hx hb dX4_hoursOn_46 (by decide) ?_
                        exact ih_22 (knW w9 B9) (takeB B9 (vC w9 0)) ur (t9 + 1) (wkI_s hJ9 (by omega) (by omega) (by omega) hp_37) hk3 (by omega) _ _ _ hP hD hS (lv_sub hl [1, 2, 3, 4, 0] rfl)
                      · subst hu9
                        have hP : va_P G.1 vwCl [kO q0 4 [.int (nI th), .ref q1, .ref q2, .ref q3, .ref q4, .ref q5, .ref q6], kC G q1 8 (nR (peF ((wk q.1 q.2.2).1) w9)), kC G q2 120 (nR (knF ((wk q.1 q.2.2).1) w9)), kC G q3 120 (nR (plF ((wk q.1 q.2.2).1) w9)), kC G q4 80 (nR r9), kC G q5 8 (nR B9), kC G q6 2 (nR (nuF (ho + j) un))] H := hP
                        have hD : va_D A [kO q0 4 [.int (nI th), .ref q1, .ref q2, .ref q3, .ref q4, .ref q5, .ref q6], kC G q1 8 (nR (peF ((wk q.1 q.2.2).1) w9)), kC G q2 120 (nR (knF ((wk q.1 q.2.2).1) w9)), kC G q3 120 (nR (plF ((wk q.1 q.2.2).1) w9)), kC G q4 80 (nR r9), kC G q5 8 (nR B9), kC G q6 2 (nR (nuF (ho + j) un))] := hD
                        refine lv_if_eq (tgt := 49) hx hb dX4_hoursOn_40 (by decide) (fun c_40 => ?_) (fun c_40 => absurd c_40 (by decide))
                        have he := wkI_e hJ9 (by first | exact Or.inl (by omega) | exact Or.inr (fun q9 => by omega) | exact Or.inr (fun q9 => hp_37 q9.2.2))
                        obtain ⟨rfl, rfl, rfl⟩ := he
                        have hP : va_P G.1 vwCl [kO q0 4 [.int (nI th), .ref q1, .ref q2, .ref q3, .ref q4, .ref q5, .ref q6], kC G q1 8 (nR (peF ((wk q.1 q.2.2).1) ((wk q.2.1 (wk q.1 q.2.2).2.1).1))), kC G q2 120 (nR (knF ((wk q.1 q.2.2).1) ((wk q.2.1 (wk q.1 q.2.2).2.1).1))), kC G q3 120 (nR (plF ((wk q.1 q.2.2).1) ((wk q.2.1 (wk q.1 q.2.2).2.1).1))), kC G q4 80 (nR r9), kC G q5 8 (nR ((wk q.2.1 (wk q.1 q.2.2).2.1).2.1)), kC G q6 2 (nR (nuF (ho + j) un))] H := hP
                        have hD : va_D A [kO q0 4 [.int (nI th), .ref q1, .ref q2, .ref q3, .ref q4, .ref q5, .ref q6], kC G q1 8 (nR (peF ((wk q.1 q.2.2).1) ((wk q.2.1 (wk q.1 q.2.2).2.1).1))), kC G q2 120 (nR (knF ((wk q.1 q.2.2).1) ((wk q.2.1 (wk q.1 q.2.2).2.1).1))), kC G q3 120 (nR (plF ((wk q.1 q.2.2).1) ((wk q.2.1 (wk q.1 q.2.2).2.1).1))), kC G q4 80 (nR r9), kC G q5 8 (nR ((wk q.2.1 (wk q.1 q.2.2).2.1).2.1)), kC G q6 2 (nR (nuF (ho + j) un))] := hD
                        refine lv_iinc (v := nI 2) (lv' := [(3, .int (nI 2)), (0, .ref q0), (1, .int (nI n)), (2, .int (nI j)), (4, .int (nI (vS q.2.1 - (wk q.2.1 (wk q.1 q.2.2).2.1).2.2)))]) hx hb dX4_hoursOn_49 hl (k := 3) rfl (by decide) (by decide) rfl (fun ls hl => ?_)
                        refine lv_goto (tgt := 9) hx hb dX4_hoursOn_52 (by decide) ?_
                        refine lv_iload_n hx hb dX4_hoursOn_9 rfl (lv_at hl 0 rfl) ?_
                        refine lv_iconst (v := nI 2) hx hb dX4_hoursOn_10 (by decide) ?_
                        refine lv_icmp_ge (tgt := 55) hx hb dX4_hoursOn_11 (by decide) (fun c_11 => ?_) (fun c_11 => absurd c_11 (by decide))
                        refine lv_aload_n hx hb dX4_hoursOn_55 rfl (lv_at hl 1 rfl) ?_
                        refine va_get (D := G.1) (ci := 4) (v := .ref q6) (C := RX4) (T := TX4) (N := 7) hx hb hts hq_0 hown hK.1 hP 0 rfl rfl 6 (by decide) hq_1 (fun _ h9 => h9) rfl dX4_hoursOn_56 ?_
                        refine lv_iconst (v := nI 0) hx hb dX4_hoursOn_59 (by decide) ?_
                        refine lv_dup2_11 hx hb dX4_hoursOn_60 rfl rfl ?_
                        have hi_11 : 0 < 2 := by omega
                        refine va_iald (D := G.1) hx hb hK.1 hP 6 0 rfl rfl (vp_in_nI hi_11 (by omega)) dX4_hoursOn_61 ?_
                        refine lv_topi (fun y_12 hy_12 => ?_)
                        obtain rfl : y_12 = nI ((nuF (ho + j) un) 0) := hy_12.trans (nR_at (by omega))
                        refine lv_topi (fun y_13 hy_13 => ?_)
                        obtain rfl : y_13 = nI (ho + j) := hy_13.trans (rfl)
                        refine lv_iconst (v := nI 1) hx hb dX4_hoursOn_62 (by decide) ?_
                        refine lv_iadd hx hb dX4_hoursOn_63 ?_
                        refine lv_topi (fun y_14 hy_14 => ?_)
                        obtain rfl : y_14 = nI ((ho + j) + 1) := hy_14.trans (nI_add (ho + j) 1)
                        have hi_15 : 0 < 2 := by omega
                        refine va_iast (D := G.1) hx hb hK.1 hP hD hS 6 0 rfl rfl (vp_in_nI hi_15 (by omega)) dX4_hoursOn_64 (fun H locs hP hD hS => ?_)
                        rw [nR_upd (f := (nuF (ho + j) un)) (k := 0) (v := ((ho + j) + 1)) (by omega)] at hP hD
                        have hP : va_P G.1 vwCl [kO q0 4 [.int (nI th), .ref q1, .ref q2, .ref q3, .ref q4, .ref q5, .ref q6], kC G q1 8 (nR (peF ((wk q.1 q.2.2).1) ((wk q.2.1 (wk q.1 q.2.2).2.1).1))), kC G q2 120 (nR (knF ((wk q.1 q.2.2).1) ((wk q.2.1 (wk q.1 q.2.2).2.1).1))), kC G q3 120 (nR (plF ((wk q.1 q.2.2).1) ((wk q.2.1 (wk q.1 q.2.2).2.1).1))), kC G q4 80 (nR r9), kC G q5 8 (nR ((wk q.2.1 (wk q.1 q.2.2).2.1).2.1)), kC G q6 2 (nR (updN (nuF (ho + j) un) 0 ((ho + j) + 1)))] H := hP
                        have hD : va_D A [kO q0 4 [.int (nI th), .ref q1, .ref q2, .ref q3, .ref q4, .ref q5, .ref q6], kC G q1 8 (nR (peF ((wk q.1 q.2.2).1) ((wk q.2.1 (wk q.1 q.2.2).2.1).1))), kC G q2 120 (nR (knF ((wk q.1 q.2.2).1) ((wk q.2.1 (wk q.1 q.2.2).2.1).1))), kC G q3 120 (nR (plF ((wk q.1 q.2.2).1) ((wk q.2.1 (wk q.1 q.2.2).2.1).1))), kC G q4 80 (nR r9), kC G q5 8 (nR ((wk q.2.1 (wk q.1 q.2.2).2.1).2.1)), kC G q6 2 (nR (updN (nuF (ho + j) un) 0 ((ho + j) + 1)))] := hD
                        rw [nu_0] at hP hD
                        have hP : va_P G.1 vwCl [kO q0 4 [.int (nI th), .ref q1, .ref q2, .ref q3, .ref q4, .ref q5, .ref q6], kC G q1 8 (nR (peF ((wk q.1 q.2.2).1) ((wk q.2.1 (wk q.1 q.2.2).2.1).1))), kC G q2 120 (nR (knF ((wk q.1 q.2.2).1) ((wk q.2.1 (wk q.1 q.2.2).2.1).1))), kC G q3 120 (nR (plF ((wk q.1 q.2.2).1) ((wk q.2.1 (wk q.1 q.2.2).2.1).1))), kC G q4 80 (nR r9), kC G q5 8 (nR ((wk q.2.1 (wk q.1 q.2.2).2.1).2.1)), kC G q6 2 (nR (nuF (ho + (j + 1)) un))] H := hP
                        have hD : va_D A [kO q0 4 [.int (nI th), .ref q1, .ref q2, .ref q3, .ref q4, .ref q5, .ref q6], kC G q1 8 (nR (peF ((wk q.1 q.2.2).1) ((wk q.2.1 (wk q.1 q.2.2).2.1).1))), kC G q2 120 (nR (knF ((wk q.1 q.2.2).1) ((wk q.2.1 (wk q.1 q.2.2).2.1).1))), kC G q3 120 (nR (plF ((wk q.1 q.2.2).1) ((wk q.2.1 (wk q.1 q.2.2).2.1).1))), kC G q4 80 (nR r9), kC G q5 8 (nR ((wk q.2.1 (wk q.1 q.2.2).2.1).2.1)), kC G q6 2 (nR (nuF (ho + (j + 1)) un))] := hD
                        refine lv_iinc (v := nI (j + 1)) (lv' := [(2, .int (nI (j + 1))), (3, .int (nI 2)), (0, .ref q0), (1, .int (nI n)), (4, .int (nI (vS q.2.1 - (wk q.2.1 (wk q.1 q.2.2).2.1).2.2)))]) hx hb dX4_hoursOn_65 hl (k := 3) rfl (nI_add j 1) (by decide) rfl (fun ls hl => ?_)
                        refine lv_goto (tgt := 2) hx hb dX4_hoursOn_68 (by decide) ?_
                        exact ih_2 ((hr1 q).1) r9 (j + 1) (z + (wk q.1 q.2.2).2.2 + (wk q.2.1 (wk q.1 q.2.2).2.1).2.2) (hrI_s hI (by omega)) hr9 (by omega) _ _ _ hP hD hS (lv_sub hl [2, 3, 0] rfl)
              exact loop_221 (vS q.2.1 + 1) q.2.1 ((wk q.1 q.2.2).2.1) r2 0 (wkI_0 hq.2.1 hq1.2.1) hr2 (by omega) H locs ls hP hD hS (lv_sub hl [2, 3, 4, 1, 0] rfl)
            · have c_24 : ¬ ((vS q.1 - t) = 0) := fun h9 => c_24 ((k_le0 (a := (vS q.1 - t)) (by omega)).mpr h9)
              refine lv_aload_n hx hb dX4_hoursOn_27 rfl (lv_at hl 0 rfl) ?_
              refine lv_iload_n hx hb dX4_hoursOn_28 rfl (lv_at hl 3 rfl) ?_
              refine k_calli (fun u_29 => [kO q0 4 [.int (nI th), .ref q1, .ref q2, .ref q3, .ref q4, .ref q5, .ref q6], kC G q1 8 (nR (peF w q.2.1)), kC G q2 120 (nR (knF w q.2.1)), kC G q3 120 (nR (plF w q.2.1)), kC G q4 80 (nR r2), kC G q5 8 (nR B), kC G q6 2 (nR (nuF (ho + j) un))]) [] (k_runV (As := [.int (nI 0)]) (rest := []) (wc := [kO q0 4 [.int (nI th), .ref q1, .ref q2, .ref q3, .ref q4, .ref q5, .ref q6], kC G q1 8 (nR (peF w q.2.1)), kC G q2 120 (nR (knF w q.2.1)), kC G q3 120 (nR (plF w q.2.1)), kC G q4 80 (nR r2), kC G q5 8 (nR B), kC G q6 2 (nR (nuF (ho + j) un))]) ⟨hx, hb, hml, hown, hts⟩ (m_isDone0 l G q0 q1 q2 q3 q4 q5 q6 w q.2.1 B (ho + j) un r2 th hwo hq.2.1 hr2) (cwV 1 hts gX4_hoursOn_X4_isDone rfl rfl rfl (by decide +kernel) ⟨Nat.le_of_ble_eq_true rfl, Nat.le_of_ble_eq_true rfl⟩) hK hZ hP hD hS hA [0, 1, 2, 3, 4, 5, 6] rfl rfl 0 4 rfl rfl rfl rfl hl.1 rfl (Nat.le_of_ble_eq_true rfl) dX4_hoursOn_29 ⟨Nat.le_of_ble_eq_true rfl, Nat.le_of_ble_eq_true rfl⟩) hP hD hS hA [0, 1, 2, 3, 4, 5, 6] [] [0, 1, 2, 3, 4, 5, 6] rfl rfl rfl (by decide) (fun _ => rfl) rfl (fun r_29 u_29 H locs hp_29 hP hD hS => ?_)
              rcases hp_29 with ⟨rfl, hp_29⟩ | ⟨rfl, hp_29⟩
              · refine lv_if_ne (tgt := 49) hx hb dX4_hoursOn_32 (by decide) (fun c_32 => ?_) (fun c_32 => absurd c_32 (by decide))
                have he := wkI_e hJ (by first | exact Or.inl (by omega) | exact Or.inr (fun q9 => by omega) | exact Or.inr (fun q9 => hp_37 q9.2.2))
                obtain ⟨rfl, rfl, rfl⟩ := he
                have hP : va_P G.1 vwCl [kO q0 4 [.int (nI th), .ref q1, .ref q2, .ref q3, .ref q4, .ref q5, .ref q6], kC G q1 8 (nR (peF ((wk q.1 q.2.2).1) q.2.1)), kC G q2 120 (nR (knF ((wk q.1 q.2.2).1) q.2.1)), kC G q3 120 (nR (plF ((wk q.1 q.2.2).1) q.2.1)), kC G q4 80 (nR r2), kC G q5 8 (nR ((wk q.1 q.2.2).2.1)), kC G q6 2 (nR (nuF (ho + j) un))] H := hP
                have hD : va_D A [kO q0 4 [.int (nI th), .ref q1, .ref q2, .ref q3, .ref q4, .ref q5, .ref q6], kC G q1 8 (nR (peF ((wk q.1 q.2.2).1) q.2.1)), kC G q2 120 (nR (knF ((wk q.1 q.2.2).1) q.2.1)), kC G q3 120 (nR (plF ((wk q.1 q.2.2).1) q.2.1)), kC G q4 80 (nR r2), kC G q5 8 (nR ((wk q.1 q.2.2).2.1)), kC G q6 2 (nR (nuF (ho + j) un))] := hD
                refine lv_iinc (v := nI 1) (lv' := [(3, .int (nI 1)), (0, .ref q0), (1, .int (nI n)), (2, .int (nI j)), (4, .int (nI (vS q.1 - (wk q.1 q.2.2).2.2)))]) hx hb dX4_hoursOn_49 hl (k := 3) rfl (by decide) (by decide) rfl (fun ls hl => ?_)
                refine lv_goto (tgt := 9) hx hb dX4_hoursOn_52 (by decide) ?_
                refine lv_iload_n hx hb dX4_hoursOn_9 rfl (lv_at hl 0 rfl) ?_
                refine lv_iconst (v := nI 2) hx hb dX4_hoursOn_10 (by decide) ?_
                refine lv_icmp_ge (tgt := 55) hx hb dX4_hoursOn_11 (by decide) (fun c_11 => absurd c_11 (by decide)) (fun c_11 => ?_)
                refine lv_aload_n hx hb dX4_hoursOn_14 rfl (lv_at hl 1 rfl) ?_
                refine lv_iload_n hx hb dX4_hoursOn_15 rfl (lv_at hl 0 rfl) ?_
                refine lv_iconst (v := nI 0) hx hb dX4_hoursOn_16 (by decide) ?_
                refine k_calli (fun _ => [kO q0 4 [.int (nI th), .ref q1, .ref q2, .ref q3, .ref q4, .ref q5, .ref q6], kC G q1 8 (nR (peF ((wk q.1 q.2.2).1) q.2.1)), kC G q2 120 (nR (knF ((wk q.1 q.2.2).1) q.2.1)), kC G q3 120 (nR (plF ((wk q.1 q.2.2).1) q.2.1)), kC G q4 80 (nR r2), kC G q5 8 (nR ((wk q.1 q.2.2).2.1)), kC G q6 2 (nR (nuF (ho + j) un))]) [kC G q2 120 (nR (knF ((wk q.1 q.2.2).1) q.2.1)), kC G q3 120 (nR (plF ((wk q.1 q.2.2).1) q.2.1)), kC G q4 80 (nR r2), kC G q5 8 (nR ((wk q.1 q.2.2).2.1)), kC G q6 2 (nR (nuF (ho + j) un))] (k_runV (As := [.int (nI 1), .int (nI 0)]) (rest := []) (wc := [kO q0 4 [.int (nI th), .ref q1, .ref q2, .ref q3, .ref q4, .ref q5, .ref q6], kC G q1 8 (nR (peF ((wk q.1 q.2.2).1) q.2.1))]) ⟨hx, hb, hml, hown, hts⟩ (m_pe l G q0 q1 q2 q3 q4 q5 q6 th (peF ((wk q.1 q.2.2).1) q.2.1) 1 0 (by decide) (by decide)) (cwV 2 hts gX4_hoursOn_X4_pe rfl rfl rfl (by decide +kernel) ⟨Nat.le_of_ble_eq_true rfl, Nat.le_of_ble_eq_true rfl⟩) hK hZ hP hD hS hA [0, 1] rfl rfl 0 4 rfl rfl rfl rfl hl.1 rfl (Nat.le_of_ble_eq_true rfl) dX4_hoursOn_17 ⟨Nat.le_of_ble_eq_true rfl, Nat.le_of_ble_eq_true rfl⟩) hP hD hS hA [0, 1] [2, 3, 4, 5, 6] [5, 6, 0, 1, 2, 3, 4] rfl rfl rfl (by decide) (fun _ => rfl) rfl (fun r_17 u_17 H locs hp_17 hP hD hS => ?_)
                have hp_17 : r_17 = nI (vS q.2.1) := hp_17
                subst hp_17
                refine lv_istore (lv' := [(4, .int (nI (vS q.2.1))), (3, .int (nI 1)), (0, .ref q0), (1, .int (nI n)), (2, .int (nI j))]) hx hb dX4_hoursOn_20 hl (by decide) rfl (fun ls hl => ?_)
                have loop_221 : ∀ (fu_22 : Nat) (w9 : Wv) (B9 : Nat → Nat) (r9 : Nat → Nat) (t9 : Nat), wkI q.2.1 (wk q.1 q.2.2).2.1 w9 B9 t9 → ruOk (wk q.1 q.2.2).1 w9 r9 → vS q.2.1 < t9 + fu_22 → ∀ (H : Heap) (locs : List Loc) (ls : Array Slot), va_P G.1 vwCl [kO q0 4 [.int (nI th), .ref q1, .ref q2, .ref q3, .ref q4, .ref q5, .ref q6], kC G q1 8 (nR (peF ((wk q.1 q.2.2).1) w9)), kC G q2 120 (nR (knF ((wk q.1 q.2.2).1) w9)), kC G q3 120 (nR (plF ((wk q.1 q.2.2).1) w9)), kC G q4 80 (nR r9), kC G q5 8 (nR B9), kC G q6 2 (nR (nuF (ho + j) un))] H → va_D A [kO q0 4 [.int (nI th), .ref q1, .ref q2, .ref q3, .ref q4, .ref q5, .ref q6], kC G q1 8 (nR (peF ((wk q.1 q.2.2).1) w9)), kC G q2 120 (nR (knF ((wk q.1 q.2.2).1) w9)), kC G q3 120 (nR (plF ((wk q.1 q.2.2).1) w9)), kC G q4 80 (nR r9), kC G q5 8 (nR B9), kC G q6 2 (nR (nuF (ho + j) un))] → va_S A s.heap H locs → lv_has ls 5 [(0, .ref q0), (1, .int (nI n)), (2, .int (nI j)), (3, .int (nI 1)), (4, .int (nI (vS q.2.1 - t9)))] → W p l e ({ frames := 3, cells := 0, slots := 0, locals := 68 } : Room) s m args below meth c H locs 0 0 Qs (F0 m 22 ls []) := by
                  intro fu_22
                  induction fu_22 with
                  | zero =>
                    intro w9 B9 r9 t9 hJ9 hr9 hf3
                    have hj9 : t9 ≤ vS q.2.1 := hJ9.1; exact absurd hf3 (by omega)
                  | succ fu_22 ih_22 =>
                    intro w9 B9 r9 t9 hJ9 hr9 hf3 H locs ls hP hD hS hl
                    have hwo : wOk w9 := hJ9.2.2.1
                    have hBo : bOk B9 := hJ9.2.2.2.1
                    have hj9 : t9 ≤ vS q.2.1 := hJ9.1
                    have qb1 : vT w9 ≤ 20 := hwo.2.2.1
                    have qb2 : vM w9 ≤ 60 := hwo.2.2.2.1
                    refine lv_iload hx hb dX4_hoursOn_22 (lv_at hl 4 rfl) ?_
                    refine lv_if_le (tgt := 49) hx hb dX4_hoursOn_24 (by decide) (fun c_24 => ?_) (fun c_24 => ?_)
                    · have c_24 : (vS q.2.1 - t9) = 0 := (k_le0 (a := (vS q.2.1 - t9)) (by omega)).mp c_24
                      have he := wkI_e hJ9 (by first | exact Or.inl (by omega) | exact Or.inr (fun q9 => by omega) | exact Or.inr (fun q9 => hp_37 q9.2.2))
                      obtain ⟨rfl, rfl, rfl⟩ := he
                      have hP : va_P G.1 vwCl [kO q0 4 [.int (nI th), .ref q1, .ref q2, .ref q3, .ref q4, .ref q5, .ref q6], kC G q1 8 (nR (peF ((wk q.1 q.2.2).1) ((wk q.2.1 (wk q.1 q.2.2).2.1).1))), kC G q2 120 (nR (knF ((wk q.1 q.2.2).1) ((wk q.2.1 (wk q.1 q.2.2).2.1).1))), kC G q3 120 (nR (plF ((wk q.1 q.2.2).1) ((wk q.2.1 (wk q.1 q.2.2).2.1).1))), kC G q4 80 (nR r9), kC G q5 8 (nR ((wk q.2.1 (wk q.1 q.2.2).2.1).2.1)), kC G q6 2 (nR (nuF (ho + j) un))] H := hP
                      have hD : va_D A [kO q0 4 [.int (nI th), .ref q1, .ref q2, .ref q3, .ref q4, .ref q5, .ref q6], kC G q1 8 (nR (peF ((wk q.1 q.2.2).1) ((wk q.2.1 (wk q.1 q.2.2).2.1).1))), kC G q2 120 (nR (knF ((wk q.1 q.2.2).1) ((wk q.2.1 (wk q.1 q.2.2).2.1).1))), kC G q3 120 (nR (plF ((wk q.1 q.2.2).1) ((wk q.2.1 (wk q.1 q.2.2).2.1).1))), kC G q4 80 (nR r9), kC G q5 8 (nR ((wk q.2.1 (wk q.1 q.2.2).2.1).2.1)), kC G q6 2 (nR (nuF (ho + j) un))] := hD
                      refine lv_iinc (v := nI 2) (lv' := [(3, .int (nI 2)), (0, .ref q0), (1, .int (nI n)), (2, .int (nI j)), (4, .int (nI (vS q.2.1 - (wk q.2.1 (wk q.1 q.2.2).2.1).2.2)))]) hx hb dX4_hoursOn_49 hl (k := 3) rfl (by decide) (by decide) rfl (fun ls hl => ?_)
                      refine lv_goto (tgt := 9) hx hb dX4_hoursOn_52 (by decide) ?_
                      refine lv_iload_n hx hb dX4_hoursOn_9 rfl (lv_at hl 0 rfl) ?_
                      refine lv_iconst (v := nI 2) hx hb dX4_hoursOn_10 (by decide) ?_
                      refine lv_icmp_ge (tgt := 55) hx hb dX4_hoursOn_11 (by decide) (fun c_11 => ?_) (fun c_11 => absurd c_11 (by decide))
                      refine lv_aload_n hx hb dX4_hoursOn_55 rfl (lv_at hl 1 rfl) ?_
                      refine va_get (D := G.1) (ci := 4) (v := .ref q6) (C := RX4) (T := TX4) (N := 7) hx hb hts hq_0 hown hK.1 hP 0 rfl rfl 6 (by decide) hq_1 (fun _ h9 => h9) rfl dX4_hoursOn_56 ?_
                      refine lv_iconst (v := nI 0) hx hb dX4_hoursOn_59 (by decide) ?_
                      refine lv_dup2_11 hx hb dX4_hoursOn_60 rfl rfl ?_
                      have hi_16 : 0 < 2 := by omega
                      refine va_iald (D := G.1) hx hb hK.1 hP 6 0 rfl rfl (vp_in_nI hi_16 (by omega)) dX4_hoursOn_61 ?_
                      refine lv_topi (fun y_17 hy_17 => ?_)
                      obtain rfl : y_17 = nI ((nuF (ho + j) un) 0) := hy_17.trans (nR_at (by omega))
                      refine lv_topi (fun y_18 hy_18 => ?_)
                      obtain rfl : y_18 = nI (ho + j) := hy_18.trans (rfl)
                      refine lv_iconst (v := nI 1) hx hb dX4_hoursOn_62 (by decide) ?_
                      refine lv_iadd hx hb dX4_hoursOn_63 ?_
                      refine lv_topi (fun y_19 hy_19 => ?_)
                      obtain rfl : y_19 = nI ((ho + j) + 1) := hy_19.trans (nI_add (ho + j) 1)
                      have hi_20 : 0 < 2 := by omega
                      refine va_iast (D := G.1) hx hb hK.1 hP hD hS 6 0 rfl rfl (vp_in_nI hi_20 (by omega)) dX4_hoursOn_64 (fun H locs hP hD hS => ?_)
                      rw [nR_upd (f := (nuF (ho + j) un)) (k := 0) (v := ((ho + j) + 1)) (by omega)] at hP hD
                      have hP : va_P G.1 vwCl [kO q0 4 [.int (nI th), .ref q1, .ref q2, .ref q3, .ref q4, .ref q5, .ref q6], kC G q1 8 (nR (peF ((wk q.1 q.2.2).1) ((wk q.2.1 (wk q.1 q.2.2).2.1).1))), kC G q2 120 (nR (knF ((wk q.1 q.2.2).1) ((wk q.2.1 (wk q.1 q.2.2).2.1).1))), kC G q3 120 (nR (plF ((wk q.1 q.2.2).1) ((wk q.2.1 (wk q.1 q.2.2).2.1).1))), kC G q4 80 (nR r9), kC G q5 8 (nR ((wk q.2.1 (wk q.1 q.2.2).2.1).2.1)), kC G q6 2 (nR (updN (nuF (ho + j) un) 0 ((ho + j) + 1)))] H := hP
                      have hD : va_D A [kO q0 4 [.int (nI th), .ref q1, .ref q2, .ref q3, .ref q4, .ref q5, .ref q6], kC G q1 8 (nR (peF ((wk q.1 q.2.2).1) ((wk q.2.1 (wk q.1 q.2.2).2.1).1))), kC G q2 120 (nR (knF ((wk q.1 q.2.2).1) ((wk q.2.1 (wk q.1 q.2.2).2.1).1))), kC G q3 120 (nR (plF ((wk q.1 q.2.2).1) ((wk q.2.1 (wk q.1 q.2.2).2.1).1))), kC G q4 80 (nR r9), kC G q5 8 (nR ((wk q.2.1 (wk q.1 q.2.2).2.1).2.1)), kC G q6 2 (nR (updN (nuF (ho + j) un) 0 ((ho + j) + 1)))] := hD
                      rw [nu_0] at hP hD
                      have hP : va_P G.1 vwCl [kO q0 4 [.int (nI th), .ref q1, .ref q2, .ref q3, .ref q4, .ref q5, .ref q6], kC G q1 8 (nR (peF ((wk q.1 q.2.2).1) ((wk q.2.1 (wk q.1 q.2.2).2.1).1))), kC G q2 120 (nR (knF ((wk q.1 q.2.2).1) ((wk q.2.1 (wk q.1 q.2.2).2.1).1))), kC G q3 120 (nR (plF ((wk q.1 q.2.2).1) ((wk q.2.1 (wk q.1 q.2.2).2.1).1))), kC G q4 80 (nR r9), kC G q5 8 (nR ((wk q.2.1 (wk q.1 q.2.2).2.1).2.1)), kC G q6 2 (nR (nuF (ho + (j + 1)) un))] H := hP
                      have hD : va_D A [kO q0 4 [.int (nI th), .ref q1, .ref q2, .ref q3, .ref q4, .ref q5, .ref q6], kC G q1 8 (nR (peF ((wk q.1 q.2.2).1) ((wk q.2.1 (wk q.1 q.2.2).2.1).1))), kC G q2 120 (nR (knF ((wk q.1 q.2.2).1) ((wk q.2.1 (wk q.1 q.2.2).2.1).1))), kC G q3 120 (nR (plF ((wk q.1 q.2.2).1) ((wk q.2.1 (wk q.1 q.2.2).2.1).1))), kC G q4 80 (nR r9), kC G q5 8 (nR ((wk q.2.1 (wk q.1 q.2.2).2.1).2.1)), kC G q6 2 (nR (nuF (ho + (j + 1)) un))] := hD
                      refine lv_iinc (v := nI (j + 1)) (lv' := [(2, .int (nI (j + 1))), (3, .int (nI 2)), (0, .ref q0), (1, .int (nI n)), (4, .int (nI (vS q.2.1 - (wk q.2.1 (wk q.1 q.2.2).2.1).2.2)))]) hx hb dX4_hoursOn_65 hl (k := 3) rfl (nI_add j 1) (by decide) rfl (fun ls hl => ?_)
                      refine lv_goto (tgt := 2) hx hb dX4_hoursOn_68 (by decide) ?_
                      exact ih_2 ((hr1 q).1) r9 (j + 1) (z + (wk q.1 q.2.2).2.2 + (wk q.2.1 (wk q.1 q.2.2).2.1).2.2) (hrI_s hI (by omega)) hr9 (by omega) _ _ _ hP hD hS (lv_sub hl [2, 3, 0] rfl)
                    · have c_24 : ¬ ((vS q.2.1 - t9) = 0) := fun h9 => c_24 ((k_le0 (a := (vS q.2.1 - t9)) (by omega)).mpr h9)
                      refine lv_aload_n hx hb dX4_hoursOn_27 rfl (lv_at hl 0 rfl) ?_
                      refine lv_iload_n hx hb dX4_hoursOn_28 rfl (lv_at hl 3 rfl) ?_
                      refine k_calli (fun u_29 => [kO q0 4 [.int (nI th), .ref q1, .ref q2, .ref q3, .ref q4, .ref q5, .ref q6], kC G q1 8 (nR (peF ((wk q.1 q.2.2).1) w9)), kC G q2 120 (nR (knF ((wk q.1 q.2.2).1) w9)), kC G q3 120 (nR (plF ((wk q.1 q.2.2).1) w9)), kC G q4 80 (nR r9), kC G q5 8 (nR B9), kC G q6 2 (nR (nuF (ho + j) un))]) [] (k_runV (As := [.int (nI 1)]) (rest := []) (wc := [kO q0 4 [.int (nI th), .ref q1, .ref q2, .ref q3, .ref q4, .ref q5, .ref q6], kC G q1 8 (nR (peF ((wk q.1 q.2.2).1) w9)), kC G q2 120 (nR (knF ((wk q.1 q.2.2).1) w9)), kC G q3 120 (nR (plF ((wk q.1 q.2.2).1) w9)), kC G q4 80 (nR r9), kC G q5 8 (nR B9), kC G q6 2 (nR (nuF (ho + j) un))]) ⟨hx, hb, hml, hown, hts⟩ (m_isDone1 l G q0 q1 q2 q3 q4 q5 q6 ((wk q.1 q.2.2).1) w9 B9 (ho + j) un r9 th hq1.1 hwo hr9) (cwV 1 hts gX4_hoursOn_X4_isDone rfl rfl rfl (by decide +kernel) ⟨Nat.le_of_ble_eq_true rfl, Nat.le_of_ble_eq_true rfl⟩) hK hZ hP hD hS hA [0, 1, 2, 3, 4, 5, 6] rfl rfl 0 4 rfl rfl rfl rfl hl.1 rfl (Nat.le_of_ble_eq_true rfl) dX4_hoursOn_29 ⟨Nat.le_of_ble_eq_true rfl, Nat.le_of_ble_eq_true rfl⟩) hP hD hS hA [0, 1, 2, 3, 4, 5, 6] [] [0, 1, 2, 3, 4, 5, 6] rfl rfl rfl (by decide) (fun _ => rfl) rfl (fun r_29 u_29 H locs hp_29 hP hD hS => ?_)
                      rcases hp_29 with ⟨rfl, hp_29⟩ | ⟨rfl, hp_29⟩
                      · refine lv_if_ne (tgt := 49) hx hb dX4_hoursOn_32 (by decide) (fun c_32 => ?_) (fun c_32 => absurd c_32 (by decide))
                        have he := wkI_e hJ9 (by first | exact Or.inl (by omega) | exact Or.inr (fun q9 => by omega) | exact Or.inr (fun q9 => hp_37 q9.2.2))
                        obtain ⟨rfl, rfl, rfl⟩ := he
                        have hP : va_P G.1 vwCl [kO q0 4 [.int (nI th), .ref q1, .ref q2, .ref q3, .ref q4, .ref q5, .ref q6], kC G q1 8 (nR (peF ((wk q.1 q.2.2).1) ((wk q.2.1 (wk q.1 q.2.2).2.1).1))), kC G q2 120 (nR (knF ((wk q.1 q.2.2).1) ((wk q.2.1 (wk q.1 q.2.2).2.1).1))), kC G q3 120 (nR (plF ((wk q.1 q.2.2).1) ((wk q.2.1 (wk q.1 q.2.2).2.1).1))), kC G q4 80 (nR r9), kC G q5 8 (nR ((wk q.2.1 (wk q.1 q.2.2).2.1).2.1)), kC G q6 2 (nR (nuF (ho + j) un))] H := hP
                        have hD : va_D A [kO q0 4 [.int (nI th), .ref q1, .ref q2, .ref q3, .ref q4, .ref q5, .ref q6], kC G q1 8 (nR (peF ((wk q.1 q.2.2).1) ((wk q.2.1 (wk q.1 q.2.2).2.1).1))), kC G q2 120 (nR (knF ((wk q.1 q.2.2).1) ((wk q.2.1 (wk q.1 q.2.2).2.1).1))), kC G q3 120 (nR (plF ((wk q.1 q.2.2).1) ((wk q.2.1 (wk q.1 q.2.2).2.1).1))), kC G q4 80 (nR r9), kC G q5 8 (nR ((wk q.2.1 (wk q.1 q.2.2).2.1).2.1)), kC G q6 2 (nR (nuF (ho + j) un))] := hD
                        refine lv_iinc (v := nI 2) (lv' := [(3, .int (nI 2)), (0, .ref q0), (1, .int (nI n)), (2, .int (nI j)), (4, .int (nI (vS q.2.1 - (wk q.2.1 (wk q.1 q.2.2).2.1).2.2)))]) hx hb dX4_hoursOn_49 hl (k := 3) rfl (by decide) (by decide) rfl (fun ls hl => ?_)
                        refine lv_goto (tgt := 9) hx hb dX4_hoursOn_52 (by decide) ?_
                        refine lv_iload_n hx hb dX4_hoursOn_9 rfl (lv_at hl 0 rfl) ?_
                        refine lv_iconst (v := nI 2) hx hb dX4_hoursOn_10 (by decide) ?_
                        refine lv_icmp_ge (tgt := 55) hx hb dX4_hoursOn_11 (by decide) (fun c_11 => ?_) (fun c_11 => absurd c_11 (by decide))
                        refine lv_aload_n hx hb dX4_hoursOn_55 rfl (lv_at hl 1 rfl) ?_
                        refine va_get (D := G.1) (ci := 4) (v := .ref q6) (C := RX4) (T := TX4) (N := 7) hx hb hts hq_0 hown hK.1 hP 0 rfl rfl 6 (by decide) hq_1 (fun _ h9 => h9) rfl dX4_hoursOn_56 ?_
                        refine lv_iconst (v := nI 0) hx hb dX4_hoursOn_59 (by decide) ?_
                        refine lv_dup2_11 hx hb dX4_hoursOn_60 rfl rfl ?_
                        have hi_21 : 0 < 2 := by omega
                        refine va_iald (D := G.1) hx hb hK.1 hP 6 0 rfl rfl (vp_in_nI hi_21 (by omega)) dX4_hoursOn_61 ?_
                        refine lv_topi (fun y_22 hy_22 => ?_)
                        obtain rfl : y_22 = nI ((nuF (ho + j) un) 0) := hy_22.trans (nR_at (by omega))
                        refine lv_topi (fun y_23 hy_23 => ?_)
                        obtain rfl : y_23 = nI (ho + j) := hy_23.trans (rfl)
                        refine lv_iconst (v := nI 1) hx hb dX4_hoursOn_62 (by decide) ?_
                        refine lv_iadd hx hb dX4_hoursOn_63 ?_
                        refine lv_topi (fun y_24 hy_24 => ?_)
                        obtain rfl : y_24 = nI ((ho + j) + 1) := hy_24.trans (nI_add (ho + j) 1)
                        have hi_25 : 0 < 2 := by omega
                        refine va_iast (D := G.1) hx hb hK.1 hP hD hS 6 0 rfl rfl (vp_in_nI hi_25 (by omega)) dX4_hoursOn_64 (fun H locs hP hD hS => ?_)
                        rw [nR_upd (f := (nuF (ho + j) un)) (k := 0) (v := ((ho + j) + 1)) (by omega)] at hP hD
                        have hP : va_P G.1 vwCl [kO q0 4 [.int (nI th), .ref q1, .ref q2, .ref q3, .ref q4, .ref q5, .ref q6], kC G q1 8 (nR (peF ((wk q.1 q.2.2).1) ((wk q.2.1 (wk q.1 q.2.2).2.1).1))), kC G q2 120 (nR (knF ((wk q.1 q.2.2).1) ((wk q.2.1 (wk q.1 q.2.2).2.1).1))), kC G q3 120 (nR (plF ((wk q.1 q.2.2).1) ((wk q.2.1 (wk q.1 q.2.2).2.1).1))), kC G q4 80 (nR r9), kC G q5 8 (nR ((wk q.2.1 (wk q.1 q.2.2).2.1).2.1)), kC G q6 2 (nR (updN (nuF (ho + j) un) 0 ((ho + j) + 1)))] H := hP
                        have hD : va_D A [kO q0 4 [.int (nI th), .ref q1, .ref q2, .ref q3, .ref q4, .ref q5, .ref q6], kC G q1 8 (nR (peF ((wk q.1 q.2.2).1) ((wk q.2.1 (wk q.1 q.2.2).2.1).1))), kC G q2 120 (nR (knF ((wk q.1 q.2.2).1) ((wk q.2.1 (wk q.1 q.2.2).2.1).1))), kC G q3 120 (nR (plF ((wk q.1 q.2.2).1) ((wk q.2.1 (wk q.1 q.2.2).2.1).1))), kC G q4 80 (nR r9), kC G q5 8 (nR ((wk q.2.1 (wk q.1 q.2.2).2.1).2.1)), kC G q6 2 (nR (updN (nuF (ho + j) un) 0 ((ho + j) + 1)))] := hD
                        rw [nu_0] at hP hD
                        have hP : va_P G.1 vwCl [kO q0 4 [.int (nI th), .ref q1, .ref q2, .ref q3, .ref q4, .ref q5, .ref q6], kC G q1 8 (nR (peF ((wk q.1 q.2.2).1) ((wk q.2.1 (wk q.1 q.2.2).2.1).1))), kC G q2 120 (nR (knF ((wk q.1 q.2.2).1) ((wk q.2.1 (wk q.1 q.2.2).2.1).1))), kC G q3 120 (nR (plF ((wk q.1 q.2.2).1) ((wk q.2.1 (wk q.1 q.2.2).2.1).1))), kC G q4 80 (nR r9), kC G q5 8 (nR ((wk q.2.1 (wk q.1 q.2.2).2.1).2.1)), kC G q6 2 (nR (nuF (ho + (j + 1)) un))] H := hP
                        have hD : va_D A [kO q0 4 [.int (nI th), .ref q1, .ref q2, .ref q3, .ref q4, .ref q5, .ref q6], kC G q1 8 (nR (peF ((wk q.1 q.2.2).1) ((wk q.2.1 (wk q.1 q.2.2).2.1).1))), kC G q2 120 (nR (knF ((wk q.1 q.2.2).1) ((wk q.2.1 (wk q.1 q.2.2).2.1).1))), kC G q3 120 (nR (plF ((wk q.1 q.2.2).1) ((wk q.2.1 (wk q.1 q.2.2).2.1).1))), kC G q4 80 (nR r9), kC G q5 8 (nR ((wk q.2.1 (wk q.1 q.2.2).2.1).2.1)), kC G q6 2 (nR (nuF (ho + (j + 1)) un))] := hD
                        refine lv_iinc (v := nI (j + 1)) (lv' := [(2, .int (nI (j + 1))), (3, .int (nI 2)), (0, .ref q0), (1, .int (nI n)), (4, .int (nI (vS q.2.1 - (wk q.2.1 (wk q.1 q.2.2).2.1).2.2)))]) hx hb dX4_hoursOn_65 hl (k := 3) rfl (nI_add j 1) (by decide) rfl (fun ls hl => ?_)
                        refine lv_goto (tgt := 2) hx hb dX4_hoursOn_68 (by decide) ?_
                        exact ih_2 ((hr1 q).1) r9 (j + 1) (z + (wk q.1 q.2.2).2.2 + (wk q.2.1 (wk q.1 q.2.2).2.1).2.2) (hrI_s hI (by omega)) hr9 (by omega) _ _ _ hP hD hS (lv_sub hl [2, 3, 0] rfl)
                      · refine lv_if_ne (tgt := 49) hx hb dX4_hoursOn_32 (by decide) (fun c_32 => absurd c_32 (by decide)) (fun c_32 => ?_)
                        refine lv_aload_n hx hb dX4_hoursOn_35 rfl (lv_at hl 0 rfl) ?_
                        refine lv_iload_n hx hb dX4_hoursOn_36 rfl (lv_at hl 3 rfl) ?_
                        refine k_calli (fun u_37 => [kO q0 4 [.int (nI th), .ref q1, .ref q2, .ref q3, .ref q4, .ref q5, .ref q6], kC G q1 8 (nR (peF ((wk q.1 q.2.2).1) u_37.1)), kC G q2 120 (nR (knF ((wk q.1 q.2.2).1) u_37.1)), kC G q3 120 (nR (plF ((wk q.1 q.2.2).1) u_37.1)), kC G q4 80 (nR u_37.2.2), kC G q5 8 (nR u_37.2.1), kC G q6 2 (nR (nuF (ho + j) un))]) [] (k_runV (As := [.int (nI 1)]) (rest := []) (wc := [kO q0 4 [.int (nI th), .ref q1, .ref q2, .ref q3, .ref q4, .ref q5, .ref q6], kC G q1 8 (nR (peF ((wk q.1 q.2.2).1) w9)), kC G q2 120 (nR (knF ((wk q.1 q.2.2).1) w9)), kC G q3 120 (nR (plF ((wk q.1 q.2.2).1) w9)), kC G q4 80 (nR r9), kC G q5 8 (nR B9), kC G q6 2 (nR (nuF (ho + j) un))]) ⟨hx, hb, hml, hown, hts⟩ (m_knot1 l G q0 q1 q2 q3 q4 q5 q6 ((wk q.1 q.2.2).1) w9 B9 (ho + j) un r9 th hq1.1 hwo hBo hr9 (by omega) (by omega)) (cwV 1 hts gX4_hoursOn_X4_knot rfl rfl rfl (by decide +kernel) ⟨Nat.le_of_ble_eq_true rfl, Nat.le_of_ble_eq_true rfl⟩) hK hZ hP hD hS hA [0, 1, 2, 3, 4, 5, 6] rfl rfl 0 4 rfl rfl rfl rfl hl.1 rfl (Nat.le_of_ble_eq_true rfl) dX4_hoursOn_37 ⟨Nat.le_of_ble_eq_true rfl, Nat.le_of_ble_eq_true rfl⟩) hP hD hS hA [0, 1, 2, 3, 4, 5, 6] [] [0, 1, 2, 3, 4, 5, 6] rfl rfl rfl (by decide) (fun _ => rfl) rfl (fun r_37 u_37 H locs hp_37 hP hD hS => ?_)
                        rcases hp_37 with ⟨rfl, hp_37, hk1, hk2, hk3⟩ | ⟨rfl, hp_37, hu9⟩
                        · obtain ⟨uw, ub, ur⟩ := u_37
                          obtain rfl : uw = knW w9 B9 := hk1
                          obtain rfl : ub = takeB B9 (vC w9 0) := hk2
                          have hk3 : ruOk ((wk q.1 q.2.2).1) (knW w9 B9) ur := hk3
                          have hP : va_P G.1 vwCl [kO q0 4 [.int (nI th), .ref q1, .ref q2, .ref q3, .ref q4, .ref q5, .ref q6], kC G q1 8 (nR (peF ((wk q.1 q.2.2).1) (knW w9 B9))), kC G q2 120 (nR (knF ((wk q.1 q.2.2).1) (knW w9 B9))), kC G q3 120 (nR (plF ((wk q.1 q.2.2).1) (knW w9 B9))), kC G q4 80 (nR ur), kC G q5 8 (nR (takeB B9 (vC w9 0))), kC G q6 2 (nR (nuF (ho + j) un))] H := hP
                          have hD : va_D A [kO q0 4 [.int (nI th), .ref q1, .ref q2, .ref q3, .ref q4, .ref q5, .ref q6], kC G q1 8 (nR (peF ((wk q.1 q.2.2).1) (knW w9 B9))), kC G q2 120 (nR (knF ((wk q.1 q.2.2).1) (knW w9 B9))), kC G q3 120 (nR (plF ((wk q.1 q.2.2).1) (knW w9 B9))), kC G q4 80 (nR ur), kC G q5 8 (nR (takeB B9 (vC w9 0))), kC G q6 2 (nR (nuF (ho + j) un))] := hD
                          refine lv_if_eq (tgt := 49) hx hb dX4_hoursOn_40 (by decide) (fun c_40 => absurd c_40 (by decide)) (fun c_40 => ?_)
                          refine lv_iinc (v := nI (vS q.2.1 - (t9 + 1))) (lv' := [(4, .int (nI (vS q.2.1 - (t9 + 1)))), (0, .ref q0), (1, .int (nI n)), (2, .int (nI j)), (3, .int (nI 1))]) hx hb dX4_hoursOn_43 hl (k := 4) rfl (by rw [show vS q.2.1 - t9 = (vS q.2.1 - (t9 + 1)) + 1 by omega]; exact pk_m1 _) (by decide) rfl (fun ls hl => ?_)
                          refine lv_goto (tgt := 22) hx hb dX4_hoursOn_46 (by decide) ?_
                          exact ih_22 (knW w9 B9) (takeB B9 (vC w9 0)) ur (t9 + 1) (wkI_s hJ9 (by omega) (by omega) (by omega) hp_37) hk3 (by omega) _ _ _ hP hD hS (lv_sub hl [1, 2, 3, 4, 0] rfl)
                        · subst hu9
                          have hP : va_P G.1 vwCl [kO q0 4 [.int (nI th), .ref q1, .ref q2, .ref q3, .ref q4, .ref q5, .ref q6], kC G q1 8 (nR (peF ((wk q.1 q.2.2).1) w9)), kC G q2 120 (nR (knF ((wk q.1 q.2.2).1) w9)), kC G q3 120 (nR (plF ((wk q.1 q.2.2).1) w9)), kC G q4 80 (nR r9), kC G q5 8 (nR B9), kC G q6 2 (nR (nuF (ho + j) un))] H := hP
                          have hD : va_D A [kO q0 4 [.int (nI th), .ref q1, .ref q2, .ref q3, .ref q4, .ref q5, .ref q6], kC G q1 8 (nR (peF ((wk q.1 q.2.2).1) w9)), kC G q2 120 (nR (knF ((wk q.1 q.2.2).1) w9)), kC G q3 120 (nR (plF ((wk q.1 q.2.2).1) w9)), kC G q4 80 (nR r9), kC G q5 8 (nR B9), kC G q6 2 (nR (nuF (ho + j) un))] := hD
                          refine lv_if_eq (tgt := 49) hx hb dX4_hoursOn_40 (by decide) (fun c_40 => ?_) (fun c_40 => absurd c_40 (by decide))
                          have he := wkI_e hJ9 (by first | exact Or.inl (by omega) | exact Or.inr (fun q9 => by omega) | exact Or.inr (fun q9 => hp_37 q9.2.2))
                          obtain ⟨rfl, rfl, rfl⟩ := he
                          have hP : va_P G.1 vwCl [kO q0 4 [.int (nI th), .ref q1, .ref q2, .ref q3, .ref q4, .ref q5, .ref q6], kC G q1 8 (nR (peF ((wk q.1 q.2.2).1) ((wk q.2.1 (wk q.1 q.2.2).2.1).1))), kC G q2 120 (nR (knF ((wk q.1 q.2.2).1) ((wk q.2.1 (wk q.1 q.2.2).2.1).1))), kC G q3 120 (nR (plF ((wk q.1 q.2.2).1) ((wk q.2.1 (wk q.1 q.2.2).2.1).1))), kC G q4 80 (nR r9), kC G q5 8 (nR ((wk q.2.1 (wk q.1 q.2.2).2.1).2.1)), kC G q6 2 (nR (nuF (ho + j) un))] H := hP
                          have hD : va_D A [kO q0 4 [.int (nI th), .ref q1, .ref q2, .ref q3, .ref q4, .ref q5, .ref q6], kC G q1 8 (nR (peF ((wk q.1 q.2.2).1) ((wk q.2.1 (wk q.1 q.2.2).2.1).1))), kC G q2 120 (nR (knF ((wk q.1 q.2.2).1) ((wk q.2.1 (wk q.1 q.2.2).2.1).1))), kC G q3 120 (nR (plF ((wk q.1 q.2.2).1) ((wk q.2.1 (wk q.1 q.2.2).2.1).1))), kC G q4 80 (nR r9), kC G q5 8 (nR ((wk q.2.1 (wk q.1 q.2.2).2.1).2.1)), kC G q6 2 (nR (nuF (ho + j) un))] := hD
                          refine lv_iinc (v := nI 2) (lv' := [(3, .int (nI 2)), (0, .ref q0), (1, .int (nI n)), (2, .int (nI j)), (4, .int (nI (vS q.2.1 - (wk q.2.1 (wk q.1 q.2.2).2.1).2.2)))]) hx hb dX4_hoursOn_49 hl (k := 3) rfl (by decide) (by decide) rfl (fun ls hl => ?_)
                          refine lv_goto (tgt := 9) hx hb dX4_hoursOn_52 (by decide) ?_
                          refine lv_iload_n hx hb dX4_hoursOn_9 rfl (lv_at hl 0 rfl) ?_
                          refine lv_iconst (v := nI 2) hx hb dX4_hoursOn_10 (by decide) ?_
                          refine lv_icmp_ge (tgt := 55) hx hb dX4_hoursOn_11 (by decide) (fun c_11 => ?_) (fun c_11 => absurd c_11 (by decide))
                          refine lv_aload_n hx hb dX4_hoursOn_55 rfl (lv_at hl 1 rfl) ?_
                          refine va_get (D := G.1) (ci := 4) (v := .ref q6) (C := RX4) (T := TX4) (N := 7) hx hb hts hq_0 hown hK.1 hP 0 rfl rfl 6 (by decide) hq_1 (fun _ h9 => h9) rfl dX4_hoursOn_56 ?_
                          refine lv_iconst (v := nI 0) hx hb dX4_hoursOn_59 (by decide) ?_
                          refine lv_dup2_11 hx hb dX4_hoursOn_60 rfl rfl ?_
                          have hi_26 : 0 < 2 := by omega
                          refine va_iald (D := G.1) hx hb hK.1 hP 6 0 rfl rfl (vp_in_nI hi_26 (by omega)) dX4_hoursOn_61 ?_
                          refine lv_topi (fun y_27 hy_27 => ?_)
                          obtain rfl : y_27 = nI ((nuF (ho + j) un) 0) := hy_27.trans (nR_at (by omega))
                          refine lv_topi (fun y_28 hy_28 => ?_)
                          obtain rfl : y_28 = nI (ho + j) := hy_28.trans (rfl)
                          refine lv_iconst (v := nI 1) hx hb dX4_hoursOn_62 (by decide) ?_
                          refine lv_iadd hx hb dX4_hoursOn_63 ?_
                          refine lv_topi (fun y_29 hy_29 => ?_)
                          obtain rfl : y_29 = nI ((ho + j) + 1) := hy_29.trans (nI_add (ho + j) 1)
                          have hi_30 : 0 < 2 := by omega
                          refine va_iast (D := G.1) hx hb hK.1 hP hD hS 6 0 rfl rfl (vp_in_nI hi_30 (by omega)) dX4_hoursOn_64 (fun H locs hP hD hS => ?_)
                          rw [nR_upd (f := (nuF (ho + j) un)) (k := 0) (v := ((ho + j) + 1)) (by omega)] at hP hD
                          have hP : va_P G.1 vwCl [kO q0 4 [.int (nI th), .ref q1, .ref q2, .ref q3, .ref q4, .ref q5, .ref q6], kC G q1 8 (nR (peF ((wk q.1 q.2.2).1) ((wk q.2.1 (wk q.1 q.2.2).2.1).1))), kC G q2 120 (nR (knF ((wk q.1 q.2.2).1) ((wk q.2.1 (wk q.1 q.2.2).2.1).1))), kC G q3 120 (nR (plF ((wk q.1 q.2.2).1) ((wk q.2.1 (wk q.1 q.2.2).2.1).1))), kC G q4 80 (nR r9), kC G q5 8 (nR ((wk q.2.1 (wk q.1 q.2.2).2.1).2.1)), kC G q6 2 (nR (updN (nuF (ho + j) un) 0 ((ho + j) + 1)))] H := hP
                          have hD : va_D A [kO q0 4 [.int (nI th), .ref q1, .ref q2, .ref q3, .ref q4, .ref q5, .ref q6], kC G q1 8 (nR (peF ((wk q.1 q.2.2).1) ((wk q.2.1 (wk q.1 q.2.2).2.1).1))), kC G q2 120 (nR (knF ((wk q.1 q.2.2).1) ((wk q.2.1 (wk q.1 q.2.2).2.1).1))), kC G q3 120 (nR (plF ((wk q.1 q.2.2).1) ((wk q.2.1 (wk q.1 q.2.2).2.1).1))), kC G q4 80 (nR r9), kC G q5 8 (nR ((wk q.2.1 (wk q.1 q.2.2).2.1).2.1)), kC G q6 2 (nR (updN (nuF (ho + j) un) 0 ((ho + j) + 1)))] := hD
                          rw [nu_0] at hP hD
                          have hP : va_P G.1 vwCl [kO q0 4 [.int (nI th), .ref q1, .ref q2, .ref q3, .ref q4, .ref q5, .ref q6], kC G q1 8 (nR (peF ((wk q.1 q.2.2).1) ((wk q.2.1 (wk q.1 q.2.2).2.1).1))), kC G q2 120 (nR (knF ((wk q.1 q.2.2).1) ((wk q.2.1 (wk q.1 q.2.2).2.1).1))), kC G q3 120 (nR (plF ((wk q.1 q.2.2).1) ((wk q.2.1 (wk q.1 q.2.2).2.1).1))), kC G q4 80 (nR r9), kC G q5 8 (nR ((wk q.2.1 (wk q.1 q.2.2).2.1).2.1)), kC G q6 2 (nR (nuF (ho + (j + 1)) un))] H := hP
                          have hD : va_D A [kO q0 4 [.int (nI th), .ref q1, .ref q2, .ref q3, .ref q4, .ref q5, .ref q6], kC G q1 8 (nR (peF ((wk q.1 q.2.2).1) ((wk q.2.1 (wk q.1 q.2.2).2.1).1))), kC G q2 120 (nR (knF ((wk q.1 q.2.2).1) ((wk q.2.1 (wk q.1 q.2.2).2.1).1))), kC G q3 120 (nR (plF ((wk q.1 q.2.2).1) ((wk q.2.1 (wk q.1 q.2.2).2.1).1))), kC G q4 80 (nR r9), kC G q5 8 (nR ((wk q.2.1 (wk q.1 q.2.2).2.1).2.1)), kC G q6 2 (nR (nuF (ho + (j + 1)) un))] := hD
                          refine lv_iinc (v := nI (j + 1)) (lv' := [(2, .int (nI (j + 1))), (3, .int (nI 2)), (0, .ref q0), (1, .int (nI n)), (4, .int (nI (vS q.2.1 - (wk q.2.1 (wk q.1 q.2.2).2.1).2.2)))]) hx hb dX4_hoursOn_65 hl (k := 3) rfl (nI_add j 1) (by decide) rfl (fun ls hl => ?_)
                          refine lv_goto (tgt := 2) hx hb dX4_hoursOn_68 (by decide) ?_
                          exact ih_2 ((hr1 q).1) r9 (j + 1) (z + (wk q.1 q.2.2).2.2 + (wk q.2.1 (wk q.1 q.2.2).2.1).2.2) (hrI_s hI (by omega)) hr9 (by omega) _ _ _ hP hD hS (lv_sub hl [2, 3, 0] rfl)
                exact loop_221 (vS q.2.1 + 1) q.2.1 ((wk q.1 q.2.2).2.1) r2 0 (wkI_0 hq.2.1 hq1.2.1) hr2 (by omega) H locs ls hP hD hS (lv_sub hl [2, 3, 4, 1, 0] rfl)
              · refine lv_if_ne (tgt := 49) hx hb dX4_hoursOn_32 (by decide) (fun c_32 => absurd c_32 (by decide)) (fun c_32 => ?_)
                refine lv_aload_n hx hb dX4_hoursOn_35 rfl (lv_at hl 0 rfl) ?_
                refine lv_iload_n hx hb dX4_hoursOn_36 rfl (lv_at hl 3 rfl) ?_
                refine k_calli (fun u_37 => [kO q0 4 [.int (nI th), .ref q1, .ref q2, .ref q3, .ref q4, .ref q5, .ref q6], kC G q1 8 (nR (peF u_37.1 q.2.1)), kC G q2 120 (nR (knF u_37.1 q.2.1)), kC G q3 120 (nR (plF u_37.1 q.2.1)), kC G q4 80 (nR u_37.2.2), kC G q5 8 (nR u_37.2.1), kC G q6 2 (nR (nuF (ho + j) un))]) [] (k_runV (As := [.int (nI 0)]) (rest := []) (wc := [kO q0 4 [.int (nI th), .ref q1, .ref q2, .ref q3, .ref q4, .ref q5, .ref q6], kC G q1 8 (nR (peF w q.2.1)), kC G q2 120 (nR (knF w q.2.1)), kC G q3 120 (nR (plF w q.2.1)), kC G q4 80 (nR r2), kC G q5 8 (nR B), kC G q6 2 (nR (nuF (ho + j) un))]) ⟨hx, hb, hml, hown, hts⟩ (m_knot0 l G q0 q1 q2 q3 q4 q5 q6 w q.2.1 B (ho + j) un r2 th hwo hq.2.1 hBo hr2 (by omega) (by omega)) (cwV 1 hts gX4_hoursOn_X4_knot rfl rfl rfl (by decide +kernel) ⟨Nat.le_of_ble_eq_true rfl, Nat.le_of_ble_eq_true rfl⟩) hK hZ hP hD hS hA [0, 1, 2, 3, 4, 5, 6] rfl rfl 0 4 rfl rfl rfl rfl hl.1 rfl (Nat.le_of_ble_eq_true rfl) dX4_hoursOn_37 ⟨Nat.le_of_ble_eq_true rfl, Nat.le_of_ble_eq_true rfl⟩) hP hD hS hA [0, 1, 2, 3, 4, 5, 6] [] [0, 1, 2, 3, 4, 5, 6] rfl rfl rfl (by decide) (fun _ => rfl) rfl (fun r_37 u_37 H locs hp_37 hP hD hS => ?_)
                rcases hp_37 with ⟨rfl, hp_37, hk1, hk2, hk3⟩ | ⟨rfl, hp_37, hu9⟩
                · obtain ⟨uw, ub, ur⟩ := u_37
                  obtain rfl : uw = knW w B := hk1
                  obtain rfl : ub = takeB B (vC w 0) := hk2
                  have hk3 : ruOk (knW w B) q.2.1 ur := hk3
                  have hP : va_P G.1 vwCl [kO q0 4 [.int (nI th), .ref q1, .ref q2, .ref q3, .ref q4, .ref q5, .ref q6], kC G q1 8 (nR (peF (knW w B) q.2.1)), kC G q2 120 (nR (knF (knW w B) q.2.1)), kC G q3 120 (nR (plF (knW w B) q.2.1)), kC G q4 80 (nR ur), kC G q5 8 (nR (takeB B (vC w 0))), kC G q6 2 (nR (nuF (ho + j) un))] H := hP
                  have hD : va_D A [kO q0 4 [.int (nI th), .ref q1, .ref q2, .ref q3, .ref q4, .ref q5, .ref q6], kC G q1 8 (nR (peF (knW w B) q.2.1)), kC G q2 120 (nR (knF (knW w B) q.2.1)), kC G q3 120 (nR (plF (knW w B) q.2.1)), kC G q4 80 (nR ur), kC G q5 8 (nR (takeB B (vC w 0))), kC G q6 2 (nR (nuF (ho + j) un))] := hD
                  refine lv_if_eq (tgt := 49) hx hb dX4_hoursOn_40 (by decide) (fun c_40 => absurd c_40 (by decide)) (fun c_40 => ?_)
                  refine lv_iinc (v := nI (vS q.1 - (t + 1))) (lv' := [(4, .int (nI (vS q.1 - (t + 1)))), (0, .ref q0), (1, .int (nI n)), (2, .int (nI j)), (3, .int (nI 0))]) hx hb dX4_hoursOn_43 hl (k := 4) rfl (by rw [show vS q.1 - t = (vS q.1 - (t + 1)) + 1 by omega]; exact pk_m1 _) (by decide) rfl (fun ls hl => ?_)
                  refine lv_goto (tgt := 22) hx hb dX4_hoursOn_46 (by decide) ?_
                  exact ih_22 (knW w B) (takeB B (vC w 0)) ur (t + 1) (wkI_s hJ (by omega) (by omega) (by omega) hp_37) hk3 (by omega) _ _ _ hP hD hS (lv_sub hl [1, 2, 3, 4, 0] rfl)
                · subst hu9
                  have hP : va_P G.1 vwCl [kO q0 4 [.int (nI th), .ref q1, .ref q2, .ref q3, .ref q4, .ref q5, .ref q6], kC G q1 8 (nR (peF w q.2.1)), kC G q2 120 (nR (knF w q.2.1)), kC G q3 120 (nR (plF w q.2.1)), kC G q4 80 (nR r2), kC G q5 8 (nR B), kC G q6 2 (nR (nuF (ho + j) un))] H := hP
                  have hD : va_D A [kO q0 4 [.int (nI th), .ref q1, .ref q2, .ref q3, .ref q4, .ref q5, .ref q6], kC G q1 8 (nR (peF w q.2.1)), kC G q2 120 (nR (knF w q.2.1)), kC G q3 120 (nR (plF w q.2.1)), kC G q4 80 (nR r2), kC G q5 8 (nR B), kC G q6 2 (nR (nuF (ho + j) un))] := hD
                  refine lv_if_eq (tgt := 49) hx hb dX4_hoursOn_40 (by decide) (fun c_40 => ?_) (fun c_40 => absurd c_40 (by decide))
                  have he := wkI_e hJ (by first | exact Or.inl (by omega) | exact Or.inr (fun q9 => by omega) | exact Or.inr (fun q9 => hp_37 q9.2.2))
                  obtain ⟨rfl, rfl, rfl⟩ := he
                  have hP : va_P G.1 vwCl [kO q0 4 [.int (nI th), .ref q1, .ref q2, .ref q3, .ref q4, .ref q5, .ref q6], kC G q1 8 (nR (peF ((wk q.1 q.2.2).1) q.2.1)), kC G q2 120 (nR (knF ((wk q.1 q.2.2).1) q.2.1)), kC G q3 120 (nR (plF ((wk q.1 q.2.2).1) q.2.1)), kC G q4 80 (nR r2), kC G q5 8 (nR ((wk q.1 q.2.2).2.1)), kC G q6 2 (nR (nuF (ho + j) un))] H := hP
                  have hD : va_D A [kO q0 4 [.int (nI th), .ref q1, .ref q2, .ref q3, .ref q4, .ref q5, .ref q6], kC G q1 8 (nR (peF ((wk q.1 q.2.2).1) q.2.1)), kC G q2 120 (nR (knF ((wk q.1 q.2.2).1) q.2.1)), kC G q3 120 (nR (plF ((wk q.1 q.2.2).1) q.2.1)), kC G q4 80 (nR r2), kC G q5 8 (nR ((wk q.1 q.2.2).2.1)), kC G q6 2 (nR (nuF (ho + j) un))] := hD
                  refine lv_iinc (v := nI 1) (lv' := [(3, .int (nI 1)), (0, .ref q0), (1, .int (nI n)), (2, .int (nI j)), (4, .int (nI (vS q.1 - (wk q.1 q.2.2).2.2)))]) hx hb dX4_hoursOn_49 hl (k := 3) rfl (by decide) (by decide) rfl (fun ls hl => ?_)
                  refine lv_goto (tgt := 9) hx hb dX4_hoursOn_52 (by decide) ?_
                  refine lv_iload_n hx hb dX4_hoursOn_9 rfl (lv_at hl 0 rfl) ?_
                  refine lv_iconst (v := nI 2) hx hb dX4_hoursOn_10 (by decide) ?_
                  refine lv_icmp_ge (tgt := 55) hx hb dX4_hoursOn_11 (by decide) (fun c_11 => absurd c_11 (by decide)) (fun c_11 => ?_)
                  refine lv_aload_n hx hb dX4_hoursOn_14 rfl (lv_at hl 1 rfl) ?_
                  refine lv_iload_n hx hb dX4_hoursOn_15 rfl (lv_at hl 0 rfl) ?_
                  refine lv_iconst (v := nI 0) hx hb dX4_hoursOn_16 (by decide) ?_
                  refine k_calli (fun _ => [kO q0 4 [.int (nI th), .ref q1, .ref q2, .ref q3, .ref q4, .ref q5, .ref q6], kC G q1 8 (nR (peF ((wk q.1 q.2.2).1) q.2.1)), kC G q2 120 (nR (knF ((wk q.1 q.2.2).1) q.2.1)), kC G q3 120 (nR (plF ((wk q.1 q.2.2).1) q.2.1)), kC G q4 80 (nR r2), kC G q5 8 (nR ((wk q.1 q.2.2).2.1)), kC G q6 2 (nR (nuF (ho + j) un))]) [kC G q2 120 (nR (knF ((wk q.1 q.2.2).1) q.2.1)), kC G q3 120 (nR (plF ((wk q.1 q.2.2).1) q.2.1)), kC G q4 80 (nR r2), kC G q5 8 (nR ((wk q.1 q.2.2).2.1)), kC G q6 2 (nR (nuF (ho + j) un))] (k_runV (As := [.int (nI 1), .int (nI 0)]) (rest := []) (wc := [kO q0 4 [.int (nI th), .ref q1, .ref q2, .ref q3, .ref q4, .ref q5, .ref q6], kC G q1 8 (nR (peF ((wk q.1 q.2.2).1) q.2.1))]) ⟨hx, hb, hml, hown, hts⟩ (m_pe l G q0 q1 q2 q3 q4 q5 q6 th (peF ((wk q.1 q.2.2).1) q.2.1) 1 0 (by decide) (by decide)) (cwV 2 hts gX4_hoursOn_X4_pe rfl rfl rfl (by decide +kernel) ⟨Nat.le_of_ble_eq_true rfl, Nat.le_of_ble_eq_true rfl⟩) hK hZ hP hD hS hA [0, 1] rfl rfl 0 4 rfl rfl rfl rfl hl.1 rfl (Nat.le_of_ble_eq_true rfl) dX4_hoursOn_17 ⟨Nat.le_of_ble_eq_true rfl, Nat.le_of_ble_eq_true rfl⟩) hP hD hS hA [0, 1] [2, 3, 4, 5, 6] [5, 6, 0, 1, 2, 3, 4] rfl rfl rfl (by decide) (fun _ => rfl) rfl (fun r_17 u_17 H locs hp_17 hP hD hS => ?_)
                  have hp_17 : r_17 = nI (vS q.2.1) := hp_17
                  subst hp_17
                  refine lv_istore (lv' := [(4, .int (nI (vS q.2.1))), (3, .int (nI 1)), (0, .ref q0), (1, .int (nI n)), (2, .int (nI j))]) hx hb dX4_hoursOn_20 hl (by decide) rfl (fun ls hl => ?_)
                  have loop_221 : ∀ (fu_22 : Nat) (w9 : Wv) (B9 : Nat → Nat) (r9 : Nat → Nat) (t9 : Nat), wkI q.2.1 (wk q.1 q.2.2).2.1 w9 B9 t9 → ruOk (wk q.1 q.2.2).1 w9 r9 → vS q.2.1 < t9 + fu_22 → ∀ (H : Heap) (locs : List Loc) (ls : Array Slot), va_P G.1 vwCl [kO q0 4 [.int (nI th), .ref q1, .ref q2, .ref q3, .ref q4, .ref q5, .ref q6], kC G q1 8 (nR (peF ((wk q.1 q.2.2).1) w9)), kC G q2 120 (nR (knF ((wk q.1 q.2.2).1) w9)), kC G q3 120 (nR (plF ((wk q.1 q.2.2).1) w9)), kC G q4 80 (nR r9), kC G q5 8 (nR B9), kC G q6 2 (nR (nuF (ho + j) un))] H → va_D A [kO q0 4 [.int (nI th), .ref q1, .ref q2, .ref q3, .ref q4, .ref q5, .ref q6], kC G q1 8 (nR (peF ((wk q.1 q.2.2).1) w9)), kC G q2 120 (nR (knF ((wk q.1 q.2.2).1) w9)), kC G q3 120 (nR (plF ((wk q.1 q.2.2).1) w9)), kC G q4 80 (nR r9), kC G q5 8 (nR B9), kC G q6 2 (nR (nuF (ho + j) un))] → va_S A s.heap H locs → lv_has ls 5 [(0, .ref q0), (1, .int (nI n)), (2, .int (nI j)), (3, .int (nI 1)), (4, .int (nI (vS q.2.1 - t9)))] → W p l e ({ frames := 3, cells := 0, slots := 0, locals := 68 } : Room) s m args below meth c H locs 0 0 Qs (F0 m 22 ls []) := by
                    intro fu_22
                    induction fu_22 with
                    | zero =>
                      intro w9 B9 r9 t9 hJ9 hr9 hf3
                      have hj9 : t9 ≤ vS q.2.1 := hJ9.1; exact absurd hf3 (by omega)
                    | succ fu_22 ih_22 =>
                      intro w9 B9 r9 t9 hJ9 hr9 hf3 H locs ls hP hD hS hl
                      have hwo : wOk w9 := hJ9.2.2.1
                      have hBo : bOk B9 := hJ9.2.2.2.1
                      have hj9 : t9 ≤ vS q.2.1 := hJ9.1
                      have qb1 : vT w9 ≤ 20 := hwo.2.2.1
                      have qb2 : vM w9 ≤ 60 := hwo.2.2.2.1
                      refine lv_iload hx hb dX4_hoursOn_22 (lv_at hl 4 rfl) ?_
                      refine lv_if_le (tgt := 49) hx hb dX4_hoursOn_24 (by decide) (fun c_24 => ?_) (fun c_24 => ?_)
                      · have c_24 : (vS q.2.1 - t9) = 0 := (k_le0 (a := (vS q.2.1 - t9)) (by omega)).mp c_24
                        have he := wkI_e hJ9 (by first | exact Or.inl (by omega) | exact Or.inr (fun q9 => by omega) | exact Or.inr (fun q9 => hp_37 q9.2.2))
                        obtain ⟨rfl, rfl, rfl⟩ := he
                        have hP : va_P G.1 vwCl [kO q0 4 [.int (nI th), .ref q1, .ref q2, .ref q3, .ref q4, .ref q5, .ref q6], kC G q1 8 (nR (peF ((wk q.1 q.2.2).1) ((wk q.2.1 (wk q.1 q.2.2).2.1).1))), kC G q2 120 (nR (knF ((wk q.1 q.2.2).1) ((wk q.2.1 (wk q.1 q.2.2).2.1).1))), kC G q3 120 (nR (plF ((wk q.1 q.2.2).1) ((wk q.2.1 (wk q.1 q.2.2).2.1).1))), kC G q4 80 (nR r9), kC G q5 8 (nR ((wk q.2.1 (wk q.1 q.2.2).2.1).2.1)), kC G q6 2 (nR (nuF (ho + j) un))] H := hP
                        have hD : va_D A [kO q0 4 [.int (nI th), .ref q1, .ref q2, .ref q3, .ref q4, .ref q5, .ref q6], kC G q1 8 (nR (peF ((wk q.1 q.2.2).1) ((wk q.2.1 (wk q.1 q.2.2).2.1).1))), kC G q2 120 (nR (knF ((wk q.1 q.2.2).1) ((wk q.2.1 (wk q.1 q.2.2).2.1).1))), kC G q3 120 (nR (plF ((wk q.1 q.2.2).1) ((wk q.2.1 (wk q.1 q.2.2).2.1).1))), kC G q4 80 (nR r9), kC G q5 8 (nR ((wk q.2.1 (wk q.1 q.2.2).2.1).2.1)), kC G q6 2 (nR (nuF (ho + j) un))] := hD
                        refine lv_iinc (v := nI 2) (lv' := [(3, .int (nI 2)), (0, .ref q0), (1, .int (nI n)), (2, .int (nI j)), (4, .int (nI (vS q.2.1 - (wk q.2.1 (wk q.1 q.2.2).2.1).2.2)))]) hx hb dX4_hoursOn_49 hl (k := 3) rfl (by decide) (by decide) rfl (fun ls hl => ?_)
                        refine lv_goto (tgt := 9) hx hb dX4_hoursOn_52 (by decide) ?_
                        refine lv_iload_n hx hb dX4_hoursOn_9 rfl (lv_at hl 0 rfl) ?_
                        refine lv_iconst (v := nI 2) hx hb dX4_hoursOn_10 (by decide) ?_
                        refine lv_icmp_ge (tgt := 55) hx hb dX4_hoursOn_11 (by decide) (fun c_11 => ?_) (fun c_11 => absurd c_11 (by decide))
                        refine lv_aload_n hx hb dX4_hoursOn_55 rfl (lv_at hl 1 rfl) ?_
                        refine va_get (D := G.1) (ci := 4) (v := .ref q6) (C := RX4) (T := TX4) (N := 7) hx hb hts hq_0 hown hK.1 hP 0 rfl rfl 6 (by decide) hq_1 (fun _ h9 => h9) rfl dX4_hoursOn_56 ?_
                        refine lv_iconst (v := nI 0) hx hb dX4_hoursOn_59 (by decide) ?_
                        refine lv_dup2_11 hx hb dX4_hoursOn_60 rfl rfl ?_
                        have hi_31 : 0 < 2 := by omega
                        refine va_iald (D := G.1) hx hb hK.1 hP 6 0 rfl rfl (vp_in_nI hi_31 (by omega)) dX4_hoursOn_61 ?_
                        refine lv_topi (fun y_32 hy_32 => ?_)
                        obtain rfl : y_32 = nI ((nuF (ho + j) un) 0) := hy_32.trans (nR_at (by omega))
                        refine lv_topi (fun y_33 hy_33 => ?_)
                        obtain rfl : y_33 = nI (ho + j) := hy_33.trans (rfl)
                        refine lv_iconst (v := nI 1) hx hb dX4_hoursOn_62 (by decide) ?_
                        refine lv_iadd hx hb dX4_hoursOn_63 ?_
                        refine lv_topi (fun y_34 hy_34 => ?_)
                        obtain rfl : y_34 = nI ((ho + j) + 1) := hy_34.trans (nI_add (ho + j) 1)
                        have hi_35 : 0 < 2 := by omega
                        refine va_iast (D := G.1) hx hb hK.1 hP hD hS 6 0 rfl rfl (vp_in_nI hi_35 (by omega)) dX4_hoursOn_64 (fun H locs hP hD hS => ?_)
                        rw [nR_upd (f := (nuF (ho + j) un)) (k := 0) (v := ((ho + j) + 1)) (by omega)] at hP hD
                        have hP : va_P G.1 vwCl [kO q0 4 [.int (nI th), .ref q1, .ref q2, .ref q3, .ref q4, .ref q5, .ref q6], kC G q1 8 (nR (peF ((wk q.1 q.2.2).1) ((wk q.2.1 (wk q.1 q.2.2).2.1).1))), kC G q2 120 (nR (knF ((wk q.1 q.2.2).1) ((wk q.2.1 (wk q.1 q.2.2).2.1).1))), kC G q3 120 (nR (plF ((wk q.1 q.2.2).1) ((wk q.2.1 (wk q.1 q.2.2).2.1).1))), kC G q4 80 (nR r9), kC G q5 8 (nR ((wk q.2.1 (wk q.1 q.2.2).2.1).2.1)), kC G q6 2 (nR (updN (nuF (ho + j) un) 0 ((ho + j) + 1)))] H := hP
                        have hD : va_D A [kO q0 4 [.int (nI th), .ref q1, .ref q2, .ref q3, .ref q4, .ref q5, .ref q6], kC G q1 8 (nR (peF ((wk q.1 q.2.2).1) ((wk q.2.1 (wk q.1 q.2.2).2.1).1))), kC G q2 120 (nR (knF ((wk q.1 q.2.2).1) ((wk q.2.1 (wk q.1 q.2.2).2.1).1))), kC G q3 120 (nR (plF ((wk q.1 q.2.2).1) ((wk q.2.1 (wk q.1 q.2.2).2.1).1))), kC G q4 80 (nR r9), kC G q5 8 (nR ((wk q.2.1 (wk q.1 q.2.2).2.1).2.1)), kC G q6 2 (nR (updN (nuF (ho + j) un) 0 ((ho + j) + 1)))] := hD
                        rw [nu_0] at hP hD
                        have hP : va_P G.1 vwCl [kO q0 4 [.int (nI th), .ref q1, .ref q2, .ref q3, .ref q4, .ref q5, .ref q6], kC G q1 8 (nR (peF ((wk q.1 q.2.2).1) ((wk q.2.1 (wk q.1 q.2.2).2.1).1))), kC G q2 120 (nR (knF ((wk q.1 q.2.2).1) ((wk q.2.1 (wk q.1 q.2.2).2.1).1))), kC G q3 120 (nR (plF ((wk q.1 q.2.2).1) ((wk q.2.1 (wk q.1 q.2.2).2.1).1))), kC G q4 80 (nR r9), kC G q5 8 (nR ((wk q.2.1 (wk q.1 q.2.2).2.1).2.1)), kC G q6 2 (nR (nuF (ho + (j + 1)) un))] H := hP
                        have hD : va_D A [kO q0 4 [.int (nI th), .ref q1, .ref q2, .ref q3, .ref q4, .ref q5, .ref q6], kC G q1 8 (nR (peF ((wk q.1 q.2.2).1) ((wk q.2.1 (wk q.1 q.2.2).2.1).1))), kC G q2 120 (nR (knF ((wk q.1 q.2.2).1) ((wk q.2.1 (wk q.1 q.2.2).2.1).1))), kC G q3 120 (nR (plF ((wk q.1 q.2.2).1) ((wk q.2.1 (wk q.1 q.2.2).2.1).1))), kC G q4 80 (nR r9), kC G q5 8 (nR ((wk q.2.1 (wk q.1 q.2.2).2.1).2.1)), kC G q6 2 (nR (nuF (ho + (j + 1)) un))] := hD
                        refine lv_iinc (v := nI (j + 1)) (lv' := [(2, .int (nI (j + 1))), (3, .int (nI 2)), (0, .ref q0), (1, .int (nI n)), (4, .int (nI (vS q.2.1 - (wk q.2.1 (wk q.1 q.2.2).2.1).2.2)))]) hx hb dX4_hoursOn_65 hl (k := 3) rfl (nI_add j 1) (by decide) rfl (fun ls hl => ?_)
                        refine lv_goto (tgt := 2) hx hb dX4_hoursOn_68 (by decide) ?_
                        exact ih_2 ((hr1 q).1) r9 (j + 1) (z + (wk q.1 q.2.2).2.2 + (wk q.2.1 (wk q.1 q.2.2).2.1).2.2) (hrI_s hI (by omega)) hr9 (by omega) _ _ _ hP hD hS (lv_sub hl [2, 3, 0] rfl)
                      · have c_24 : ¬ ((vS q.2.1 - t9) = 0) := fun h9 => c_24 ((k_le0 (a := (vS q.2.1 - t9)) (by omega)).mpr h9)
                        refine lv_aload_n hx hb dX4_hoursOn_27 rfl (lv_at hl 0 rfl) ?_
                        refine lv_iload_n hx hb dX4_hoursOn_28 rfl (lv_at hl 3 rfl) ?_
                        refine k_calli (fun u_29 => [kO q0 4 [.int (nI th), .ref q1, .ref q2, .ref q3, .ref q4, .ref q5, .ref q6], kC G q1 8 (nR (peF ((wk q.1 q.2.2).1) w9)), kC G q2 120 (nR (knF ((wk q.1 q.2.2).1) w9)), kC G q3 120 (nR (plF ((wk q.1 q.2.2).1) w9)), kC G q4 80 (nR r9), kC G q5 8 (nR B9), kC G q6 2 (nR (nuF (ho + j) un))]) [] (k_runV (As := [.int (nI 1)]) (rest := []) (wc := [kO q0 4 [.int (nI th), .ref q1, .ref q2, .ref q3, .ref q4, .ref q5, .ref q6], kC G q1 8 (nR (peF ((wk q.1 q.2.2).1) w9)), kC G q2 120 (nR (knF ((wk q.1 q.2.2).1) w9)), kC G q3 120 (nR (plF ((wk q.1 q.2.2).1) w9)), kC G q4 80 (nR r9), kC G q5 8 (nR B9), kC G q6 2 (nR (nuF (ho + j) un))]) ⟨hx, hb, hml, hown, hts⟩ (m_isDone1 l G q0 q1 q2 q3 q4 q5 q6 ((wk q.1 q.2.2).1) w9 B9 (ho + j) un r9 th hq1.1 hwo hr9) (cwV 1 hts gX4_hoursOn_X4_isDone rfl rfl rfl (by decide +kernel) ⟨Nat.le_of_ble_eq_true rfl, Nat.le_of_ble_eq_true rfl⟩) hK hZ hP hD hS hA [0, 1, 2, 3, 4, 5, 6] rfl rfl 0 4 rfl rfl rfl rfl hl.1 rfl (Nat.le_of_ble_eq_true rfl) dX4_hoursOn_29 ⟨Nat.le_of_ble_eq_true rfl, Nat.le_of_ble_eq_true rfl⟩) hP hD hS hA [0, 1, 2, 3, 4, 5, 6] [] [0, 1, 2, 3, 4, 5, 6] rfl rfl rfl (by decide) (fun _ => rfl) rfl (fun r_29 u_29 H locs hp_29 hP hD hS => ?_)
                        rcases hp_29 with ⟨rfl, hp_29⟩ | ⟨rfl, hp_29⟩
                        · refine lv_if_ne (tgt := 49) hx hb dX4_hoursOn_32 (by decide) (fun c_32 => ?_) (fun c_32 => absurd c_32 (by decide))
                          have he := wkI_e hJ9 (by first | exact Or.inl (by omega) | exact Or.inr (fun q9 => by omega) | exact Or.inr (fun q9 => hp_37 q9.2.2))
                          obtain ⟨rfl, rfl, rfl⟩ := he
                          have hP : va_P G.1 vwCl [kO q0 4 [.int (nI th), .ref q1, .ref q2, .ref q3, .ref q4, .ref q5, .ref q6], kC G q1 8 (nR (peF ((wk q.1 q.2.2).1) ((wk q.2.1 (wk q.1 q.2.2).2.1).1))), kC G q2 120 (nR (knF ((wk q.1 q.2.2).1) ((wk q.2.1 (wk q.1 q.2.2).2.1).1))), kC G q3 120 (nR (plF ((wk q.1 q.2.2).1) ((wk q.2.1 (wk q.1 q.2.2).2.1).1))), kC G q4 80 (nR r9), kC G q5 8 (nR ((wk q.2.1 (wk q.1 q.2.2).2.1).2.1)), kC G q6 2 (nR (nuF (ho + j) un))] H := hP
                          have hD : va_D A [kO q0 4 [.int (nI th), .ref q1, .ref q2, .ref q3, .ref q4, .ref q5, .ref q6], kC G q1 8 (nR (peF ((wk q.1 q.2.2).1) ((wk q.2.1 (wk q.1 q.2.2).2.1).1))), kC G q2 120 (nR (knF ((wk q.1 q.2.2).1) ((wk q.2.1 (wk q.1 q.2.2).2.1).1))), kC G q3 120 (nR (plF ((wk q.1 q.2.2).1) ((wk q.2.1 (wk q.1 q.2.2).2.1).1))), kC G q4 80 (nR r9), kC G q5 8 (nR ((wk q.2.1 (wk q.1 q.2.2).2.1).2.1)), kC G q6 2 (nR (nuF (ho + j) un))] := hD
                          refine lv_iinc (v := nI 2) (lv' := [(3, .int (nI 2)), (0, .ref q0), (1, .int (nI n)), (2, .int (nI j)), (4, .int (nI (vS q.2.1 - (wk q.2.1 (wk q.1 q.2.2).2.1).2.2)))]) hx hb dX4_hoursOn_49 hl (k := 3) rfl (by decide) (by decide) rfl (fun ls hl => ?_)
                          refine lv_goto (tgt := 9) hx hb dX4_hoursOn_52 (by decide) ?_
                          refine lv_iload_n hx hb dX4_hoursOn_9 rfl (lv_at hl 0 rfl) ?_
                          refine lv_iconst (v := nI 2) hx hb dX4_hoursOn_10 (by decide) ?_
                          refine lv_icmp_ge (tgt := 55) hx hb dX4_hoursOn_11 (by decide) (fun c_11 => ?_) (fun c_11 => absurd c_11 (by decide))
                          refine lv_aload_n hx hb dX4_hoursOn_55 rfl (lv_at hl 1 rfl) ?_
                          refine va_get (D := G.1) (ci := 4) (v := .ref q6) (C := RX4) (T := TX4) (N := 7) hx hb hts hq_0 hown hK.1 hP 0 rfl rfl 6 (by decide) hq_1 (fun _ h9 => h9) rfl dX4_hoursOn_56 ?_
                          refine lv_iconst (v := nI 0) hx hb dX4_hoursOn_59 (by decide) ?_
                          refine lv_dup2_11 hx hb dX4_hoursOn_60 rfl rfl ?_
                          have hi_36 : 0 < 2 := by omega
                          refine va_iald (D := G.1) hx hb hK.1 hP 6 0 rfl rfl (vp_in_nI hi_36 (by omega)) dX4_hoursOn_61 ?_
                          refine lv_topi (fun y_37 hy_37 => ?_)
                          obtain rfl : y_37 = nI ((nuF (ho + j) un) 0) := hy_37.trans (nR_at (by omega))
                          refine lv_topi (fun y_38 hy_38 => ?_)
                          obtain rfl : y_38 = nI (ho + j) := hy_38.trans (rfl)
                          refine lv_iconst (v := nI 1) hx hb dX4_hoursOn_62 (by decide) ?_
                          refine lv_iadd hx hb dX4_hoursOn_63 ?_
                          refine lv_topi (fun y_39 hy_39 => ?_)
                          obtain rfl : y_39 = nI ((ho + j) + 1) := hy_39.trans (nI_add (ho + j) 1)
                          have hi_40 : 0 < 2 := by omega
                          refine va_iast (D := G.1) hx hb hK.1 hP hD hS 6 0 rfl rfl (vp_in_nI hi_40 (by omega)) dX4_hoursOn_64 (fun H locs hP hD hS => ?_)
                          rw [nR_upd (f := (nuF (ho + j) un)) (k := 0) (v := ((ho + j) + 1)) (by omega)] at hP hD
                          have hP : va_P G.1 vwCl [kO q0 4 [.int (nI th), .ref q1, .ref q2, .ref q3, .ref q4, .ref q5, .ref q6], kC G q1 8 (nR (peF ((wk q.1 q.2.2).1) ((wk q.2.1 (wk q.1 q.2.2).2.1).1))), kC G q2 120 (nR (knF ((wk q.1 q.2.2).1) ((wk q.2.1 (wk q.1 q.2.2).2.1).1))), kC G q3 120 (nR (plF ((wk q.1 q.2.2).1) ((wk q.2.1 (wk q.1 q.2.2).2.1).1))), kC G q4 80 (nR r9), kC G q5 8 (nR ((wk q.2.1 (wk q.1 q.2.2).2.1).2.1)), kC G q6 2 (nR (updN (nuF (ho + j) un) 0 ((ho + j) + 1)))] H := hP
                          have hD : va_D A [kO q0 4 [.int (nI th), .ref q1, .ref q2, .ref q3, .ref q4, .ref q5, .ref q6], kC G q1 8 (nR (peF ((wk q.1 q.2.2).1) ((wk q.2.1 (wk q.1 q.2.2).2.1).1))), kC G q2 120 (nR (knF ((wk q.1 q.2.2).1) ((wk q.2.1 (wk q.1 q.2.2).2.1).1))), kC G q3 120 (nR (plF ((wk q.1 q.2.2).1) ((wk q.2.1 (wk q.1 q.2.2).2.1).1))), kC G q4 80 (nR r9), kC G q5 8 (nR ((wk q.2.1 (wk q.1 q.2.2).2.1).2.1)), kC G q6 2 (nR (updN (nuF (ho + j) un) 0 ((ho + j) + 1)))] := hD
                          rw [nu_0] at hP hD
                          have hP : va_P G.1 vwCl [kO q0 4 [.int (nI th), .ref q1, .ref q2, .ref q3, .ref q4, .ref q5, .ref q6], kC G q1 8 (nR (peF ((wk q.1 q.2.2).1) ((wk q.2.1 (wk q.1 q.2.2).2.1).1))), kC G q2 120 (nR (knF ((wk q.1 q.2.2).1) ((wk q.2.1 (wk q.1 q.2.2).2.1).1))), kC G q3 120 (nR (plF ((wk q.1 q.2.2).1) ((wk q.2.1 (wk q.1 q.2.2).2.1).1))), kC G q4 80 (nR r9), kC G q5 8 (nR ((wk q.2.1 (wk q.1 q.2.2).2.1).2.1)), kC G q6 2 (nR (nuF (ho + (j + 1)) un))] H := hP
                          have hD : va_D A [kO q0 4 [.int (nI th), .ref q1, .ref q2, .ref q3, .ref q4, .ref q5, .ref q6], kC G q1 8 (nR (peF ((wk q.1 q.2.2).1) ((wk q.2.1 (wk q.1 q.2.2).2.1).1))), kC G q2 120 (nR (knF ((wk q.1 q.2.2).1) ((wk q.2.1 (wk q.1 q.2.2).2.1).1))), kC G q3 120 (nR (plF ((wk q.1 q.2.2).1) ((wk q.2.1 (wk q.1 q.2.2).2.1).1))), kC G q4 80 (nR r9), kC G q5 8 (nR ((wk q.2.1 (wk q.1 q.2.2).2.1).2.1)), kC G q6 2 (nR (nuF (ho + (j + 1)) un))] := hD
                          refine lv_iinc (v := nI (j + 1)) (lv' := [(2, .int (nI (j + 1))), (3, .int (nI 2)), (0, .ref q0), (1, .int (nI n)), (4, .int (nI (vS q.2.1 - (wk q.2.1 (wk q.1 q.2.2).2.1).2.2)))]) hx hb dX4_hoursOn_65 hl (k := 3) rfl (nI_add j 1) (by decide) rfl (fun ls hl => ?_)
                          refine lv_goto (tgt := 2) hx hb dX4_hoursOn_68 (by decide) ?_
                          exact ih_2 ((hr1 q).1) r9 (j + 1) (z + (wk q.1 q.2.2).2.2 + (wk q.2.1 (wk q.1 q.2.2).2.1).2.2) (hrI_s hI (by omega)) hr9 (by omega) _ _ _ hP hD hS (lv_sub hl [2, 3, 0] rfl)
                        · refine lv_if_ne (tgt := 49) hx hb dX4_hoursOn_32 (by decide) (fun c_32 => absurd c_32 (by decide)) (fun c_32 => ?_)
                          refine lv_aload_n hx hb dX4_hoursOn_35 rfl (lv_at hl 0 rfl) ?_
                          refine lv_iload_n hx hb dX4_hoursOn_36 rfl (lv_at hl 3 rfl) ?_
                          refine k_calli (fun u_37 => [kO q0 4 [.int (nI th), .ref q1, .ref q2, .ref q3, .ref q4, .ref q5, .ref q6], kC G q1 8 (nR (peF ((wk q.1 q.2.2).1) u_37.1)), kC G q2 120 (nR (knF ((wk q.1 q.2.2).1) u_37.1)), kC G q3 120 (nR (plF ((wk q.1 q.2.2).1) u_37.1)), kC G q4 80 (nR u_37.2.2), kC G q5 8 (nR u_37.2.1), kC G q6 2 (nR (nuF (ho + j) un))]) [] (k_runV (As := [.int (nI 1)]) (rest := []) (wc := [kO q0 4 [.int (nI th), .ref q1, .ref q2, .ref q3, .ref q4, .ref q5, .ref q6], kC G q1 8 (nR (peF ((wk q.1 q.2.2).1) w9)), kC G q2 120 (nR (knF ((wk q.1 q.2.2).1) w9)), kC G q3 120 (nR (plF ((wk q.1 q.2.2).1) w9)), kC G q4 80 (nR r9), kC G q5 8 (nR B9), kC G q6 2 (nR (nuF (ho + j) un))]) ⟨hx, hb, hml, hown, hts⟩ (m_knot1 l G q0 q1 q2 q3 q4 q5 q6 ((wk q.1 q.2.2).1) w9 B9 (ho + j) un r9 th hq1.1 hwo hBo hr9 (by omega) (by omega)) (cwV 1 hts gX4_hoursOn_X4_knot rfl rfl rfl (by decide +kernel) ⟨Nat.le_of_ble_eq_true rfl, Nat.le_of_ble_eq_true rfl⟩) hK hZ hP hD hS hA [0, 1, 2, 3, 4, 5, 6] rfl rfl 0 4 rfl rfl rfl rfl hl.1 rfl (Nat.le_of_ble_eq_true rfl) dX4_hoursOn_37 ⟨Nat.le_of_ble_eq_true rfl, Nat.le_of_ble_eq_true rfl⟩) hP hD hS hA [0, 1, 2, 3, 4, 5, 6] [] [0, 1, 2, 3, 4, 5, 6] rfl rfl rfl (by decide) (fun _ => rfl) rfl (fun r_37 u_37 H locs hp_37 hP hD hS => ?_)
                          rcases hp_37 with ⟨rfl, hp_37, hk1, hk2, hk3⟩ | ⟨rfl, hp_37, hu9⟩
                          · obtain ⟨uw, ub, ur⟩ := u_37
                            obtain rfl : uw = knW w9 B9 := hk1
                            obtain rfl : ub = takeB B9 (vC w9 0) := hk2
                            have hk3 : ruOk ((wk q.1 q.2.2).1) (knW w9 B9) ur := hk3
                            have hP : va_P G.1 vwCl [kO q0 4 [.int (nI th), .ref q1, .ref q2, .ref q3, .ref q4, .ref q5, .ref q6], kC G q1 8 (nR (peF ((wk q.1 q.2.2).1) (knW w9 B9))), kC G q2 120 (nR (knF ((wk q.1 q.2.2).1) (knW w9 B9))), kC G q3 120 (nR (plF ((wk q.1 q.2.2).1) (knW w9 B9))), kC G q4 80 (nR ur), kC G q5 8 (nR (takeB B9 (vC w9 0))), kC G q6 2 (nR (nuF (ho + j) un))] H := hP
                            have hD : va_D A [kO q0 4 [.int (nI th), .ref q1, .ref q2, .ref q3, .ref q4, .ref q5, .ref q6], kC G q1 8 (nR (peF ((wk q.1 q.2.2).1) (knW w9 B9))), kC G q2 120 (nR (knF ((wk q.1 q.2.2).1) (knW w9 B9))), kC G q3 120 (nR (plF ((wk q.1 q.2.2).1) (knW w9 B9))), kC G q4 80 (nR ur), kC G q5 8 (nR (takeB B9 (vC w9 0))), kC G q6 2 (nR (nuF (ho + j) un))] := hD
                            refine lv_if_eq (tgt := 49) hx hb dX4_hoursOn_40 (by decide) (fun c_40 => absurd c_40 (by decide)) (fun c_40 => ?_)
                            refine lv_iinc (v := nI (vS q.2.1 - (t9 + 1))) (lv' := [(4, .int (nI (vS q.2.1 - (t9 + 1)))), (0, .ref q0), (1, .int (nI n)), (2, .int (nI j)), (3, .int (nI 1))]) hx hb dX4_hoursOn_43 hl (k := 4) rfl (by rw [show vS q.2.1 - t9 = (vS q.2.1 - (t9 + 1)) + 1 by omega]; exact pk_m1 _) (by decide) rfl (fun ls hl => ?_)
                            refine lv_goto (tgt := 22) hx hb dX4_hoursOn_46 (by decide) ?_
                            exact ih_22 (knW w9 B9) (takeB B9 (vC w9 0)) ur (t9 + 1) (wkI_s hJ9 (by omega) (by omega) (by omega) hp_37) hk3 (by omega) _ _ _ hP hD hS (lv_sub hl [1, 2, 3, 4, 0] rfl)
                          · subst hu9
                            have hP : va_P G.1 vwCl [kO q0 4 [.int (nI th), .ref q1, .ref q2, .ref q3, .ref q4, .ref q5, .ref q6], kC G q1 8 (nR (peF ((wk q.1 q.2.2).1) w9)), kC G q2 120 (nR (knF ((wk q.1 q.2.2).1) w9)), kC G q3 120 (nR (plF ((wk q.1 q.2.2).1) w9)), kC G q4 80 (nR r9), kC G q5 8 (nR B9), kC G q6 2 (nR (nuF (ho + j) un))] H := hP
                            have hD : va_D A [kO q0 4 [.int (nI th), .ref q1, .ref q2, .ref q3, .ref q4, .ref q5, .ref q6], kC G q1 8 (nR (peF ((wk q.1 q.2.2).1) w9)), kC G q2 120 (nR (knF ((wk q.1 q.2.2).1) w9)), kC G q3 120 (nR (plF ((wk q.1 q.2.2).1) w9)), kC G q4 80 (nR r9), kC G q5 8 (nR B9), kC G q6 2 (nR (nuF (ho + j) un))] := hD
                            refine lv_if_eq (tgt := 49) hx hb dX4_hoursOn_40 (by decide) (fun c_40 => ?_) (fun c_40 => absurd c_40 (by decide))
                            have he := wkI_e hJ9 (by first | exact Or.inl (by omega) | exact Or.inr (fun q9 => by omega) | exact Or.inr (fun q9 => hp_37 q9.2.2))
                            obtain ⟨rfl, rfl, rfl⟩ := he
                            have hP : va_P G.1 vwCl [kO q0 4 [.int (nI th), .ref q1, .ref q2, .ref q3, .ref q4, .ref q5, .ref q6], kC G q1 8 (nR (peF ((wk q.1 q.2.2).1) ((wk q.2.1 (wk q.1 q.2.2).2.1).1))), kC G q2 120 (nR (knF ((wk q.1 q.2.2).1) ((wk q.2.1 (wk q.1 q.2.2).2.1).1))), kC G q3 120 (nR (plF ((wk q.1 q.2.2).1) ((wk q.2.1 (wk q.1 q.2.2).2.1).1))), kC G q4 80 (nR r9), kC G q5 8 (nR ((wk q.2.1 (wk q.1 q.2.2).2.1).2.1)), kC G q6 2 (nR (nuF (ho + j) un))] H := hP
                            have hD : va_D A [kO q0 4 [.int (nI th), .ref q1, .ref q2, .ref q3, .ref q4, .ref q5, .ref q6], kC G q1 8 (nR (peF ((wk q.1 q.2.2).1) ((wk q.2.1 (wk q.1 q.2.2).2.1).1))), kC G q2 120 (nR (knF ((wk q.1 q.2.2).1) ((wk q.2.1 (wk q.1 q.2.2).2.1).1))), kC G q3 120 (nR (plF ((wk q.1 q.2.2).1) ((wk q.2.1 (wk q.1 q.2.2).2.1).1))), kC G q4 80 (nR r9), kC G q5 8 (nR ((wk q.2.1 (wk q.1 q.2.2).2.1).2.1)), kC G q6 2 (nR (nuF (ho + j) un))] := hD
                            refine lv_iinc (v := nI 2) (lv' := [(3, .int (nI 2)), (0, .ref q0), (1, .int (nI n)), (2, .int (nI j)), (4, .int (nI (vS q.2.1 - (wk q.2.1 (wk q.1 q.2.2).2.1).2.2)))]) hx hb dX4_hoursOn_49 hl (k := 3) rfl (by decide) (by decide) rfl (fun ls hl => ?_)
                            refine lv_goto (tgt := 9) hx hb dX4_hoursOn_52 (by decide) ?_
                            refine lv_iload_n hx hb dX4_hoursOn_9 rfl (lv_at hl 0 rfl) ?_
                            refine lv_iconst (v := nI 2) hx hb dX4_hoursOn_10 (by decide) ?_
                            refine lv_icmp_ge (tgt := 55) hx hb dX4_hoursOn_11 (by decide) (fun c_11 => ?_) (fun c_11 => absurd c_11 (by decide))
                            refine lv_aload_n hx hb dX4_hoursOn_55 rfl (lv_at hl 1 rfl) ?_
                            refine va_get (D := G.1) (ci := 4) (v := .ref q6) (C := RX4) (T := TX4) (N := 7) hx hb hts hq_0 hown hK.1 hP 0 rfl rfl 6 (by decide) hq_1 (fun _ h9 => h9) rfl dX4_hoursOn_56 ?_
                            refine lv_iconst (v := nI 0) hx hb dX4_hoursOn_59 (by decide) ?_
                            refine lv_dup2_11 hx hb dX4_hoursOn_60 rfl rfl ?_
                            have hi_41 : 0 < 2 := by omega
                            refine va_iald (D := G.1) hx hb hK.1 hP 6 0 rfl rfl (vp_in_nI hi_41 (by omega)) dX4_hoursOn_61 ?_
                            refine lv_topi (fun y_42 hy_42 => ?_)
                            obtain rfl : y_42 = nI ((nuF (ho + j) un) 0) := hy_42.trans (nR_at (by omega))
                            refine lv_topi (fun y_43 hy_43 => ?_)
                            obtain rfl : y_43 = nI (ho + j) := hy_43.trans (rfl)
                            refine lv_iconst (v := nI 1) hx hb dX4_hoursOn_62 (by decide) ?_
                            refine lv_iadd hx hb dX4_hoursOn_63 ?_
                            refine lv_topi (fun y_44 hy_44 => ?_)
                            obtain rfl : y_44 = nI ((ho + j) + 1) := hy_44.trans (nI_add (ho + j) 1)
                            have hi_45 : 0 < 2 := by omega
                            refine va_iast (D := G.1) hx hb hK.1 hP hD hS 6 0 rfl rfl (vp_in_nI hi_45 (by omega)) dX4_hoursOn_64 (fun H locs hP hD hS => ?_)
                            rw [nR_upd (f := (nuF (ho + j) un)) (k := 0) (v := ((ho + j) + 1)) (by omega)] at hP hD
                            have hP : va_P G.1 vwCl [kO q0 4 [.int (nI th), .ref q1, .ref q2, .ref q3, .ref q4, .ref q5, .ref q6], kC G q1 8 (nR (peF ((wk q.1 q.2.2).1) ((wk q.2.1 (wk q.1 q.2.2).2.1).1))), kC G q2 120 (nR (knF ((wk q.1 q.2.2).1) ((wk q.2.1 (wk q.1 q.2.2).2.1).1))), kC G q3 120 (nR (plF ((wk q.1 q.2.2).1) ((wk q.2.1 (wk q.1 q.2.2).2.1).1))), kC G q4 80 (nR r9), kC G q5 8 (nR ((wk q.2.1 (wk q.1 q.2.2).2.1).2.1)), kC G q6 2 (nR (updN (nuF (ho + j) un) 0 ((ho + j) + 1)))] H := hP
                            have hD : va_D A [kO q0 4 [.int (nI th), .ref q1, .ref q2, .ref q3, .ref q4, .ref q5, .ref q6], kC G q1 8 (nR (peF ((wk q.1 q.2.2).1) ((wk q.2.1 (wk q.1 q.2.2).2.1).1))), kC G q2 120 (nR (knF ((wk q.1 q.2.2).1) ((wk q.2.1 (wk q.1 q.2.2).2.1).1))), kC G q3 120 (nR (plF ((wk q.1 q.2.2).1) ((wk q.2.1 (wk q.1 q.2.2).2.1).1))), kC G q4 80 (nR r9), kC G q5 8 (nR ((wk q.2.1 (wk q.1 q.2.2).2.1).2.1)), kC G q6 2 (nR (updN (nuF (ho + j) un) 0 ((ho + j) + 1)))] := hD
                            rw [nu_0] at hP hD
                            have hP : va_P G.1 vwCl [kO q0 4 [.int (nI th), .ref q1, .ref q2, .ref q3, .ref q4, .ref q5, .ref q6], kC G q1 8 (nR (peF ((wk q.1 q.2.2).1) ((wk q.2.1 (wk q.1 q.2.2).2.1).1))), kC G q2 120 (nR (knF ((wk q.1 q.2.2).1) ((wk q.2.1 (wk q.1 q.2.2).2.1).1))), kC G q3 120 (nR (plF ((wk q.1 q.2.2).1) ((wk q.2.1 (wk q.1 q.2.2).2.1).1))), kC G q4 80 (nR r9), kC G q5 8 (nR ((wk q.2.1 (wk q.1 q.2.2).2.1).2.1)), kC G q6 2 (nR (nuF (ho + (j + 1)) un))] H := hP
                            have hD : va_D A [kO q0 4 [.int (nI th), .ref q1, .ref q2, .ref q3, .ref q4, .ref q5, .ref q6], kC G q1 8 (nR (peF ((wk q.1 q.2.2).1) ((wk q.2.1 (wk q.1 q.2.2).2.1).1))), kC G q2 120 (nR (knF ((wk q.1 q.2.2).1) ((wk q.2.1 (wk q.1 q.2.2).2.1).1))), kC G q3 120 (nR (plF ((wk q.1 q.2.2).1) ((wk q.2.1 (wk q.1 q.2.2).2.1).1))), kC G q4 80 (nR r9), kC G q5 8 (nR ((wk q.2.1 (wk q.1 q.2.2).2.1).2.1)), kC G q6 2 (nR (nuF (ho + (j + 1)) un))] := hD
                            refine lv_iinc (v := nI (j + 1)) (lv' := [(2, .int (nI (j + 1))), (3, .int (nI 2)), (0, .ref q0), (1, .int (nI n)), (4, .int (nI (vS q.2.1 - (wk q.2.1 (wk q.1 q.2.2).2.1).2.2)))]) hx hb dX4_hoursOn_65 hl (k := 3) rfl (nI_add j 1) (by decide) rfl (fun ls hl => ?_)
                            refine lv_goto (tgt := 2) hx hb dX4_hoursOn_68 (by decide) ?_
                            exact ih_2 ((hr1 q).1) r9 (j + 1) (z + (wk q.1 q.2.2).2.2 + (wk q.2.1 (wk q.1 q.2.2).2.1).2.2) (hrI_s hI (by omega)) hr9 (by omega) _ _ _ hP hD hS (lv_sub hl [2, 3, 0] rfl)
                  exact loop_221 (vS q.2.1 + 1) q.2.1 ((wk q.1 q.2.2).2.1) r2 0 (wkI_0 hq.2.1 hq1.2.1) hr2 (by omega) H locs ls hP hD hS (lv_sub hl [2, 3, 4, 1, 0] rfl)
        exact loop_220 (vS q.1 + 1) q.1 q.2.2 r 0 (wkI_0 hq.1 hq.2.2) hro (by omega) H locs ls hP hD hS (lv_sub hl [2, 3, 4, 1, 0] rfl)
  exact loop_2 (n + 1) (w0, w1, bf) ru 0 0 (hrI_0 ⟨h0, h1, hB⟩) hru (by omega) H locs ls hP hD hS (lv_sub hl [1, 2, 0] rfl)
set_option maxHeartbeats 4000000 in
set_option maxRecDepth 100000 in
theorem m_pass (l : Launch) (G : kG) (q0 : Nat) (q1 : Nat) (q2 : Nat) (q3 : Nat) (q4 : Nat) (q5 : Nat) (q6 : Nat) (w0 : Wv) (w1 : Wv) (bf : Nat → Nat) (ho : Nat) (un : Nat) (ru : Nat → Nat) (th : Nat) (x1 : Int32) (h0 : wOk w0) (h1 : wOk w1) (hB : bOk bf) (hru : ruOk w0 w1 ru) : kM l G yX4_pass wsX4_pass ({ frames := 4, cells := 0, slots := 0, locals := 94 } : Room) [.ref q0, .int x1] [kO q0 4 [.int (nI th), .ref q1, .ref q2, .ref q3, .ref q4, .ref q5, .ref q6], kC G q1 8 (nR (peF w0 w1)), kC G q2 120 (nR (knF w0 w1)), kC G q3 120 (nR (plF w0 w1)), kC G q4 80 (nR ru), kC G q5 8 (nR bf), kC G q6 2 (nR (nuF ho un))] (kQi G [kO q0 4 [.int (nI th), .ref q1, .ref q2, .ref q3, .ref q4, .ref q5, .ref q6], kC G q1 8 (nR (peF w0 w1)), kC G q2 120 (nR (knF w0 w1)), kC G q3 120 (nR (plF w0 w1)), kC G q4 80 (nR ru), kC G q5 8 (nR bf), kC G q6 2 (nR (nuF ho un))] (fun (r : Int32) (u : Nat → Nat) => (cdA (inG x1 1 60) = 0 → r = nI (hrs (tN x1) (w0, w1, bf)).2) ∧ ruOk (stIf (cdA (inG x1 1 60)) (sPass (w0, w1, bf, ho, un) (tN x1)) (w0, w1, bf, ho, un)).1 (stIf (cdA (inG x1 1 60)) (sPass (w0, w1, bf, ho, un) (tN x1)) (w0, w1, bf, ho, un)).2.1 u) (fun (u : Nat → Nat) => [kO q0 4 [.int (nI (cdA (inG x1 1 60))), .ref q1, .ref q2, .ref q3, .ref q4, .ref q5, .ref q6], kC G q1 8 (nR (peF ((stIf (cdA (inG x1 1 60)) (sPass (w0, w1, bf, ho, un) (tN x1)) (w0, w1, bf, ho, un)).1) ((stIf (cdA (inG x1 1 60)) (sPass (w0, w1, bf, ho, un) (tN x1)) (w0, w1, bf, ho, un)).2.1))), kC G q2 120 (nR (knF ((stIf (cdA (inG x1 1 60)) (sPass (w0, w1, bf, ho, un) (tN x1)) (w0, w1, bf, ho, un)).1) ((stIf (cdA (inG x1 1 60)) (sPass (w0, w1, bf, ho, un) (tN x1)) (w0, w1, bf, ho, un)).2.1))), kC G q3 120 (nR (plF ((stIf (cdA (inG x1 1 60)) (sPass (w0, w1, bf, ho, un) (tN x1)) (w0, w1, bf, ho, un)).1) ((stIf (cdA (inG x1 1 60)) (sPass (w0, w1, bf, ho, un) (tN x1)) (w0, w1, bf, ho, un)).2.1))), kC G q4 80 (nR u), kC G q5 8 (nR ((stIf (cdA (inG x1 1 60)) (sPass (w0, w1, bf, ho, un) (tN x1)) (w0, w1, bf, ho, un)).2.2.1)), kC G q6 2 (nR (nuF ((stIf (cdA (inG x1 1 60)) (sPass (w0, w1, bf, ho, un) (tN x1)) (w0, w1, bf, ho, un)).2.2.2.1) ((stIf (cdA (inG x1 1 60)) (sPass (w0, w1, bf, ho, un) (tN x1)) (w0, w1, bf, ho, un)).2.2.2.2)))])) := by
  refine k_ofW (cc := cX4_pass) (maxL := 3) (rt := (some .int)) (by decide) rfl (Nat.le_of_ble_eq_true rfl) ?_
  intro p e s m args below meth c A ls Qs H locs hQ hAe hx hb hr hml hts hown hlocks hin hK hZ hP hD hS hA hl
  have hown : s.vm.findClass RX4 = some m.cls := hown
  have hl : lv_has ls 3 [(0, .ref q0), (1, .int x1)] := hl
  have m0b : vM w0 ≤ 60 := h0.2.2.2.1
  have m1b : vM w1 ≤ 60 := h1.2.2.2.1
  have t0b : vT w0 ≤ 20 := h0.2.2.1
  have t1b : vT w1 ≤ 20 := h1.2.2.1
  have pb0 : ∀ i, i < 60 → vP w0 i < 8 := h0.2.2.2.2.1
  have pb1 : ∀ i, i < 60 → vP w1 i < 8 := h1.2.2.2.2.1
  have kb0 : ∀ i, i < 60 → vK w0 i < 8 := h0.2.2.2.2.2.1
  have kb1 : ∀ i, i < 60 → vK w1 i < 8 := h1.2.2.2.2.2.1
  have rk0 := hru.1
  have rk1 := hru.2
  have hq_0 : ∀ w ∈ wsX40, w ∈ wsX4_pass := by decide +kernel
  have hq_1 : (Cond.fieldLink RX4 28 "KnotRugsModel" "thrown" "I").before args s = true := hts _ (by decide +kernel)
  refine lv_aload_n hx hb dX4_pass_0 rfl (lv_at hl 0 rfl) ?_
  refine lv_iconst (v := nI 0) hx hb dX4_pass_1 (by decide) ?_
  refine va_put (D := G.1) (ci := 4) (v := .int (nI 0)) (ty := .int) (C := RX4) (T := TX4) (N := 7) hx hb hts hq_0 tyX4 tyX4_ok nmX4 hown hK.1 hP hD hS 0 rfl rfl 0 (by decide) hq_1 (fun _ h9 => h9) rfl (by decide +kernel) rfl rfl (Nat.le_of_ble_eq_true rfl) dX4_pass_2 (fun H locs hP hD hS => ?_)
  have hP : va_P G.1 vwCl [kO q0 4 [.int (nI 0), .ref q1, .ref q2, .ref q3, .ref q4, .ref q5, .ref q6], kC G q1 8 (nR (peF w0 w1)), kC G q2 120 (nR (knF w0 w1)), kC G q3 120 (nR (plF w0 w1)), kC G q4 80 (nR ru), kC G q5 8 (nR bf), kC G q6 2 (nR (nuF ho un))] H := hP
  have hD : va_D A [kO q0 4 [.int (nI 0), .ref q1, .ref q2, .ref q3, .ref q4, .ref q5, .ref q6], kC G q1 8 (nR (peF w0 w1)), kC G q2 120 (nR (knF w0 w1)), kC G q3 120 (nR (plF w0 w1)), kC G q4 80 (nR ru), kC G q5 8 (nR bf), kC G q6 2 (nR (nuF ho un))] := hD
  refine lv_iload_n hx hb dX4_pass_5 rfl (lv_at hl 1 rfl) ?_
  refine lv_iconst (v := nI 1) hx hb dX4_pass_6 (by decide) ?_
  refine lv_bipush (v := nI 60) hx hb dX4_pass_7 (by decide) ?_
  refine k_calli (fun u_9 => [kO q0 4 [.int (nI 0), .ref q1, .ref q2, .ref q3, .ref q4, .ref q5, .ref q6], kC G q1 8 (nR (peF w0 w1)), kC G q2 120 (nR (knF w0 w1)), kC G q3 120 (nR (plF w0 w1)), kC G q4 80 (nR ru), kC G q5 8 (nR bf), kC G q6 2 (nR (nuF ho un))]) [kO q0 4 [.int (nI 0), .ref q1, .ref q2, .ref q3, .ref q4, .ref q5, .ref q6], kC G q1 8 (nR (peF w0 w1)), kC G q2 120 (nR (knF w0 w1)), kC G q3 120 (nR (plF w0 w1)), kC G q4 80 (nR ru), kC G q5 8 (nR bf), kC G q6 2 (nR (nuF ho un))] (k_runS (As := [.int x1, .int (nI 1), .int (nI 60)]) (rest := []) (wc := []) ⟨hx, hb, hml, hown, hts⟩ (m_isIn l G x1 (nI 1) (nI 60) ) (va_cwS 3 hts gX4_pass_X4_isIn rfl rfl rfl (by decide +kernel) ⟨Nat.le_of_ble_eq_true rfl, Nat.le_of_ble_eq_true rfl⟩) hK hZ hP hD hS hA [] rfl rfl rfl hl.1 rfl (Nat.le_of_ble_eq_true rfl) dX4_pass_9 ⟨Nat.le_of_ble_eq_true rfl, Nat.le_of_ble_eq_true rfl⟩) hP hD hS hA [] [0, 1, 2, 3, 4, 5, 6] [0, 1, 2, 3, 4, 5, 6] rfl rfl rfl (by decide) (fun _ => rfl) rfl (fun r_9 u_9 H locs hp_9 hP hD hS => ?_)
  rw [isIn_G (by decide) (by decide)] at hp_9
  rcases hp_9 with ⟨rfl, hp_9⟩ | ⟨rfl, hp_9⟩
  · refine lv_if_ne (tgt := 21) hx hb dX4_pass_12 (by decide) (fun c_12 => ?_) (fun c_12 => absurd c_12 (by decide))
    obtain ⟨k, hka, hkb, ek⟩ := id hp_9
    subst ek
    have tk : tN (nI k) = k := tN_nI (by omega)
    refine lv_aload_n hx hb dX4_pass_21 rfl (lv_at hl 0 rfl) ?_
    refine lv_iconst (v := nI 1) hx hb dX4_pass_22 (by decide) ?_
    refine k_calli (fun _ => [kO q0 4 [.int (nI 0), .ref q1, .ref q2, .ref q3, .ref q4, .ref q5, .ref q6], kC G q1 8 (nR (peF w0 w1)), kC G q2 120 (nR (knF w0 w1)), kC G q3 120 (nR (plF w0 w1)), kC G q4 80 (nR ru), kC G q5 8 (nR bf), kC G q6 2 (nR (nuF ho un))]) [] (k_runV (As := [.int (nI 1)]) (rest := []) (wc := [kO q0 4 [.int (nI 0), .ref q1, .ref q2, .ref q3, .ref q4, .ref q5, .ref q6], kC G q1 8 (nR (peF w0 w1)), kC G q2 120 (nR (knF w0 w1)), kC G q3 120 (nR (plF w0 w1)), kC G q4 80 (nR ru), kC G q5 8 (nR bf), kC G q6 2 (nR (nuF ho un))]) ⟨hx, hb, hml, hown, hts⟩ (m_counted l G q0 q1 q2 q3 q4 q5 q6 w0 w1 bf ho un ru 0 1 (by decide) h0 h1 hB hru) (cwV 1 hts gX4_pass_X4_counted rfl rfl rfl (by decide +kernel) ⟨Nat.le_of_ble_eq_true rfl, Nat.le_of_ble_eq_true rfl⟩) hK hZ hP hD hS hA [0, 1, 2, 3, 4, 5, 6] rfl rfl 0 4 rfl rfl rfl rfl hl.1 rfl (Nat.le_of_ble_eq_true rfl) dX4_pass_23 ⟨Nat.le_of_ble_eq_true rfl, Nat.le_of_ble_eq_true rfl⟩) hP hD hS hA [0, 1, 2, 3, 4, 5, 6] [] [0, 1, 2, 3, 4, 5, 6] rfl rfl rfl (by decide) (fun _ => rfl) rfl (fun r_23 u_23 H locs hp_23 hP hD hS => ?_)
    have hp_23 : r_23 = nI (rNum w0 w1 bf ho un 1) := hp_23
    subst hp_23
    refine lv_topi (fun y_1 hy_1 => ?_)
    obtain rfl : y_1 = nI (vM w0 + vM w1) := hy_1.trans (rfl)
    refine lv_istore_n (lv' := [(2, .int (nI (vM w0 + vM w1))), (0, .ref q0), (1, .int (nI k))]) hx hb dX4_pass_26 rfl hl (by decide) rfl (fun ls hl => ?_)
    refine lv_aload_n hx hb dX4_pass_27 rfl (lv_at hl 1 rfl) ?_
    refine lv_iload_n hx hb dX4_pass_28 rfl (lv_at hl 2 rfl) ?_
    refine k_callv (fun u_29 => [kO q0 4 [.int (nI 0), .ref q1, .ref q2, .ref q3, .ref q4, .ref q5, .ref q6], kC G q1 8 (nR (peF ((hrs k (w0, w1, bf)).1.1) ((hrs k (w0, w1, bf)).1.2.1))), kC G q2 120 (nR (knF ((hrs k (w0, w1, bf)).1.1) ((hrs k (w0, w1, bf)).1.2.1))), kC G q3 120 (nR (plF ((hrs k (w0, w1, bf)).1.1) ((hrs k (w0, w1, bf)).1.2.1))), kC G q4 80 (nR u_29), kC G q5 8 (nR ((hrs k (w0, w1, bf)).1.2.2)), kC G q6 2 (nR (nuF (ho + k) un))]) [] (k_runV (As := [.int (nI k)]) (rest := []) (wc := [kO q0 4 [.int (nI 0), .ref q1, .ref q2, .ref q3, .ref q4, .ref q5, .ref q6], kC G q1 8 (nR (peF w0 w1)), kC G q2 120 (nR (knF w0 w1)), kC G q3 120 (nR (plF w0 w1)), kC G q4 80 (nR ru), kC G q5 8 (nR bf), kC G q6 2 (nR (nuF ho un))]) ⟨hx, hb, hml, hown, hts⟩ (m_hoursOn l G q0 q1 q2 q3 q4 q5 q6 w0 w1 bf ho un ru 0 k (by omega) h0 h1 hB hru) (cwV 1 hts gX4_pass_X4_hoursOn rfl rfl rfl (by decide +kernel) ⟨Nat.le_of_ble_eq_true rfl, Nat.le_of_ble_eq_true rfl⟩) hK hZ hP hD hS hA [0, 1, 2, 3, 4, 5, 6] rfl rfl 0 4 rfl rfl rfl rfl hl.1 rfl (Nat.le_of_ble_eq_true rfl) dX4_pass_29 ⟨Nat.le_of_ble_eq_true rfl, Nat.le_of_ble_eq_true rfl⟩) hP hD hS hA [0, 1, 2, 3, 4, 5, 6] [] [0, 1, 2, 3, 4, 5, 6] rfl rfl rfl (by decide) (fun _ => rfl) rfl (fun u_29 H locs hp_29 hP hD hS => ?_)
    have hrk : rOk (hrs k (w0, w1, bf)).1 := hrs_ok k ⟨h0, h1, hB⟩
    have hmd := hrs_made k (w0, w1, bf)
    have hmd : vM (hrs k (w0, w1, bf)).1.1 + vM (hrs k (w0, w1, bf)).1.2.1 = vM w0 + vM w1 + (hrs k (w0, w1, bf)).2 := hmd
    refine lv_aload_n hx hb dX4_pass_32 rfl (lv_at hl 1 rfl) ?_
    refine lv_iconst (v := nI 1) hx hb dX4_pass_33 (by decide) ?_
    refine k_calli (fun _ => [kO q0 4 [.int (nI 0), .ref q1, .ref q2, .ref q3, .ref q4, .ref q5, .ref q6], kC G q1 8 (nR (peF ((hrs k (w0, w1, bf)).1.1) ((hrs k (w0, w1, bf)).1.2.1))), kC G q2 120 (nR (knF ((hrs k (w0, w1, bf)).1.1) ((hrs k (w0, w1, bf)).1.2.1))), kC G q3 120 (nR (plF ((hrs k (w0, w1, bf)).1.1) ((hrs k (w0, w1, bf)).1.2.1))), kC G q4 80 (nR u_29), kC G q5 8 (nR ((hrs k (w0, w1, bf)).1.2.2)), kC G q6 2 (nR (nuF (ho + k) un))]) [] (k_runV (As := [.int (nI 1)]) (rest := []) (wc := [kO q0 4 [.int (nI 0), .ref q1, .ref q2, .ref q3, .ref q4, .ref q5, .ref q6], kC G q1 8 (nR (peF ((hrs k (w0, w1, bf)).1.1) ((hrs k (w0, w1, bf)).1.2.1))), kC G q2 120 (nR (knF ((hrs k (w0, w1, bf)).1.1) ((hrs k (w0, w1, bf)).1.2.1))), kC G q3 120 (nR (plF ((hrs k (w0, w1, bf)).1.1) ((hrs k (w0, w1, bf)).1.2.1))), kC G q4 80 (nR u_29), kC G q5 8 (nR ((hrs k (w0, w1, bf)).1.2.2)), kC G q6 2 (nR (nuF (ho + k) un))]) ⟨hx, hb, hml, hown, hts⟩ (m_counted l G q0 q1 q2 q3 q4 q5 q6 ((hrs k (w0, w1, bf)).1.1) ((hrs k (w0, w1, bf)).1.2.1) ((hrs k (w0, w1, bf)).1.2.2) (ho + k) un u_29 0 1 (by decide) hrk.1 hrk.2.1 hrk.2.2 hp_29) (cwV 1 hts gX4_pass_X4_counted rfl rfl rfl (by decide +kernel) ⟨Nat.le_of_ble_eq_true rfl, Nat.le_of_ble_eq_true rfl⟩) hK hZ hP hD hS hA [0, 1, 2, 3, 4, 5, 6] rfl rfl 0 4 rfl rfl rfl rfl hl.1 rfl (Nat.le_of_ble_eq_true rfl) dX4_pass_34 ⟨Nat.le_of_ble_eq_true rfl, Nat.le_of_ble_eq_true rfl⟩) hP hD hS hA [0, 1, 2, 3, 4, 5, 6] [] [0, 1, 2, 3, 4, 5, 6] rfl rfl rfl (by decide) (fun _ => rfl) rfl (fun r_34 u_34 H locs hp_34 hP hD hS => ?_)
    have hp_34 : r_34 = nI (rNum ((hrs k (w0, w1, bf)).1.1) ((hrs k (w0, w1, bf)).1.2.1) ((hrs k (w0, w1, bf)).1.2.2) (ho + k) un 1) := hp_34
    subst hp_34
    refine lv_topi (fun y_2 hy_2 => ?_)
    obtain rfl : y_2 = nI (vM (hrs k (w0, w1, bf)).1.1 + vM (hrs k (w0, w1, bf)).1.2.1) := hy_2.trans (rfl)
    refine lv_iload_n hx hb dX4_pass_37 rfl (lv_at hl 0 rfl) ?_
    refine lv_isub hx hb dX4_pass_38 ?_
    refine lv_topi (fun y_3 hy_3 => ?_)
    obtain rfl : y_3 = nI ((vM (hrs k (w0, w1, bf)).1.1 + vM (hrs k (w0, w1, bf)).1.2.1) - (vM w0 + vM w1)) := hy_3.trans (pk_sub (a := (vM (hrs k (w0, w1, bf)).1.1 + vM (hrs k (w0, w1, bf)).1.2.1)) (b := (vM w0 + vM w1)) (by omega))
    exact k_iret (ws := [kO q0 4 [.int (nI th), .ref q1, .ref q2, .ref q3, .ref q4, .ref q5, .ref q6], kC G q1 8 (nR (peF w0 w1)), kC G q2 120 (nR (knF w0 w1)), kC G q3 120 (nR (plF w0 w1)), kC G q4 80 (nR ru), kC G q5 8 (nR bf), kC G q6 2 (nR (nuF ho un))]) (u_29) hx hb hr hlocks hP hD hS hAe hQ (Nat.le_of_ble_eq_true rfl) (Nat.le_of_ble_eq_true rfl) dX4_pass_39 (by rw [cdA_0 hp_9, tk]; first | done | rfl) (⟨fun _ => (by rw [tk]; congr 1; omega), by rw [cdA_0 hp_9, tk]; exact hp_29⟩)
  · refine lv_if_ne (tgt := 21) hx hb dX4_pass_12 (by decide) (fun c_12 => absurd c_12 (by decide)) (fun c_12 => ?_)
    refine lv_aload_n hx hb dX4_pass_15 rfl (lv_at hl 0 rfl) ?_
    refine lv_iconst (v := nI 1) hx hb dX4_pass_16 (by decide) ?_
    refine k_calli (fun _ => [kO q0 4 [.int (nI 1), .ref q1, .ref q2, .ref q3, .ref q4, .ref q5, .ref q6], kC G q1 8 (nR (peF w0 w1)), kC G q2 120 (nR (knF w0 w1)), kC G q3 120 (nR (plF w0 w1)), kC G q4 80 (nR ru), kC G q5 8 (nR bf), kC G q6 2 (nR (nuF ho un))]) [kC G q1 8 (nR (peF w0 w1)), kC G q2 120 (nR (knF w0 w1)), kC G q3 120 (nR (plF w0 w1)), kC G q4 80 (nR ru), kC G q5 8 (nR bf), kC G q6 2 (nR (nuF ho un))] (k_runV (As := [.int (nI 1)]) (rest := []) (wc := [kO q0 4 [.int (nI 0), .ref q1, .ref q2, .ref q3, .ref q4, .ref q5, .ref q6]]) ⟨hx, hb, hml, hown, hts⟩ (m_fail l G q0 q1 q2 q3 q4 q5 q6 0 1 ) (cwV 1 hts gX4_pass_X4_fail rfl rfl rfl (by decide +kernel) ⟨Nat.le_of_ble_eq_true rfl, Nat.le_of_ble_eq_true rfl⟩) hK hZ hP hD hS hA [0] rfl rfl 0 4 rfl rfl rfl rfl hl.1 rfl (Nat.le_of_ble_eq_true rfl) dX4_pass_17 ⟨Nat.le_of_ble_eq_true rfl, Nat.le_of_ble_eq_true rfl⟩) hP hD hS hA [0] [1, 2, 3, 4, 5, 6] [6, 0, 1, 2, 3, 4, 5] rfl rfl rfl (by decide) (fun _ => rfl) rfl (fun r_17 u_17 H locs hp_17 hP hD hS => ?_)
    have hp_17 : r_17 = nI 0 := hp_17
    subst hp_17
    exact k_iret (ws := [kO q0 4 [.int (nI th), .ref q1, .ref q2, .ref q3, .ref q4, .ref q5, .ref q6], kC G q1 8 (nR (peF w0 w1)), kC G q2 120 (nR (knF w0 w1)), kC G q3 120 (nR (plF w0 w1)), kC G q4 80 (nR ru), kC G q5 8 (nR bf), kC G q6 2 (nR (nuF ho un))]) (ru) hx hb hr hlocks hP hD hS hAe hQ (Nat.le_of_ble_eq_true rfl) (Nat.le_of_ble_eq_true rfl) dX4_pass_20 (by rw [cdA_1 hp_9]; first | done | rfl) (⟨fun q => absurd ((cdA_1 hp_9).symm.trans q) (by decide), by rw [cdA_1 hp_9]; exact hru⟩)
