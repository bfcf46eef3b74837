set_option maxHeartbeats 4000000 in
set_option maxRecDepth 100000 in
theorem m_digest (l : Launch) (G : kG) (q0 : Nat) (q1 : Nat) (q2 : Nat) (q3 : Nat) (q4 : Nat) (q5 : Nat) (q6 : Nat) (w0 : Wv) (w1 : Wv) (bf : Nat → Nat) (ho : Nat) (un : Nat) (ru : Nat → Nat) (th : Nat) (h0 : wOk w0) (h1 : wOk w1) (hB : bOk bf) (hru : ruOk w0 w1 ru) : kM l G yX4_digest wsX4_digest ({ frames := 4, cells := 0, slots := 0, locals := 94 } : Room) [.ref q0] [kO q0 4 [.int (nI th), .ref q1, .ref q2, .ref q3, .ref q4, .ref q5, .ref q6], kC G q1 8 (nR (peF w0 w1)), kC G q2 120 (nR (knF w0 w1)), kC G q3 120 (nR (plF w0 w1)), kC G q4 80 (nR ru), kC G q5 8 (nR bf), kC G q6 2 (nR (nuF ho un))] (kQl G [kO q0 4 [.int (nI th), .ref q1, .ref q2, .ref q3, .ref q4, .ref q5, .ref q6], kC G q1 8 (nR (peF w0 w1)), kC G q2 120 (nR (knF w0 w1)), kC G q3 120 (nR (plF w0 w1)), kC G q4 80 (nR ru), kC G q5 8 (nR bf), kC G q6 2 (nR (nuF ho un))] (fun (r : Int64) (_ : Unit) => r = aDig (w0, w1, bf, ho, un)) (fun (_ : Unit) => [kO q0 4 [.int (nI 0), .ref q1, .ref q2, .ref q3, .ref q4, .ref q5, .ref q6], kC G q1 8 (nR (peF w0 w1)), kC G q2 120 (nR (knF w0 w1)), kC G q3 120 (nR (plF w0 w1)), kC G q4 80 (nR ru), kC G q5 8 (nR bf), kC G q6 2 (nR (nuF ho un))])) := by
  refine k_ofW (cc := cX4_digest) (maxL := 7) (rt := (some .long)) (by decide) rfl (Nat.le_of_ble_eq_true rfl) ?_
  intro p e s m args below meth c A ls Qs H locs hQ hAe hx hb hr hml hts hown hlocks hin hK hZ hP hD hS hA hl
  have hown : s.vm.findClass RX4 = some m.cls := hown
  have hl : lv_has ls 7 [(0, .ref q0)] := hl
  have m0b : vM w0 ≤ 60 := h0.2.2.2.1
  have m1b : vM w1 ≤ 60 := h1.2.2.2.1
  have t0b : vT w0 ≤ 20 := h0.2.2.1
  have t1b : vT w1 ≤ 20 := h1.2.2.1
  have pb0 : ∀ i, i < 60 → vP w0 i < 8 := h0.2.2.2.2.1
  have pb1 : ∀ i, i < 60 → vP w1 i < 8 := h1.2.2.2.2.1
  have kb0 : ∀ i, i < 60 → vK w0 i < 8 := h0.2.2.2.2.2.1
  have kb1 : ∀ i, i < 60 → vK w1 i < 8 := h1.2.2.2.2.2.1
  have rk0 := hru.1
  have rk1 := hru.2
  have hq_0 : ∀ w ∈ wsX40, w ∈ wsX4_digest := by decide +kernel
  have hq_1 : (Cond.fieldLink RX4 28 "KnotRugsModel" "thrown" "I").before args s = true := hts _ (by decide +kernel)
  have hq_2 : (Cond.constantLong RX4 130 (983)).before args s = true := hts _ (by decide +kernel)
  have hq_3 : (Cond.fieldLink RX4 22 "KnotRugsModel" "baskets" "[I").before args s = true := hts _ (by decide +kernel)
  have hq_4 : (Cond.constantLong RX4 132 (31)).before args s = true := hts _ (by decide +kernel)
  have hq_5 : (Cond.fieldLink RX4 19 "KnotRugsModel" "runs" "[I").before args s = true := hts _ (by decide +kernel)
  have hq_6 : (Cond.fieldLink RX4 16 "KnotRugsModel" "plan" "[I").before args s = true := hts _ (by decide +kernel)
  refine lv_aload_n hx hb dX4_digest_0 rfl (lv_at hl 0 rfl) ?_
  refine lv_iconst (v := nI 0) hx hb dX4_digest_1 (by decide) ?_
  refine va_put (D := G.1) (ci := 4) (v := .int (nI 0)) (ty := .int) (C := RX4) (T := TX4) (N := 7) hx hb hts hq_0 tyX4 tyX4_ok nmX4 hown hK.1 hP hD hS 0 rfl rfl 0 (by decide) hq_1 (fun _ h9 => h9) rfl (by decide +kernel) rfl rfl (Nat.le_of_ble_eq_true rfl) dX4_digest_2 (fun H locs hP hD hS => ?_)
  have hP : va_P G.1 vwCl [kO q0 4 [.int (nI 0), .ref q1, .ref q2, .ref q3, .ref q4, .ref q5, .ref q6], kC G q1 8 (nR (peF w0 w1)), kC G q2 120 (nR (knF w0 w1)), kC G q3 120 (nR (plF w0 w1)), kC G q4 80 (nR ru), kC G q5 8 (nR bf), kC G q6 2 (nR (nuF ho un))] H := hP
  have hD : va_D A [kO q0 4 [.int (nI 0), .ref q1, .ref q2, .ref q3, .ref q4, .ref q5, .ref q6], kC G q1 8 (nR (peF w0 w1)), kC G q2 120 (nR (knF w0 w1)), kC G q3 120 (nR (plF w0 w1)), kC G q4 80 (nR ru), kC G q5 8 (nR bf), kC G q6 2 (nR (nuF ho un))] := hD
  refine W.ldc2 hx hb hown hq_2 rfl dX4_digest_5 ?_
  refine W.eq (g2 := F0 m 8 ls (.long 983 :: [])) rfl ?_
  refine lv_lstore_n (lv' := [(1, .long 983), (0, .ref q0)]) hx hb dX4_digest_8 rfl hl (by decide) rfl (fun ls hl => ?_)
  refine lv_iconst (v := nI 0) hx hb dX4_digest_9 (by decide) ?_
  refine lv_istore_n (lv' := [(3, .int (nI 0)), (1, .long 983), (0, .ref q0)]) hx hb dX4_digest_10 rfl hl (by decide) rfl (fun ls hl => ?_)
  have loop_11 : ∀ (fu_11 : Nat) (k : Nat), k ≤ 8 → 8 < k + fu_11 → ∀ (H : Heap) (locs : List Loc) (ls : Array Slot), va_P G.1 vwCl [kO q0 4 [.int (nI 0), .ref q1, .ref q2, .ref q3, .ref q4, .ref q5, .ref q6], kC G q1 8 (nR (peF w0 w1)), kC G q2 120 (nR (knF w0 w1)), kC G q3 120 (nR (plF w0 w1)), kC G q4 80 (nR ru), kC G q5 8 (nR bf), kC G q6 2 (nR (nuF ho un))] H → va_D A [kO q0 4 [.int (nI 0), .ref q1, .ref q2, .ref q3, .ref q4, .ref q5, .ref q6], kC G q1 8 (nR (peF w0 w1)), kC G q2 120 (nR (knF w0 w1)), kC G q3 120 (nR (plF w0 w1)), kC G q4 80 (nR ru), kC G q5 8 (nR bf), kC G q6 2 (nR (nuF ho un))] → va_S A s.heap H locs → lv_has ls 7 [(0, .ref q0), (1, .long (mxF (fun k => nI (sNum (w0, w1, bf, ho, un) k)) k 983)), (3, .int (nI k))] → W p l e ({ frames := 4, cells := 0, slots := 0, locals := 94 } : Room) s m args below meth c H locs 0 0 Qs (F0 m 11 ls []) := by
    intro fu_11
    induction fu_11 with
    | zero =>
      intro k hk hf
      exact absurd hf (by omega)
    | succ fu_11 ih_11 =>
      intro k hk hf H locs ls hP hD hS hl
      refine lv_iload_n hx hb dX4_digest_11 rfl (lv_at hl 2 rfl) ?_
      refine lv_bipush (v := nI 8) hx hb dX4_digest_12 (by decide) ?_
      refine lv_icmp_ge (tgt := 36) hx hb dX4_digest_14 (by decide) (fun c_14 => ?_) (fun c_14 => ?_)
      · have c_14 : 8 ≤ k := (nI_leI (a := 8) (b := k) (by omega) (by omega)).mp c_14
        have h9k : k = 8 := by omega
        rw [h9k] at hl
        obtain ⟨D8, hd8⟩ : ∃ z9 : Int64, mxF (fun k => nI (sNum (w0, w1, bf, ho, un) k)) 8 983 = z9 := ⟨_, rfl⟩
        rw [hd8] at hl
        refine lv_iconst (v := nI 0) hx hb dX4_digest_36 (by decide) ?_
        refine lv_istore_n (lv' := [(3, .int (nI 0)), (0, .ref q0), (1, .long D8)]) hx hb dX4_digest_37 rfl hl (by decide) rfl (fun ls hl => ?_)
        have loop_38 : ∀ (fu_38 : Nat) (n : Nat), n ≤ 120 → 120 < n + fu_38 → ∀ (H : Heap) (locs : List Loc) (ls : Array Slot), va_P G.1 vwCl [kO q0 4 [.int (nI 0), .ref q1, .ref q2, .ref q3, .ref q4, .ref q5, .ref q6], kC G q1 8 (nR (peF w0 w1)), kC G q2 120 (nR (knF w0 w1)), kC G q3 120 (nR (plF w0 w1)), kC G q4 80 (nR ru), kC G q5 8 (nR bf), kC G q6 2 (nR (nuF ho un))] H → va_D A [kO q0 4 [.int (nI 0), .ref q1, .ref q2, .ref q3, .ref q4, .ref q5, .ref q6], kC G q1 8 (nR (peF w0 w1)), kC G q2 120 (nR (knF w0 w1)), kC G q3 120 (nR (plF w0 w1)), kC G q4 80 (nR ru), kC G q5 8 (nR bf), kC G q6 2 (nR (nuF ho un))] → va_S A s.heap H locs → lv_has ls 7 [(0, .ref q0), (1, .long (cdG (w0, w1, bf, ho, un) (n) D8)), (3, .int (nI n))] → W p l e ({ frames := 4, cells := 0, slots := 0, locals := 94 } : Room) s m args below meth c H locs 0 0 Qs (F0 m 38 ls []) := by
          intro fu_38
          induction fu_38 with
          | zero =>
            intro n hn hf
            exact absurd hf (by omega)
          | succ fu_38 ih_38 =>
            intro n hn hf H locs ls hP hD hS hl
            refine lv_iload_n hx hb dX4_digest_38 rfl (lv_at hl 2 rfl) ?_
            refine lv_bipush (v := nI 120) hx hb dX4_digest_39 (by decide) ?_
            refine lv_icmp_ge (tgt := 92) hx hb dX4_digest_41 (by decide) (fun c_41 => ?_) (fun c_41 => ?_)
            · have c_41 : 120 ≤ n := (nI_leI (a := 120) (b := n) (by omega) (by omega)).mp c_41
              have h9k : n = 120 := by omega
              rw [h9k] at hl
              obtain ⟨D9, hd9⟩ : ∃ z9 : Int64, cdG (w0, w1, bf, ho, un) (120) D8 = z9 := ⟨_, rfl⟩
              rw [hd9] at hl
              refine lv_iconst (v := nI 0) hx hb dX4_digest_92 (by decide) ?_
              refine lv_istore_n (lv' := [(3, .int (nI 0)), (0, .ref q0), (1, .long D9)]) hx hb dX4_digest_93 rfl hl (by decide) rfl (fun ls hl => ?_)
              refine lv_iload_n hx hb dX4_digest_94 rfl (lv_at hl 0 rfl) ?_
              refine lv_iconst (v := nI 2) hx hb dX4_digest_95 (by decide) ?_
              refine lv_icmp_ge (tgt := 180) hx hb dX4_digest_96 (by decide) (fun c_96 => absurd c_96 (by decide)) (fun c_96 => ?_)
              refine lv_iconst (v := nI 0) hx hb dX4_digest_99 (by decide) ?_
              refine lv_istore (lv' := [(4, .int (nI 0)), (3, .int (nI 0)), (0, .ref q0), (1, .long D9)]) hx hb dX4_digest_100 hl (by decide) rfl (fun ls hl => ?_)
              have loop_1020 : ∀ (fu_102 : Nat) (k : Nat), k ≤ 7 → 7 < k + fu_102 → ∀ (H : Heap) (locs : List Loc) (ls : Array Slot), va_P G.1 vwCl [kO q0 4 [.int (nI 0), .ref q1, .ref q2, .ref q3, .ref q4, .ref q5, .ref q6], kC G q1 8 (nR (peF w0 w1)), kC G q2 120 (nR (knF w0 w1)), kC G q3 120 (nR (plF w0 w1)), kC G q4 80 (nR ru), kC G q5 8 (nR bf), kC G q6 2 (nR (nuF ho un))] H → va_D A [kO q0 4 [.int (nI 0), .ref q1, .ref q2, .ref q3, .ref q4, .ref q5, .ref q6], kC G q1 8 (nR (peF w0 w1)), kC G q2 120 (nR (knF w0 w1)), kC G q3 120 (nR (plF w0 w1)), kC G q4 80 (nR ru), kC G q5 8 (nR bf), kC G q6 2 (nR (nuF ho un))] → va_S A s.heap H locs → lv_has ls 7 [(0, .ref q0), (1, .long (mxF (wNumW 0 w0) k (D9))), (3, .int (nI 0)), (4, .int (nI k))] → W p l e ({ frames := 4, cells := 0, slots := 0, locals := 94 } : Room) s m args below meth c H locs 0 0 Qs (F0 m 102 ls []) := by
                intro fu_102
                induction fu_102 with
                | zero =>
                  intro k hk hf
                  exact absurd hf (by omega)
                | succ fu_102 ih_102 =>
                  intro k hk hf H locs ls hP hD hS hl
                  refine lv_iload hx hb dX4_digest_102 (lv_at hl 3 rfl) ?_
                  refine lv_bipush (v := nI 7) hx hb dX4_digest_104 (by decide) ?_
                  refine lv_icmp_ge (tgt := 130) hx hb dX4_digest_106 (by decide) (fun c_106 => ?_) (fun c_106 => ?_)
                  · have c_106 : 7 ≤ k := (nI_leI (a := 7) (b := k) (by omega) (by omega)).mp c_106
                    have h9k : k = 7 := by omega
                    rw [h9k] at hl
                    obtain ⟨E90, he90⟩ : ∃ z9 : Int64, mxF (wNumW 0 w0) 7 D9 = z9 := ⟨_, rfl⟩
                    rw [he90] at hl
                    refine lv_iconst (v := nI 0) hx hb dX4_digest_130 (by decide) ?_
                    refine lv_istore (lv' := [(4, .int (nI 0)), (0, .ref q0), (1, .long E90), (3, .int (nI 0))]) hx hb dX4_digest_131 hl (by decide) rfl (fun ls hl => ?_)
                    have loop_1330 : ∀ (fu_133 : Nat) (k : Nat), k ≤ 2 * vT w0 → 2 * vT w0 < k + fu_133 → ∀ (H : Heap) (locs : List Loc) (ls : Array Slot), va_P G.1 vwCl [kO q0 4 [.int (nI 0), .ref q1, .ref q2, .ref q3, .ref q4, .ref q5, .ref q6], kC G q1 8 (nR (peF w0 w1)), kC G q2 120 (nR (knF w0 w1)), kC G q3 120 (nR (plF w0 w1)), kC G q4 80 (nR ru), kC G q5 8 (nR bf), kC G q6 2 (nR (nuF ho un))] H → va_D A [kO q0 4 [.int (nI 0), .ref q1, .ref q2, .ref q3, .ref q4, .ref q5, .ref q6], kC G q1 8 (nR (peF w0 w1)), kC G q2 120 (nR (knF w0 w1)), kC G q3 120 (nR (plF w0 w1)), kC G q4 80 (nR ru), kC G q5 8 (nR bf), kC G q6 2 (nR (nuF ho un))] → va_S A s.heap H locs → lv_has ls 7 [(0, .ref q0), (1, .long (mxF (fun i => nI (rkF w0 i)) k E90)), (3, .int (nI 0)), (4, .int (nI k))] → W p l e ({ frames := 4, cells := 0, slots := 0, locals := 94 } : Room) s m args below meth c H locs 0 0 Qs (F0 m 133 ls []) := by
                      intro fu_133
                      induction fu_133 with
                      | zero =>
                        intro k hk hf
                        exact absurd hf (by omega)
                      | succ fu_133 ih_133 =>
                        intro k hk hf H locs ls hP hD hS hl
                        refine lv_iload hx hb dX4_digest_133 (lv_at hl 3 rfl) ?_
                        refine lv_iconst (v := nI 2) hx hb dX4_digest_135 (by decide) ?_
                        refine lv_aload_n hx hb dX4_digest_136 rfl (lv_at hl 0 rfl) ?_
                        refine lv_iload_n hx hb dX4_digest_137 rfl (lv_at hl 2 rfl) ?_
                        refine lv_iconst (v := nI 2) hx hb dX4_digest_138 (by decide) ?_
                        refine k_calli (fun _ => [kO q0 4 [.int (nI 0), .ref q1, .ref q2, .ref q3, .ref q4, .ref q5, .ref q6], kC G q1 8 (nR (peF w0 w1)), kC G q2 120 (nR (knF w0 w1)), kC G q3 120 (nR (plF w0 w1)), kC G q4 80 (nR ru), kC G q5 8 (nR bf), kC G q6 2 (nR (nuF ho un))]) [kC G q2 120 (nR (knF w0 w1)), kC G q3 120 (nR (plF w0 w1)), kC G q4 80 (nR ru), kC G q5 8 (nR bf), kC G q6 2 (nR (nuF ho un))] (k_runV (As := [.int (nI 0), .int (nI 2)]) (rest := [.int (nI 2), .int (nI k)]) (wc := [kO q0 4 [.int (nI 0), .ref q1, .ref q2, .ref q3, .ref q4, .ref q5, .ref q6], kC G q1 8 (nR (peF w0 w1))]) ⟨hx, hb, hml, hown, hts⟩ (m_pe l G q0 q1 q2 q3 q4 q5 q6 0 (peF w0 w1) 0 2 (by decide) (by decide)) (cwV 2 hts gX4_digest_X4_pe rfl rfl rfl (by decide +kernel) ⟨Nat.le_of_ble_eq_true rfl, Nat.le_of_ble_eq_true rfl⟩) hK hZ hP hD hS hA [0, 1] rfl rfl 0 4 rfl rfl rfl rfl hl.1 rfl (Nat.le_of_ble_eq_true rfl) dX4_digest_139 ⟨Nat.le_of_ble_eq_true rfl, Nat.le_of_ble_eq_true rfl⟩) hP hD hS hA [0, 1] [2, 3, 4, 5, 6] [5, 6, 0, 1, 2, 3, 4] rfl rfl rfl (by decide) (fun _ => rfl) rfl (fun r_139 u_139 H locs hp_139 hP hD hS => ?_)
                        have hp_139 : r_139 = nI (vT w0) := hp_139
                        subst hp_139
                        refine lv_imul hx hb dX4_digest_142 ?_
                        refine lv_topi (fun y_1 hy_1 => ?_)
                        obtain rfl : y_1 = nI (2 * (vT w0)) := hy_1.trans (pk_mul 2 (vT w0))
                        refine lv_icmp_ge (tgt := 174) hx hb dX4_digest_143 (by decide) (fun c_143 => ?_) (fun c_143 => ?_)
                        · have c_143 : (2 * (vT w0)) ≤ k := (nI_leI (a := (2 * (vT w0))) (b := k) (by omega) (by omega)).mp c_143
                          have h9k : k = 2 * vT w0 := by omega
                          rw [h9k, rk_mrF, ← he90] at hl
                          rw [show mrF (vC w0) (vN w0) (vT w0) (mxF (wNumW 0 w0) 7 (D9)) = wDg 0 w0 (D9) from rfl] at hl
                          obtain ⟨F90, hf90⟩ : ∃ z9 : Int64, wDg 0 w0 (D9) = z9 := ⟨_, rfl⟩
                          rw [hf90] at hl
                          refine lv_iinc (v := nI 1) (lv' := [(3, .int (nI 1)), (0, .ref q0), (1, .long F90), (4, .int (nI (2 * vT w0)))]) hx hb dX4_digest_174 hl (k := 2) rfl (by decide) (by decide) rfl (fun ls hl => ?_)
                          refine lv_goto (tgt := 94) hx hb dX4_digest_177 (by decide) ?_
                          refine lv_iload_n hx hb dX4_digest_94 rfl (lv_at hl 0 rfl) ?_
                          refine lv_iconst (v := nI 2) hx hb dX4_digest_95 (by decide) ?_
                          refine lv_icmp_ge (tgt := 180) hx hb dX4_digest_96 (by decide) (fun c_96 => absurd c_96 (by decide)) (fun c_96 => ?_)
                          refine lv_iconst (v := nI 0) hx hb dX4_digest_99 (by decide) ?_
                          refine lv_istore (lv' := [(4, .int (nI 0)), (3, .int (nI 1)), (0, .ref q0), (1, .long F90)]) hx hb dX4_digest_100 hl (by decide) rfl (fun ls hl => ?_)
                          have loop_1021 : ∀ (fu_102 : Nat) (k : Nat), k ≤ 7 → 7 < k + fu_102 → ∀ (H : Heap) (locs : List Loc) (ls : Array Slot), va_P G.1 vwCl [kO q0 4 [.int (nI 0), .ref q1, .ref q2, .ref q3, .ref q4, .ref q5, .ref q6], kC G q1 8 (nR (peF w0 w1)), kC G q2 120 (nR (knF w0 w1)), kC G q3 120 (nR (plF w0 w1)), kC G q4 80 (nR ru), kC G q5 8 (nR bf), kC G q6 2 (nR (nuF ho un))] H → va_D A [kO q0 4 [.int (nI 0), .ref q1, .ref q2, .ref q3, .ref q4, .ref q5, .ref q6], kC G q1 8 (nR (peF w0 w1)), kC G q2 120 (nR (knF w0 w1)), kC G q3 120 (nR (plF w0 w1)), kC G q4 80 (nR ru), kC G q5 8 (nR bf), kC G q6 2 (nR (nuF ho un))] → va_S A s.heap H locs → lv_has ls 7 [(0, .ref q0), (1, .long (mxF (wNumW 1 w1) k (F90))), (3, .int (nI 1)), (4, .int (nI k))] → W p l e ({ frames := 4, cells := 0, slots := 0, locals := 94 } : Room) s m args below meth c H locs 0 0 Qs (F0 m 102 ls []) := by
                            intro fu_102
                            induction fu_102 with
                            | zero =>
                              intro k hk hf
                              exact absurd hf (by omega)
                            | succ fu_102 ih_102 =>
                              intro k hk hf H locs ls hP hD hS hl
                              refine lv_iload hx hb dX4_digest_102 (lv_at hl 3 rfl) ?_
                              refine lv_bipush (v := nI 7) hx hb dX4_digest_104 (by decide) ?_
                              refine lv_icmp_ge (tgt := 130) hx hb dX4_digest_106 (by decide) (fun c_106 => ?_) (fun c_106 => ?_)
                              · have c_106 : 7 ≤ k := (nI_leI (a := 7) (b := k) (by omega) (by omega)).mp c_106
                                have h9k : k = 7 := by omega
                                rw [h9k] at hl
                                obtain ⟨E91, he91⟩ : ∃ z9 : Int64, mxF (wNumW 1 w1) 7 F90 = z9 := ⟨_, rfl⟩
                                rw [he91] at hl
                                refine lv_iconst (v := nI 0) hx hb dX4_digest_130 (by decide) ?_
                                refine lv_istore (lv' := [(4, .int (nI 0)), (0, .ref q0), (1, .long E91), (3, .int (nI 1))]) hx hb dX4_digest_131 hl (by decide) rfl (fun ls hl => ?_)
                                have loop_1331 : ∀ (fu_133 : Nat) (k : Nat), k ≤ 2 * vT w1 → 2 * vT w1 < k + fu_133 → ∀ (H : Heap) (locs : List Loc) (ls : Array Slot), va_P G.1 vwCl [kO q0 4 [.int (nI 0), .ref q1, .ref q2, .ref q3, .ref q4, .ref q5, .ref q6], kC G q1 8 (nR (peF w0 w1)), kC G q2 120 (nR (knF w0 w1)), kC G q3 120 (nR (plF w0 w1)), kC G q4 80 (nR ru), kC G q5 8 (nR bf), kC G q6 2 (nR (nuF ho un))] H → va_D A [kO q0 4 [.int (nI 0), .ref q1, .ref q2, .ref q3, .ref q4, .ref q5, .ref q6], kC G q1 8 (nR (peF w0 w1)), kC G q2 120 (nR (knF w0 w1)), kC G q3 120 (nR (plF w0 w1)), kC G q4 80 (nR ru), kC G q5 8 (nR bf), kC G q6 2 (nR (nuF ho un))] → va_S A s.heap H locs → lv_has ls 7 [(0, .ref q0), (1, .long (mxF (fun i => nI (rkF w1 i)) k E91)), (3, .int (nI 1)), (4, .int (nI k))] → W p l e ({ frames := 4, cells := 0, slots := 0, locals := 94 } : Room) s m args below meth c H locs 0 0 Qs (F0 m 133 ls []) := by
                                  intro fu_133
                                  induction fu_133 with
                                  | zero =>
                                    intro k hk hf
                                    exact absurd hf (by omega)
                                  | succ fu_133 ih_133 =>
                                    intro k hk hf H locs ls hP hD hS hl
                                    refine lv_iload hx hb dX4_digest_133 (lv_at hl 3 rfl) ?_
                                    refine lv_iconst (v := nI 2) hx hb dX4_digest_135 (by decide) ?_
                                    refine lv_aload_n hx hb dX4_digest_136 rfl (lv_at hl 0 rfl) ?_
                                    refine lv_iload_n hx hb dX4_digest_137 rfl (lv_at hl 2 rfl) ?_
                                    refine lv_iconst (v := nI 2) hx hb dX4_digest_138 (by decide) ?_
                                    refine k_calli (fun _ => [kO q0 4 [.int (nI 0), .ref q1, .ref q2, .ref q3, .ref q4, .ref q5, .ref q6], kC G q1 8 (nR (peF w0 w1)), kC G q2 120 (nR (knF w0 w1)), kC G q3 120 (nR (plF w0 w1)), kC G q4 80 (nR ru), kC G q5 8 (nR bf), kC G q6 2 (nR (nuF ho un))]) [kC G q2 120 (nR (knF w0 w1)), kC G q3 120 (nR (plF w0 w1)), kC G q4 80 (nR ru), kC G q5 8 (nR bf), kC G q6 2 (nR (nuF ho un))] (k_runV (As := [.int (nI 1), .int (nI 2)]) (rest := [.int (nI 2), .int (nI k)]) (wc := [kO q0 4 [.int (nI 0), .ref q1, .ref q2, .ref q3, .ref q4, .ref q5, .ref q6], kC G q1 8 (nR (peF w0 w1))]) ⟨hx, hb, hml, hown, hts⟩ (m_pe l G q0 q1 q2 q3 q4 q5 q6 0 (peF w0 w1) 1 2 (by decide) (by decide)) (cwV 2 hts gX4_digest_X4_pe rfl rfl rfl (by decide +kernel) ⟨Nat.le_of_ble_eq_true rfl, Nat.le_of_ble_eq_true rfl⟩) hK hZ hP hD hS hA [0, 1] rfl rfl 0 4 rfl rfl rfl rfl hl.1 rfl (Nat.le_of_ble_eq_true rfl) dX4_digest_139 ⟨Nat.le_of_ble_eq_true rfl, Nat.le_of_ble_eq_true rfl⟩) hP hD hS hA [0, 1] [2, 3, 4, 5, 6] [5, 6, 0, 1, 2, 3, 4] rfl rfl rfl (by decide) (fun _ => rfl) rfl (fun r_139 u_139 H locs hp_139 hP hD hS => ?_)
                                    have hp_139 : r_139 = nI (vT w1) := hp_139
                                    subst hp_139
                                    refine lv_imul hx hb dX4_digest_142 ?_
                                    refine lv_topi (fun y_2 hy_2 => ?_)
                                    obtain rfl : y_2 = nI (2 * (vT w1)) := hy_2.trans (pk_mul 2 (vT w1))
                                    refine lv_icmp_ge (tgt := 174) hx hb dX4_digest_143 (by decide) (fun c_143 => ?_) (fun c_143 => ?_)
                                    · have c_143 : (2 * (vT w1)) ≤ k := (nI_leI (a := (2 * (vT w1))) (b := k) (by omega) (by omega)).mp c_143
                                      have h9k : k = 2 * vT w1 := by omega
                                      rw [h9k, rk_mrF, ← he91] at hl
                                      rw [show mrF (vC w1) (vN w1) (vT w1) (mxF (wNumW 1 w1) 7 (F90)) = wDg 1 w1 (F90) from rfl] at hl
                                      obtain ⟨F91, hf91⟩ : ∃ z9 : Int64, wDg 1 w1 (F90) = z9 := ⟨_, rfl⟩
                                      rw [hf91] at hl
                                      refine lv_iinc (v := nI 2) (lv' := [(3, .int (nI 2)), (0, .ref q0), (1, .long F91), (4, .int (nI (2 * vT w1)))]) hx hb dX4_digest_174 hl (k := 2) rfl (by decide) (by decide) rfl (fun ls hl => ?_)
                                      refine lv_goto (tgt := 94) hx hb dX4_digest_177 (by decide) ?_
                                      refine lv_iload_n hx hb dX4_digest_94 rfl (lv_at hl 0 rfl) ?_
                                      refine lv_iconst (v := nI 2) hx hb dX4_digest_95 (by decide) ?_
                                      refine lv_icmp_ge (tgt := 180) hx hb dX4_digest_96 (by decide) (fun c_96 => ?_) (fun c_96 => absurd c_96 (by decide))
                                      refine lv_aload_n hx hb dX4_digest_180 rfl (lv_at hl 1 rfl) ?_
                                      refine va_get (D := G.1) (ci := 4) (v := .ref q5) (C := RX4) (T := TX4) (N := 7) hx hb hts hq_0 hown hK.1 hP 0 rfl rfl 5 (by decide) hq_3 (fun _ h9 => h9) rfl dX4_digest_181 ?_
                                      refine lv_astore_n (lv' := [(3, .ref q5), (0, .ref q0), (1, .long F91), (4, .int (nI (2 * vT w1)))]) hx hb dX4_digest_184 rfl hl (by decide) rfl (fun ls hl => ?_)
                                      refine lv_aload_n hx hb dX4_digest_185 rfl (lv_at hl 0 rfl) ?_
                                      refine va_alen (D := G.1) (v := nI 8) hx hb hK.1 hP 5 0 rfl rfl rfl dX4_digest_186 ?_
                                      refine lv_istore (lv' := [(4, .int (nI 8)), (3, .ref q5), (0, .ref q0), (1, .long F91)]) hx hb dX4_digest_187 hl (by decide) rfl (fun ls hl => ?_)
                                      refine lv_iconst (v := nI 0) hx hb dX4_digest_189 (by decide) ?_
                                      refine lv_istore (lv' := [(5, .int (nI 0)), (4, .int (nI 8)), (3, .ref q5), (0, .ref q0), (1, .long F91)]) hx hb dX4_digest_190 hl (by decide) rfl (fun ls hl => ?_)
                                      have loop_192 : ∀ (fu_192 : Nat) (k : Nat), k ≤ 8 → 8 < k + fu_192 → ∀ (H : Heap) (locs : List Loc) (ls : Array Slot), va_P G.1 vwCl [kO q0 4 [.int (nI 0), .ref q1, .ref q2, .ref q3, .ref q4, .ref q5, .ref q6], kC G q1 8 (nR (peF w0 w1)), kC G q2 120 (nR (knF w0 w1)), kC G q3 120 (nR (plF w0 w1)), kC G q4 80 (nR ru), kC G q5 8 (nR bf), kC G q6 2 (nR (nuF ho un))] H → va_D A [kO q0 4 [.int (nI 0), .ref q1, .ref q2, .ref q3, .ref q4, .ref q5, .ref q6], kC G q1 8 (nR (peF w0 w1)), kC G q2 120 (nR (knF w0 w1)), kC G q3 120 (nR (plF w0 w1)), kC G q4 80 (nR ru), kC G q5 8 (nR bf), kC G q6 2 (nR (nuF ho un))] → va_S A s.heap H locs → lv_has ls 7 [(0, .ref q0), (1, .long (mxF (fun c => nI (bf c)) k (F91))), (3, .ref q5), (4, .int (nI 8)), (5, .int (nI k))] → W p l e ({ frames := 4, cells := 0, slots := 0, locals := 94 } : Room) s m args below meth c H locs 0 0 Qs (F0 m 192 ls []) := by
                                        intro fu_192
                                        induction fu_192 with
                                        | zero =>
                                          intro k hk hf
                                          exact absurd hf (by omega)
                                        | succ fu_192 ih_192 =>
                                          intro k hk hf H locs ls hP hD hS hl
                                          refine lv_iload hx hb dX4_digest_192 (lv_at hl 4 rfl) ?_
                                          refine lv_iload hx hb dX4_digest_194 (lv_at hl 3 rfl) ?_
                                          refine lv_icmp_ge (tgt := 221) hx hb dX4_digest_196 (by decide) (fun c_196 => ?_) (fun c_196 => ?_)
                                          · have c_196 : 8 ≤ k := (nI_leI (a := 8) (b := k) (by omega) (by omega)).mp c_196
                                            have h9k : k = 8 := by omega
                                            rw [h9k] at hl
                                            refine lv_lload_n hx hb dX4_digest_221 rfl (lv_at hl 1 rfl) ?_
                                            exact k_lret (ws := [kO q0 4 [.int (nI th), .ref q1, .ref q2, .ref q3, .ref q4, .ref q5, .ref q6], kC G q1 8 (nR (peF w0 w1)), kC G q2 120 (nR (knF w0 w1)), kC G q3 120 (nR (plF w0 w1)), kC G q4 80 (nR ru), kC G q5 8 (nR bf), kC G q6 2 (nR (nuF ho un))]) (()) hx hb hr hlocks hP hD hS hAe hQ (Nat.le_of_ble_eq_true rfl) (Nat.le_of_ble_eq_true rfl) dX4_digest_222 (rfl) (by unfold aDig; rw [← hf91, ← hf90, ← hd9, ← hd8])
                                          · have c_196 : ¬ (8 ≤ k) := fun h9 => c_196 ((nI_leI (a := 8) (b := k) (by omega) (by omega)).mpr h9)
                                            refine lv_aload_n hx hb dX4_digest_199 rfl (lv_at hl 2 rfl) ?_
                                            refine lv_iload hx hb dX4_digest_200 (lv_at hl 4 rfl) ?_
                                            have hi_3 : k < 8 := by omega
                                            refine va_iald (D := G.1) hx hb hK.1 hP 5 0 rfl rfl (vp_in_nI hi_3 (by omega)) dX4_digest_202 ?_
                                            refine lv_topi (fun y_4 hy_4 => ?_)
                                            obtain rfl : y_4 = nI (bf k) := hy_4.trans (nR_at (by omega))
                                            refine lv_istore (lv' := [(6, .int (nI (bf k))), (0, .ref q0), (1, .long (mxF (fun c => nI (bf c)) k (F91))), (3, .ref q5), (4, .int (nI 8)), (5, .int (nI k))]) hx hb dX4_digest_203 hl (by decide) rfl (fun ls hl => ?_)
                                            refine lv_lload_n hx hb dX4_digest_205 rfl (lv_at hl 2 rfl) ?_
                                            refine W.ldc2 hx hb hown hq_4 rfl dX4_digest_206 ?_
                                            refine W.eq (g2 := F0 m 209 ls (.long 31 :: [.long (mxF (fun c => nI (bf c)) k (F91))])) rfl ?_
                                            refine lv_lmul hx hb dX4_digest_209 ?_
                                            refine lv_iload hx hb dX4_digest_210 (lv_at hl 0 rfl) ?_
                                            refine lv_i2l (v := (nI (bf k)).toInt64) hx hb dX4_digest_212 rfl ?_
                                            refine lv_ladd hx hb dX4_digest_213 ?_
                                            refine lv_topl (fun y_5 hy_5 => ?_)
                                            obtain rfl : y_5 = mx (mxF (fun c => nI (bf c)) k (F91)) (nI (bf k)) := hy_5.trans (rfl)
                                            refine lv_lstore_n (lv' := [(1, .long (mx (mxF (fun c => nI (bf c)) k (F91)) (nI (bf k)))), (6, .int (nI (bf k))), (0, .ref q0), (3, .ref q5), (4, .int (nI 8)), (5, .int (nI k))]) hx hb dX4_digest_214 rfl hl (by decide) rfl (fun ls hl => ?_)
                                            refine lv_iinc (v := nI (k + 1)) (lv' := [(5, .int (nI (k + 1))), (1, .long (mx (mxF (fun c => nI (bf c)) k (F91)) (nI (bf k)))), (6, .int (nI (bf k))), (0, .ref q0), (3, .ref q5), (4, .int (nI 8))]) hx hb dX4_digest_215 hl (k := 5) rfl (nI_add k 1) (by decide) rfl (fun ls hl => ?_)
                                            refine lv_goto (tgt := 192) hx hb dX4_digest_218 (by decide) ?_
                                            exact ih_192 (k + 1) (by omega) (by omega) _ _ _ hP hD hS (lv_sub hl [3, 1, 4, 5, 0] rfl)
                                      exact loop_192 9 0 (by omega) (by omega) H locs ls hP hD hS (lv_sub hl [3, 4, 2, 1, 0] rfl)
                                    · have c_143 : ¬ ((2 * (vT w1)) ≤ k) := fun h9 => c_143 ((nI_leI (a := (2 * (vT w1))) (b := k) (by omega) (by omega)).mpr h9)
                                      refine lv_lload_n hx hb dX4_digest_146 rfl (lv_at hl 1 rfl) ?_
                                      refine W.ldc2 hx hb hown hq_4 rfl dX4_digest_147 ?_
                                      refine W.eq (g2 := F0 m 150 ls (.long 31 :: [.long (mxF (fun i => nI (rkF w1 i)) k E91)])) rfl ?_
                                      refine lv_lmul hx hb dX4_digest_150 ?_
                                      refine lv_aload_n hx hb dX4_digest_151 rfl (lv_at hl 0 rfl) ?_
                                      refine va_get (D := G.1) (ci := 4) (v := .ref q4) (C := RX4) (T := TX4) (N := 7) hx hb hts hq_0 hown hK.1 hP 0 rfl rfl 4 (by decide) hq_5 (fun _ h9 => h9) rfl dX4_digest_152 ?_
                                      refine lv_aload_n hx hb dX4_digest_155 rfl (lv_at hl 0 rfl) ?_
                                      refine lv_iload_n hx hb dX4_digest_156 rfl (lv_at hl 2 rfl) ?_
                                      refine lv_iconst (v := nI 0) hx hb dX4_digest_157 (by decide) ?_
                                      refine k_calli (fun _ => [kO q0 4 [.int (nI 0), .ref q1, .ref q2, .ref q3, .ref q4, .ref q5, .ref q6], kC G q1 8 (nR (peF w0 w1)), kC G q2 120 (nR (knF w0 w1)), kC G q3 120 (nR (plF w0 w1)), kC G q4 80 (nR ru), kC G q5 8 (nR bf), kC G q6 2 (nR (nuF ho un))]) [kC G q1 8 (nR (peF w0 w1)), kC G q2 120 (nR (knF w0 w1)), kC G q3 120 (nR (plF w0 w1)), kC G q4 80 (nR ru), kC G q5 8 (nR bf), kC G q6 2 (nR (nuF ho un))] (k_runV (As := [.int (nI 1), .int (nI 0)]) (rest := [.ref q4, .long ((mxF (fun i => nI (rkF w1 i)) k E91) * 31)]) (wc := [kO q0 4 [.int (nI 0), .ref q1, .ref q2, .ref q3, .ref q4, .ref q5, .ref q6]]) ⟨hx, hb, hml, hown, hts⟩ (m_runAt l G q0 q1 q2 q3 q4 q5 q6 0 1 0 ) (cwV 2 hts gX4_digest_X4_runAt rfl rfl rfl (by decide +kernel) ⟨Nat.le_of_ble_eq_true rfl, Nat.le_of_ble_eq_true rfl⟩) hK hZ hP hD hS hA [0] rfl rfl 0 4 rfl rfl rfl rfl hl.1 rfl (Nat.le_of_ble_eq_true rfl) dX4_digest_158 ⟨Nat.le_of_ble_eq_true rfl, Nat.le_of_ble_eq_true rfl⟩) hP hD hS hA [0] [1, 2, 3, 4, 5, 6] [6, 0, 1, 2, 3, 4, 5] rfl rfl rfl (by decide) (fun _ => rfl) rfl (fun r_158 u_158 H locs hp_158 hP hD hS => ?_)
                                      have hp_158 : r_158 = nI (2 * (20 + 0)) := hp_158
                                      subst hp_158
                                      refine lv_iload hx hb dX4_digest_161 (lv_at hl 3 rfl) ?_
                                      refine lv_iadd hx hb dX4_digest_163 ?_
                                      refine lv_topi (fun y_6 hy_6 => ?_)
                                      obtain rfl : y_6 = nI ((2 * (20 + 0)) + k) := hy_6.trans (nI_add (2 * (20 + 0)) k)
                                      have hi_7 : ((2 * (20 + 0)) + k) < 80 := by omega
                                      refine va_iald (D := G.1) hx hb hK.1 hP 4 0 rfl rfl (vp_in_nI hi_7 (by omega)) dX4_digest_164 ?_
                                      refine lv_topi (fun y_8 hy_8 => ?_)
                                      obtain rfl : y_8 = nI (ru ((2 * (20 + 0)) + k)) := hy_8.trans (nR_at (by omega))
                                      refine lv_topi (fun y_9 hy_9 => ?_)
                                      obtain rfl : y_9 = nI (rkF w1 k) := hy_9.trans (congrArg nI (rk_1 hru (by omega)))
                                      refine lv_i2l (v := (nI (rkF w1 k)).toInt64) hx hb dX4_digest_165 rfl ?_
                                      refine lv_ladd hx hb dX4_digest_166 ?_
                                      refine lv_topl (fun y_10 hy_10 => ?_)
                                      obtain rfl : y_10 = mx (mxF (fun i => nI (rkF w1 i)) k E91) (nI (rkF w1 k)) := hy_10.trans (rfl)
                                      refine lv_lstore_n (lv' := [(1, .long (mx (mxF (fun i => nI (rkF w1 i)) k E91) (nI (rkF w1 k)))), (0, .ref q0), (3, .int (nI 1)), (4, .int (nI k))]) hx hb dX4_digest_167 rfl hl (by decide) rfl (fun ls hl => ?_)
                                      refine lv_iinc (v := nI (k + 1)) (lv' := [(4, .int (nI (k + 1))), (1, .long (mx (mxF (fun i => nI (rkF w1 i)) k E91) (nI (rkF w1 k)))), (0, .ref q0), (3, .int (nI 1))]) hx hb dX4_digest_168 hl (k := 3) rfl (nI_add k 1) (by decide) rfl (fun ls hl => ?_)
                                      refine lv_goto (tgt := 133) hx hb dX4_digest_171 (by decide) ?_
                                      exact ih_133 (k + 1) (by omega) (by omega) _ _ _ hP hD hS (lv_sub hl [2, 1, 3, 0] rfl)
                                exact loop_1331 (2 * vT w1 + 1) 0 (by omega) (by omega) H locs ls hP hD hS (lv_sub hl [1, 2, 3, 0] rfl)
                              · have c_106 : ¬ (7 ≤ k) := fun h9 => c_106 ((nI_leI (a := 7) (b := k) (by omega) (by omega)).mpr h9)
                                refine lv_lload_n hx hb dX4_digest_109 rfl (lv_at hl 1 rfl) ?_
                                refine W.ldc2 hx hb hown hq_4 rfl dX4_digest_110 ?_
                                refine W.eq (g2 := F0 m 113 ls (.long 31 :: [.long (mxF (wNumW 1 w1) k (F90))])) rfl ?_
                                refine lv_lmul hx hb dX4_digest_113 ?_
                                refine lv_aload_n hx hb dX4_digest_114 rfl (lv_at hl 0 rfl) ?_
                                refine lv_iload_n hx hb dX4_digest_115 rfl (lv_at hl 2 rfl) ?_
                                refine lv_iload hx hb dX4_digest_116 (lv_at hl 3 rfl) ?_
                                refine k_calli (fun _ => [kO q0 4 [.int (nI 0), .ref q1, .ref q2, .ref q3, .ref q4, .ref q5, .ref q6], kC G q1 8 (nR (peF w0 w1)), kC G q2 120 (nR (knF w0 w1)), kC G q3 120 (nR (plF w0 w1)), kC G q4 80 (nR ru), kC G q5 8 (nR bf), kC G q6 2 (nR (nuF ho un))]) [] (k_runV (As := [.int (nI 1), .int (nI k)]) (rest := [.long ((mxF (wNumW 1 w1) k (F90)) * 31)]) (wc := [kO q0 4 [.int (nI 0), .ref q1, .ref q2, .ref q3, .ref q4, .ref q5, .ref q6], kC G q1 8 (nR (peF w0 w1)), kC G q2 120 (nR (knF w0 w1)), kC G q3 120 (nR (plF w0 w1)), kC G q4 80 (nR ru), kC G q5 8 (nR bf), kC G q6 2 (nR (nuF ho un))]) ⟨hx, hb, hml, hown, hts⟩ (m_weaverTold1 l G q0 q1 q2 q3 q4 q5 q6 w0 w1 bf ho un ru 0 k (by omega) h0 h1 hru) (cwV 2 hts gX4_digest_X4_weaverTold rfl rfl rfl (by decide +kernel) ⟨Nat.le_of_ble_eq_true rfl, Nat.le_of_ble_eq_true rfl⟩) hK hZ hP hD hS hA [0, 1, 2, 3, 4, 5, 6] rfl rfl 0 4 rfl rfl rfl rfl hl.1 rfl (Nat.le_of_ble_eq_true rfl) dX4_digest_118 ⟨Nat.le_of_ble_eq_true rfl, Nat.le_of_ble_eq_true rfl⟩) hP hD hS hA [0, 1, 2, 3, 4, 5, 6] [] [0, 1, 2, 3, 4, 5, 6] rfl rfl rfl (by decide) (fun _ => rfl) rfl (fun r_118 u_118 H locs hp_118 hP hD hS => ?_)
                                have hp_118 : r_118 = wNumW 1 w1 k := hp_118
                                subst hp_118
                                refine lv_i2l (v := (wNumW 1 w1 k).toInt64) hx hb dX4_digest_121 rfl ?_
                                refine lv_ladd hx hb dX4_digest_122 ?_
                                refine lv_topl (fun y_11 hy_11 => ?_)
                                obtain rfl : y_11 = mx (mxF (wNumW 1 w1) k (F90)) (wNumW 1 w1 k) := hy_11.trans (rfl)
                                refine lv_lstore_n (lv' := [(1, .long (mx (mxF (wNumW 1 w1) k (F90)) (wNumW 1 w1 k))), (0, .ref q0), (3, .int (nI 1)), (4, .int (nI k))]) hx hb dX4_digest_123 rfl hl (by decide) rfl (fun ls hl => ?_)
                                refine lv_iinc (v := nI (k + 1)) (lv' := [(4, .int (nI (k + 1))), (1, .long (mx (mxF (wNumW 1 w1) k (F90)) (wNumW 1 w1 k))), (0, .ref q0), (3, .int (nI 1))]) hx hb dX4_digest_124 hl (k := 3) rfl (nI_add k 1) (by decide) rfl (fun ls hl => ?_)
                                refine lv_goto (tgt := 102) hx hb dX4_digest_127 (by decide) ?_
                                exact ih_102 (k + 1) (by omega) (by omega) _ _ _ hP hD hS (lv_sub hl [2, 1, 3, 0] rfl)
                          exact loop_1021 8 0 (by omega) (by omega) H locs ls hP hD hS (lv_sub hl [2, 3, 1, 0] rfl)
                        · have c_143 : ¬ ((2 * (vT w0)) ≤ k) := fun h9 => c_143 ((nI_leI (a := (2 * (vT w0))) (b := k) (by omega) (by omega)).mpr h9)
                          refine lv_lload_n hx hb dX4_digest_146 rfl (lv_at hl 1 rfl) ?_
                          refine W.ldc2 hx hb hown hq_4 rfl dX4_digest_147 ?_
                          refine W.eq (g2 := F0 m 150 ls (.long 31 :: [.long (mxF (fun i => nI (rkF w0 i)) k E90)])) rfl ?_
                          refine lv_lmul hx hb dX4_digest_150 ?_
                          refine lv_aload_n hx hb dX4_digest_151 rfl (lv_at hl 0 rfl) ?_
                          refine va_get (D := G.1) (ci := 4) (v := .ref q4) (C := RX4) (T := TX4) (N := 7) hx hb hts hq_0 hown hK.1 hP 0 rfl rfl 4 (by decide) hq_5 (fun _ h9 => h9) rfl dX4_digest_152 ?_
                          refine lv_aload_n hx hb dX4_digest_155 rfl (lv_at hl 0 rfl) ?_
                          refine lv_iload_n hx hb dX4_digest_156 rfl (lv_at hl 2 rfl) ?_
                          refine lv_iconst (v := nI 0) hx hb dX4_digest_157 (by decide) ?_
                          refine k_calli (fun _ => [kO q0 4 [.int (nI 0), .ref q1, .ref q2, .ref q3, .ref q4, .ref q5, .ref q6], kC G q1 8 (nR (peF w0 w1)), kC G q2 120 (nR (knF w0 w1)), kC G q3 120 (nR (plF w0 w1)), kC G q4 80 (nR ru), kC G q5 8 (nR bf), kC G q6 2 (nR (nuF ho un))]) [kC G q1 8 (nR (peF w0 w1)), kC G q2 120 (nR (knF w0 w1)), kC G q3 120 (nR (plF w0 w1)), kC G q4 80 (nR ru), kC G q5 8 (nR bf), kC G q6 2 (nR (nuF ho un))] (k_runV (As := [.int (nI 0), .int (nI 0)]) (rest := [.ref q4, .long ((mxF (fun i => nI (rkF w0 i)) k E90) * 31)]) (wc := [kO q0 4 [.int (nI 0), .ref q1, .ref q2, .ref q3, .ref q4, .ref q5, .ref q6]]) ⟨hx, hb, hml, hown, hts⟩ (m_runAt l G q0 q1 q2 q3 q4 q5 q6 0 0 0 ) (cwV 2 hts gX4_digest_X4_runAt rfl rfl rfl (by decide +kernel) ⟨Nat.le_of_ble_eq_true rfl, Nat.le_of_ble_eq_true rfl⟩) hK hZ hP hD hS hA [0] rfl rfl 0 4 rfl rfl rfl rfl hl.1 rfl (Nat.le_of_ble_eq_true rfl) dX4_digest_158 ⟨Nat.le_of_ble_eq_true rfl, Nat.le_of_ble_eq_true rfl⟩) hP hD hS hA [0] [1, 2, 3, 4, 5, 6] [6, 0, 1, 2, 3, 4, 5] rfl rfl rfl (by decide) (fun _ => rfl) rfl (fun r_158 u_158 H locs hp_158 hP hD hS => ?_)
                          have hp_158 : r_158 = nI (2 * (0 + 0)) := hp_158
                          subst hp_158
                          refine lv_iload hx hb dX4_digest_161 (lv_at hl 3 rfl) ?_
                          refine lv_iadd hx hb dX4_digest_163 ?_
                          refine lv_topi (fun y_12 hy_12 => ?_)
                          obtain rfl : y_12 = nI ((2 * (0 + 0)) + k) := hy_12.trans (nI_add (2 * (0 + 0)) k)
                          have hi_13 : ((2 * (0 + 0)) + k) < 80 := by omega
                          refine va_iald (D := G.1) hx hb hK.1 hP 4 0 rfl rfl (vp_in_nI hi_13 (by omega)) dX4_digest_164 ?_
                          refine lv_topi (fun y_14 hy_14 => ?_)
                          obtain rfl : y_14 = nI (ru ((2 * (0 + 0)) + k)) := hy_14.trans (nR_at (by omega))
                          refine lv_topi (fun y_15 hy_15 => ?_)
                          obtain rfl : y_15 = nI (rkF w0 k) := hy_15.trans (congrArg nI (rk_0 hru (by omega)))
                          refine lv_i2l (v := (nI (rkF w0 k)).toInt64) hx hb dX4_digest_165 rfl ?_
                          refine lv_ladd hx hb dX4_digest_166 ?_
                          refine lv_topl (fun y_16 hy_16 => ?_)
                          obtain rfl : y_16 = mx (mxF (fun i => nI (rkF w0 i)) k E90) (nI (rkF w0 k)) := hy_16.trans (rfl)
                          refine lv_lstore_n (lv' := [(1, .long (mx (mxF (fun i => nI (rkF w0 i)) k E90) (nI (rkF w0 k)))), (0, .ref q0), (3, .int (nI 0)), (4, .int (nI k))]) hx hb dX4_digest_167 rfl hl (by decide) rfl (fun ls hl => ?_)
                          refine lv_iinc (v := nI (k + 1)) (lv' := [(4, .int (nI (k + 1))), (1, .long (mx (mxF (fun i => nI (rkF w0 i)) k E90) (nI (rkF w0 k)))), (0, .ref q0), (3, .int (nI 0))]) hx hb dX4_digest_168 hl (k := 3) rfl (nI_add k 1) (by decide) rfl (fun ls hl => ?_)
                          refine lv_goto (tgt := 133) hx hb dX4_digest_171 (by decide) ?_
                          exact ih_133 (k + 1) (by omega) (by omega) _ _ _ hP hD hS (lv_sub hl [2, 1, 3, 0] rfl)
                    exact loop_1330 (2 * vT w0 + 1) 0 (by omega) (by omega) H locs ls hP hD hS (lv_sub hl [1, 2, 3, 0] rfl)
                  · have c_106 : ¬ (7 ≤ k) := fun h9 => c_106 ((nI_leI (a := 7) (b := k) (by omega) (by omega)).mpr h9)
                    refine lv_lload_n hx hb dX4_digest_109 rfl (lv_at hl 1 rfl) ?_
                    refine W.ldc2 hx hb hown hq_4 rfl dX4_digest_110 ?_
                    refine W.eq (g2 := F0 m 113 ls (.long 31 :: [.long (mxF (wNumW 0 w0) k (D9))])) rfl ?_
                    refine lv_lmul hx hb dX4_digest_113 ?_
                    refine lv_aload_n hx hb dX4_digest_114 rfl (lv_at hl 0 rfl) ?_
                    refine lv_iload_n hx hb dX4_digest_115 rfl (lv_at hl 2 rfl) ?_
                    refine lv_iload hx hb dX4_digest_116 (lv_at hl 3 rfl) ?_
                    refine k_calli (fun _ => [kO q0 4 [.int (nI 0), .ref q1, .ref q2, .ref q3, .ref q4, .ref q5, .ref q6], kC G q1 8 (nR (peF w0 w1)), kC G q2 120 (nR (knF w0 w1)), kC G q3 120 (nR (plF w0 w1)), kC G q4 80 (nR ru), kC G q5 8 (nR bf), kC G q6 2 (nR (nuF ho un))]) [] (k_runV (As := [.int (nI 0), .int (nI k)]) (rest := [.long ((mxF (wNumW 0 w0) k (D9)) * 31)]) (wc := [kO q0 4 [.int (nI 0), .ref q1, .ref q2, .ref q3, .ref q4, .ref q5, .ref q6], kC G q1 8 (nR (peF w0 w1)), kC G q2 120 (nR (knF w0 w1)), kC G q3 120 (nR (plF w0 w1)), kC G q4 80 (nR ru), kC G q5 8 (nR bf), kC G q6 2 (nR (nuF ho un))]) ⟨hx, hb, hml, hown, hts⟩ (m_weaverTold0 l G q0 q1 q2 q3 q4 q5 q6 w0 w1 bf ho un ru 0 k (by omega) h0 h1 hru) (cwV 2 hts gX4_digest_X4_weaverTold rfl rfl rfl (by decide +kernel) ⟨Nat.le_of_ble_eq_true rfl, Nat.le_of_ble_eq_true rfl⟩) hK hZ hP hD hS hA [0, 1, 2, 3, 4, 5, 6] rfl rfl 0 4 rfl rfl rfl rfl hl.1 rfl (Nat.le_of_ble_eq_true rfl) dX4_digest_118 ⟨Nat.le_of_ble_eq_true rfl, Nat.le_of_ble_eq_true rfl⟩) hP hD hS hA [0, 1, 2, 3, 4, 5, 6] [] [0, 1, 2, 3, 4, 5, 6] rfl rfl rfl (by decide) (fun _ => rfl) rfl (fun r_118 u_118 H locs hp_118 hP hD hS => ?_)
                    have hp_118 : r_118 = wNumW 0 w0 k := hp_118
                    subst hp_118
                    refine lv_i2l (v := (wNumW 0 w0 k).toInt64) hx hb dX4_digest_121 rfl ?_
                    refine lv_ladd hx hb dX4_digest_122 ?_
                    refine lv_topl (fun y_17 hy_17 => ?_)
                    obtain rfl : y_17 = mx (mxF (wNumW 0 w0) k (D9)) (wNumW 0 w0 k) := hy_17.trans (rfl)
                    refine lv_lstore_n (lv' := [(1, .long (mx (mxF (wNumW 0 w0) k (D9)) (wNumW 0 w0 k))), (0, .ref q0), (3, .int (nI 0)), (4, .int (nI k))]) hx hb dX4_digest_123 rfl hl (by decide) rfl (fun ls hl => ?_)
                    refine lv_iinc (v := nI (k + 1)) (lv' := [(4, .int (nI (k + 1))), (1, .long (mx (mxF (wNumW 0 w0) k (D9)) (wNumW 0 w0 k))), (0, .ref q0), (3, .int (nI 0))]) hx hb dX4_digest_124 hl (k := 3) rfl (nI_add k 1) (by decide) rfl (fun ls hl => ?_)
                    refine lv_goto (tgt := 102) hx hb dX4_digest_127 (by decide) ?_
                    exact ih_102 (k + 1) (by omega) (by omega) _ _ _ hP hD hS (lv_sub hl [2, 1, 3, 0] rfl)
              exact loop_1020 8 0 (by omega) (by omega) H locs ls hP hD hS (lv_sub hl [2, 3, 1, 0] rfl)
            · have c_41 : ¬ (120 ≤ n) := fun h9 => c_41 ((nI_leI (a := 120) (b := n) (by omega) (by omega)).mpr h9)
              refine lv_lload_n hx hb dX4_digest_44 rfl (lv_at hl 1 rfl) ?_
              refine W.ldc2 hx hb hown hq_4 rfl dX4_digest_45 ?_
              refine W.eq (g2 := F0 m 48 ls (.long 31 :: [.long (cdG (w0, w1, bf, ho, un) (n) D8)])) rfl ?_
              refine lv_lmul hx hb dX4_digest_48 ?_
              refine lv_aload_n hx hb dX4_digest_49 rfl (lv_at hl 0 rfl) ?_
              refine lv_iload_n hx hb dX4_digest_50 rfl (lv_at hl 2 rfl) ?_
              refine lv_bipush (v := nI 12) hx hb dX4_digest_51 (by decide) ?_
              refine lv_irem hx hb dX4_digest_53 (by first | decide | (intro h; exact absurd ((nI_eq (by omega) (by omega)).mp h) (by omega))) ?_
              refine lv_topi (fun y_18 hy_18 => ?_)
              obtain rfl : y_18 = nI (n % 12) := hy_18.trans (pk_rem (a := n) (d := 12) (by omega) (by omega) (by omega))
              refine lv_iload_n hx hb dX4_digest_54 rfl (lv_at hl 2 rfl) ?_
              refine lv_bipush (v := nI 12) hx hb dX4_digest_55 (by decide) ?_
              refine lv_idiv hx hb dX4_digest_57 (by first | decide | (intro h; exact absurd ((nI_eq (by omega) (by omega)).mp h) (by omega))) ?_
              refine lv_topi (fun y_19 hy_19 => ?_)
              obtain rfl : y_19 = nI (n / 12) := hy_19.trans (pk_div (a := n) (d := 12) (by omega) (by omega) (by omega))
              refine k_calli (fun _ => [kO q0 4 [.int (nI 0), .ref q1, .ref q2, .ref q3, .ref q4, .ref q5, .ref q6], kC G q1 8 (nR (peF w0 w1)), kC G q2 120 (nR (knF w0 w1)), kC G q3 120 (nR (plF w0 w1)), kC G q4 80 (nR ru), kC G q5 8 (nR bf), kC G q6 2 (nR (nuF ho un))]) [] (k_runV (As := [.int (nI (n % 12)), .int (nI (n / 12))]) (rest := [.long ((cdG (w0, w1, bf, ho, un) (n) D8) * 31)]) (wc := [kO q0 4 [.int (nI 0), .ref q1, .ref q2, .ref q3, .ref q4, .ref q5, .ref q6], kC G q1 8 (nR (peF w0 w1)), kC G q2 120 (nR (knF w0 w1)), kC G q3 120 (nR (plF w0 w1)), kC G q4 80 (nR ru), kC G q5 8 (nR bf), kC G q6 2 (nR (nuF ho un))]) ⟨hx, hb, hml, hown, hts⟩ (m_colour l G q0 q1 q2 q3 q4 q5 q6 w0 w1 bf ho un ru 0 (n % 12) (n / 12) (by omega) (by omega) h0 h1 hru) (cwV 2 hts gX4_digest_X4_colour rfl rfl rfl (by decide +kernel) ⟨Nat.le_of_ble_eq_true rfl, Nat.le_of_ble_eq_true rfl⟩) hK hZ hP hD hS hA [0, 1, 2, 3, 4, 5, 6] rfl rfl 0 4 rfl rfl rfl rfl hl.1 rfl (Nat.le_of_ble_eq_true rfl) dX4_digest_58 ⟨Nat.le_of_ble_eq_true rfl, Nat.le_of_ble_eq_true rfl⟩) hP hD hS hA [0, 1, 2, 3, 4, 5, 6] [] [0, 1, 2, 3, 4, 5, 6] rfl rfl rfl (by decide) (fun _ => rfl) rfl (fun r_58 u_58 H locs hp_58 hP hD hS => ?_)
              have hp_58 : r_58 = ktN w0 w1 (n % 12) (n / 12) := hp_58
              subst hp_58
              refine lv_i2l (v := (ktN w0 w1 (n % 12) (n / 12)).toInt64) hx hb dX4_digest_61 rfl ?_
              refine lv_ladd hx hb dX4_digest_62 ?_
              refine lv_topl (fun y_20 hy_20 => ?_)
              obtain rfl : y_20 = mx (cdG (w0, w1, bf, ho, un) (n) D8) (ktN w0 w1 (n % 12) (n / 12)) := hy_20.trans (rfl)
              refine W.ldc2 hx hb hown hq_4 rfl dX4_digest_63 ?_
              refine W.eq (g2 := F0 m 66 ls (.long 31 :: [.long (mx (cdG (w0, w1, bf, ho, un) (n) D8) (ktN w0 w1 (n % 12) (n / 12)))])) rfl ?_
              refine lv_lmul hx hb dX4_digest_66 ?_
              rcases Nat.lt_or_ge (n % 12) 6 with hx6 | hx6
              · skip
                refine lv_aload_n hx hb dX4_digest_67 rfl (lv_at hl 0 rfl) ?_
                refine va_get (D := G.1) (ci := 4) (v := .ref q3) (C := RX4) (T := TX4) (N := 7) hx hb hts hq_0 hown hK.1 hP 0 rfl rfl 3 (by decide) hq_6 (fun _ h9 => h9) rfl dX4_digest_68 ?_
                refine lv_iload_n hx hb dX4_digest_71 rfl (lv_at hl 2 rfl) ?_
                refine lv_bipush (v := nI 12) hx hb dX4_digest_72 (by decide) ?_
                refine lv_irem hx hb dX4_digest_74 (by first | decide | (intro h; exact absurd ((nI_eq (by omega) (by omega)).mp h) (by omega))) ?_
                refine lv_topi (fun y_21 hy_21 => ?_)
                obtain rfl : y_21 = nI (n % 12) := hy_21.trans (pk_rem (a := n) (d := 12) (by omega) (by omega) (by omega))
                refine lv_iload_n hx hb dX4_digest_75 rfl (lv_at hl 2 rfl) ?_
                refine lv_bipush (v := nI 12) hx hb dX4_digest_76 (by decide) ?_
                refine lv_idiv hx hb dX4_digest_78 (by first | decide | (intro h; exact absurd ((nI_eq (by omega) (by omega)).mp h) (by omega))) ?_
                refine lv_topi (fun y_22 hy_22 => ?_)
                obtain rfl : y_22 = nI (n / 12) := hy_22.trans (pk_div (a := n) (d := 12) (by omega) (by omega) (by omega))
                refine k_calli (fun _ => [kO q0 4 [.int (nI 0), .ref q1, .ref q2, .ref q3, .ref q4, .ref q5, .ref q6], kC G q1 8 (nR (peF w0 w1)), kC G q2 120 (nR (knF w0 w1)), kC G q3 120 (nR (plF w0 w1)), kC G q4 80 (nR ru), kC G q5 8 (nR bf), kC G q6 2 (nR (nuF ho un))]) [kO q0 4 [.int (nI 0), .ref q1, .ref q2, .ref q3, .ref q4, .ref q5, .ref q6], kC G q1 8 (nR (peF w0 w1)), kC G q2 120 (nR (knF w0 w1)), kC G q3 120 (nR (plF w0 w1)), kC G q4 80 (nR ru), kC G q5 8 (nR bf), kC G q6 2 (nR (nuF ho un))] (k_runS (As := [.int (nI (n % 12)), .int (nI (n / 12))]) (rest := [.ref q3, .long ((mx (cdG (w0, w1, bf, ho, un) (n) D8) (ktN w0 w1 (n % 12) (n / 12))) * 31)]) (wc := []) ⟨hx, hb, hml, hown, hts⟩ (m_at l G (n % 12) (n / 12) (by omega) (by omega)) (va_cwS 2 hts gX4_digest_X4_at rfl rfl rfl (by decide +kernel) ⟨Nat.le_of_ble_eq_true rfl, Nat.le_of_ble_eq_true rfl⟩) hK hZ hP hD hS hA [] rfl rfl rfl hl.1 rfl (Nat.le_of_ble_eq_true rfl) dX4_digest_79 ⟨Nat.le_of_ble_eq_true rfl, Nat.le_of_ble_eq_true rfl⟩) hP hD hS hA [] [0, 1, 2, 3, 4, 5, 6] [0, 1, 2, 3, 4, 5, 6] rfl rfl rfl (by decide) (fun _ => rfl) rfl (fun r_79 u_79 H locs hp_79 hP hD hS => ?_)
                have hp_79 : r_79 = nI (plN (n % 12) (n / 12)) := hp_79.trans (congrArg nI (atN_0 (by omega)))
                subst hp_79
                have hpl9 : plN (n % 12) (n / 12) < 60 := plN_lt (by omega) (by omega)
                have hi_23 : (plN (n % 12) (n / 12)) < 120 := by omega
                refine va_iald (D := G.1) hx hb hK.1 hP 3 0 rfl rfl (vp_in_nI hi_23 (by omega)) dX4_digest_82 ?_
                refine lv_topi (fun y_24 hy_24 => ?_)
                obtain rfl : y_24 = nI ((plF w0 w1) (plN (n % 12) (n / 12))) := hy_24.trans (nR_at (by omega))
                refine lv_topi (fun y_25 hy_25 => ?_)
                obtain rfl : y_25 = nI (vP w0 (plN (n % 12) (n / 12))) := hy_25.trans (congrArg nI (plF_lo (by omega)))
                refine lv_topi (fun y_26 hy_26 => ?_)
                obtain rfl : y_26 = nI (ptN w0 w1 (n % 12) (n / 12)) := hy_26.trans (congrArg nI (by unfold ptN rgW; rw [if_pos hx6]))
                refine lv_i2l (v := (nI (ptN w0 w1 (n % 12) (n / 12))).toInt64) hx hb dX4_digest_83 rfl ?_
                refine lv_ladd hx hb dX4_digest_84 ?_
                refine lv_topl (fun y_27 hy_27 => ?_)
                obtain rfl : y_27 = mx (mx (cdG (w0, w1, bf, ho, un) (n) D8) (ktN w0 w1 (n % 12) (n / 12))) (nI (ptN w0 w1 (n % 12) (n / 12))) := hy_27.trans (rfl)
                refine lv_lstore_n (lv' := [(1, .long (mx (mx (cdG (w0, w1, bf, ho, un) (n) D8) (ktN w0 w1 (n % 12) (n / 12))) (nI (ptN w0 w1 (n % 12) (n / 12))))), (0, .ref q0), (3, .int (nI n))]) hx hb dX4_digest_85 rfl hl (by decide) rfl (fun ls hl => ?_)
                refine lv_iinc (v := nI (n + 1)) (lv' := [(3, .int (nI (n + 1))), (1, .long (mx (mx (cdG (w0, w1, bf, ho, un) (n) D8) (ktN w0 w1 (n % 12) (n / 12))) (nI (ptN w0 w1 (n % 12) (n / 12))))), (0, .ref q0)]) hx hb dX4_digest_86 hl (k := 2) rfl (nI_add n 1) (by decide) rfl (fun ls hl => ?_)
                refine lv_goto (tgt := 38) hx hb dX4_digest_89 (by decide) ?_
                exact ih_38 (n + 1) (by omega) (by omega) _ _ _ hP hD hS (lv_sub hl [2, 1, 0] rfl)
              · skip
                refine lv_aload_n hx hb dX4_digest_67 rfl (lv_at hl 0 rfl) ?_
                refine va_get (D := G.1) (ci := 4) (v := .ref q3) (C := RX4) (T := TX4) (N := 7) hx hb hts hq_0 hown hK.1 hP 0 rfl rfl 3 (by decide) hq_6 (fun _ h9 => h9) rfl dX4_digest_68 ?_
                refine lv_iload_n hx hb dX4_digest_71 rfl (lv_at hl 2 rfl) ?_
                refine lv_bipush (v := nI 12) hx hb dX4_digest_72 (by decide) ?_
                refine lv_irem hx hb dX4_digest_74 (by first | decide | (intro h; exact absurd ((nI_eq (by omega) (by omega)).mp h) (by omega))) ?_
                refine lv_topi (fun y_28 hy_28 => ?_)
                obtain rfl : y_28 = nI (n % 12) := hy_28.trans (pk_rem (a := n) (d := 12) (by omega) (by omega) (by omega))
                refine lv_iload_n hx hb dX4_digest_75 rfl (lv_at hl 2 rfl) ?_
                refine lv_bipush (v := nI 12) hx hb dX4_digest_76 (by decide) ?_
                refine lv_idiv hx hb dX4_digest_78 (by first | decide | (intro h; exact absurd ((nI_eq (by omega) (by omega)).mp h) (by omega))) ?_
                refine lv_topi (fun y_29 hy_29 => ?_)
                obtain rfl : y_29 = nI (n / 12) := hy_29.trans (pk_div (a := n) (d := 12) (by omega) (by omega) (by omega))
                refine k_calli (fun _ => [kO q0 4 [.int (nI 0), .ref q1, .ref q2, .ref q3, .ref q4, .ref q5, .ref q6], kC G q1 8 (nR (peF w0 w1)), kC G q2 120 (nR (knF w0 w1)), kC G q3 120 (nR (plF w0 w1)), kC G q4 80 (nR ru), kC G q5 8 (nR bf), kC G q6 2 (nR (nuF ho un))]) [kO q0 4 [.int (nI 0), .ref q1, .ref q2, .ref q3, .ref q4, .ref q5, .ref q6], kC G q1 8 (nR (peF w0 w1)), kC G q2 120 (nR (knF w0 w1)), kC G q3 120 (nR (plF w0 w1)), kC G q4 80 (nR ru), kC G q5 8 (nR bf), kC G q6 2 (nR (nuF ho un))] (k_runS (As := [.int (nI (n % 12)), .int (nI (n / 12))]) (rest := [.ref q3, .long ((mx (cdG (w0, w1, bf, ho, un) (n) D8) (ktN w0 w1 (n % 12) (n / 12))) * 31)]) (wc := []) ⟨hx, hb, hml, hown, hts⟩ (m_at l G (n % 12) (n / 12) (by omega) (by omega)) (va_cwS 2 hts gX4_digest_X4_at rfl rfl rfl (by decide +kernel) ⟨Nat.le_of_ble_eq_true rfl, Nat.le_of_ble_eq_true rfl⟩) hK hZ hP hD hS hA [] rfl rfl rfl hl.1 rfl (Nat.le_of_ble_eq_true rfl) dX4_digest_79 ⟨Nat.le_of_ble_eq_true rfl, Nat.le_of_ble_eq_true rfl⟩) hP hD hS hA [] [0, 1, 2, 3, 4, 5, 6] [0, 1, 2, 3, 4, 5, 6] rfl rfl rfl (by decide) (fun _ => rfl) rfl (fun r_79 u_79 H locs hp_79 hP hD hS => ?_)
                have hp_79 : r_79 = nI (60 + plN (n % 12) (n / 12)) := hp_79.trans (congrArg nI (atN_1 (by omega) (by omega)))
                subst hp_79
                have hpl9 : plN (n % 12) (n / 12) < 60 := plN_lt (by omega) (by omega)
                have hi_30 : (60 + plN (n % 12) (n / 12)) < 120 := by omega
                refine va_iald (D := G.1) hx hb hK.1 hP 3 0 rfl rfl (vp_in_nI hi_30 (by omega)) dX4_digest_82 ?_
                refine lv_topi (fun y_31 hy_31 => ?_)
                obtain rfl : y_31 = nI ((plF w0 w1) (60 + plN (n % 12) (n / 12))) := hy_31.trans (nR_at (by omega))
                refine lv_topi (fun y_32 hy_32 => ?_)
                obtain rfl : y_32 = nI (vP w1 (plN (n % 12) (n / 12))) := hy_32.trans (congrArg nI (plF_hi))
                refine lv_topi (fun y_33 hy_33 => ?_)
                obtain rfl : y_33 = nI (ptN w0 w1 (n % 12) (n / 12)) := hy_33.trans (congrArg nI (by unfold ptN rgW; rw [if_neg (by omega)]))
                refine lv_i2l (v := (nI (ptN w0 w1 (n % 12) (n / 12))).toInt64) hx hb dX4_digest_83 rfl ?_
                refine lv_ladd hx hb dX4_digest_84 ?_
                refine lv_topl (fun y_34 hy_34 => ?_)
                obtain rfl : y_34 = mx (mx (cdG (w0, w1, bf, ho, un) (n) D8) (ktN w0 w1 (n % 12) (n / 12))) (nI (ptN w0 w1 (n % 12) (n / 12))) := hy_34.trans (rfl)
                refine lv_lstore_n (lv' := [(1, .long (mx (mx (cdG (w0, w1, bf, ho, un) (n) D8) (ktN w0 w1 (n % 12) (n / 12))) (nI (ptN w0 w1 (n % 12) (n / 12))))), (0, .ref q0), (3, .int (nI n))]) hx hb dX4_digest_85 rfl hl (by decide) rfl (fun ls hl => ?_)
                refine lv_iinc (v := nI (n + 1)) (lv' := [(3, .int (nI (n + 1))), (1, .long (mx (mx (cdG (w0, w1, bf, ho, un) (n) D8) (ktN w0 w1 (n % 12) (n / 12))) (nI (ptN w0 w1 (n % 12) (n / 12))))), (0, .ref q0)]) hx hb dX4_digest_86 hl (k := 2) rfl (nI_add n 1) (by decide) rfl (fun ls hl => ?_)
                refine lv_goto (tgt := 38) hx hb dX4_digest_89 (by decide) ?_
                exact ih_38 (n + 1) (by omega) (by omega) _ _ _ hP hD hS (lv_sub hl [2, 1, 0] rfl)
        exact loop_38 121 0 (by omega) (by omega) H locs ls hP hD hS (lv_sub hl [1, 2, 0] rfl)
      · have c_14 : ¬ (8 ≤ k) := fun h9 => c_14 ((nI_leI (a := 8) (b := k) (by omega) (by omega)).mpr h9)
        refine lv_lload_n hx hb dX4_digest_17 rfl (lv_at hl 1 rfl) ?_
        refine W.ldc2 hx hb hown hq_4 rfl dX4_digest_18 ?_
        refine W.eq (g2 := F0 m 21 ls (.long 31 :: [.long (mxF (fun k => nI (sNum (w0, w1, bf, ho, un) k)) k 983)])) rfl ?_
        refine lv_lmul hx hb dX4_digest_21 ?_
        refine lv_aload_n hx hb dX4_digest_22 rfl (lv_at hl 0 rfl) ?_
        refine lv_iload_n hx hb dX4_digest_23 rfl (lv_at hl 2 rfl) ?_
        refine k_calli (fun _ => [kO q0 4 [.int (nI 0), .ref q1, .ref q2, .ref q3, .ref q4, .ref q5, .ref q6], kC G q1 8 (nR (peF w0 w1)), kC G q2 120 (nR (knF w0 w1)), kC G q3 120 (nR (plF w0 w1)), kC G q4 80 (nR ru), kC G q5 8 (nR bf), kC G q6 2 (nR (nuF ho un))]) [] (k_runV (As := [.int (nI k)]) (rest := [.long ((mxF (fun k => nI (sNum (w0, w1, bf, ho, un) k)) k 983) * 31)]) (wc := [kO q0 4 [.int (nI 0), .ref q1, .ref q2, .ref q3, .ref q4, .ref q5, .ref q6], kC G q1 8 (nR (peF w0 w1)), kC G q2 120 (nR (knF w0 w1)), kC G q3 120 (nR (plF w0 w1)), kC G q4 80 (nR ru), kC G q5 8 (nR bf), kC G q6 2 (nR (nuF ho un))]) ⟨hx, hb, hml, hown, hts⟩ (m_counted l G q0 q1 q2 q3 q4 q5 q6 w0 w1 bf ho un ru 0 k (by omega) h0 h1 hB hru) (cwV 1 hts gX4_digest_X4_counted rfl rfl rfl (by decide +kernel) ⟨Nat.le_of_ble_eq_true rfl, Nat.le_of_ble_eq_true rfl⟩) hK hZ hP hD hS hA [0, 1, 2, 3, 4, 5, 6] rfl rfl 0 4 rfl rfl rfl rfl hl.1 rfl (Nat.le_of_ble_eq_true rfl) dX4_digest_24 ⟨Nat.le_of_ble_eq_true rfl, Nat.le_of_ble_eq_true rfl⟩) hP hD hS hA [0, 1, 2, 3, 4, 5, 6] [] [0, 1, 2, 3, 4, 5, 6] rfl rfl rfl (by decide) (fun _ => rfl) rfl (fun r_24 u_24 H locs hp_24 hP hD hS => ?_)
        have hp_24 : r_24 = nI (rNum w0 w1 bf ho un k) := hp_24
        subst hp_24
        refine lv_i2l (v := (nI (rNum w0 w1 bf ho un k)).toInt64) hx hb dX4_digest_27 rfl ?_
        refine lv_ladd hx hb dX4_digest_28 ?_
        refine lv_topl (fun y_35 hy_35 => ?_)
        obtain rfl : y_35 = mx (mxF (fun k => nI (sNum (w0, w1, bf, ho, un) k)) k 983) (nI (rNum w0 w1 bf ho un k)) := hy_35.trans (rfl)
        refine lv_lstore_n (lv' := [(1, .long (mx (mxF (fun k => nI (sNum (w0, w1, bf, ho, un) k)) k 983) (nI (rNum w0 w1 bf ho un k)))), (0, .ref q0), (3, .int (nI k))]) hx hb dX4_digest_29 rfl hl (by decide) rfl (fun ls hl => ?_)
        refine lv_iinc (v := nI (k + 1)) (lv' := [(3, .int (nI (k + 1))), (1, .long (mx (mxF (fun k => nI (sNum (w0, w1, bf, ho, un) k)) k 983) (nI (rNum w0 w1 bf ho un k)))), (0, .ref q0)]) hx hb dX4_digest_30 hl (k := 2) rfl (nI_add k 1) (by decide) rfl (fun ls hl => ?_)
        refine lv_goto (tgt := 11) hx hb dX4_digest_33 (by decide) ?_
        exact ih_11 (k + 1) (by omega) (by omega) _ _ _ hP hD hS (lv_sub hl [2, 1, 0] rfl)
  exact loop_11 9 0 (by omega) (by omega) H locs ls hP hD hS (lv_sub hl [2, 1, 0] rfl)
