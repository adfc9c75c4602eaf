def M_X8_addStorey (σ : St) (k : Nat) (p0 p1 p2 : Int32) : Option (St × Int32) := bcall (M_X0_has σ ((k + 4) + 1) p0) fun σ1 r2 => if r2 = 0 then some (σ1, (-1 : Int32)) else (bcall (M_X10_isWithin σ1 p1 (4 : Int32) (8 : Int32)) fun σ3 r4 => if r4 = 0 then some (σ3, (-2 : Int32)) else (bcall (M_X10_isWithin σ3 p2 (0 : Int32) (40 : Int32)) fun σ5 r6 => if r6 = 0 then some (σ5, (-2 : Int32)) else (if (σ5 ((k + 4) + 4) 6) < (10 : Int32) then (bcall (M_X7_isWarned σ5 (k + 4)) fun σ7 r8 => if r8 = 0 then (bcall (M_X0_polesOf σ7 ((k + 4) + 1) p0) fun σ9 r10 => if p1 ≤ r10 then (blet (p1 * (2 : Int32)) fun v11 => if v11 ≤ (σ9 (k + 4) 6) then (bcall (M_X0_takeOut σ9 ((k + 4) + 1) p0 p1) fun σ12 r13 => bput σ12 (k + 4) 6 ((σ12 (k + 4) 6) - v11) fun σ14 => bput σ14 (k + 4) 9 ((σ14 (k + 4) 9) + p2) fun σ15 => bcall (M_X0_weeksOf σ15 ((k + 4) + 1) p0) fun σ16 r17 => bcall (M_X9_add σ16 ((k + 4) + 4) p1 r17 p2) fun σ18 r19 => some (σ18, r19)) else (bcall (M_X6_refuse σ9 (k + 1) (3 : Int32) (v11 - (σ9 (k + 4) 6))) fun σ20 r21 => some (σ20, r21))) else (bcall (M_X0_polesOf σ9 ((k + 4) + 1) p0) fun σ23 r24 => bcall (M_X6_refuse σ23 (k + 1) (2 : Int32) r24) fun σ25 r26 => some (σ25, r26))) else (bcall (M_X6_refuse σ7 (k + 1) (4 : Int32) (σ7 (k + 4) 5)) fun σ28 r29 => some (σ28, r29))) else (bcall (M_X6_refuse σ5 (k + 1) (1 : Int32) (10 : Int32)) fun σ31 r32 => some (σ31, r32)))))
set_option maxRecDepth 20000 in
set_option maxHeartbeats 4000000 in
theorem C_X8_addStorey (l : Launch) (E : Ev) {σ σ' : St} {k : Nat} {p0 : Int32} {p1 : Int32} {p2 : Int32} {r : Int32} (h : M_X8_addStorey σ k p0 p1 p2 = some (σ', r)) (hL : lay 8 k) : Mi l E yX8_addStorey cX8_addStorey 5 (some .int) 4 [.ref (E.1 k), .int p0, .int p1, .int p2] σ σ' r := by
  refine Mi_of (C := RX8) rfl (by decide) (Nat.le_of_ble_eq_true rfl) (z := (σ', r)) (fun p e s m below meth c ls X hG hl => ?_)
  have hx := X.1.1.1
  have hb := X.1.1.2.1
  have hM := h
  unfold M_X8_addStorey at hM
  generalize (σ', r) = z at hM ⊢
  have hl : lv_has ls 5 [(0, .ref (E.1 k)), (1, .int p0), (2, .int p1), (3, .int p2)] := hl
  refine lv_aload_n hx hb dX8_addStorey_0 rfl (lv_at hl 0 rfl) ?_
  refine gt_8_1 X.1 hG hL mw232 dX8_addStorey_1 ?_
  refine gtN_7_0 X.1 hG (lf_8_1 hL) mw163 dX8_addStorey_4 ?_
  refine lv_iload_n hx hb dX8_addStorey_7 rfl (lv_at hl 1 rfl) ?_
  refine g_callV_i (nA := 1) (o := M_X0_has σ ((k + 4) + 1) p0) (As := [.int p0]) X.1 hG (lf_7_0 (lf_8_1 hL)) rfl rfl (fun _ _ h => C_X0_has l E h (lf_7_0 (lf_8_1 hL))) mw464 mw465 mw466 mw16 (gw_ok mw467 rfl) (by decide +kernel) rfl ⟨Nat.le_of_ble_eq_true rfl, Nat.le_of_ble_eq_true rfl⟩ hl.1 rfl (Nat.le_of_ble_eq_true rfl) ⟨Nat.le_refl _, Nat.le_refl _⟩ dX8_addStorey_8 hM (fun σ1 r2 H locs hG hM => ?_)
  refine lv_if_ne (tgt := 16) hx hb dX8_addStorey_11 (by decide) (fun c36 => ?_) (fun c36 => ?_)
  · have hM := b_else hM c36
    refine lv_iload_n hx hb dX8_addStorey_16 rfl (lv_at hl 2 rfl) ?_
    refine lv_iconst (v := (4 : Int32)) hx hb dX8_addStorey_17 (by decide) ?_
    refine lv_bipush (v := (8 : Int32)) hx hb dX8_addStorey_18 (by decide) ?_
    refine g_callSN_i (nA := 3) (o := M_X10_isWithin σ1 p1 (4 : Int32) (8 : Int32)) (As := [.int p1, .int (4 : Int32), .int (8 : Int32)]) X.1 hG (fun _ _ h => C_X10_isWithin l E h ) mw421 mw369 mw12 (gw_ok mw370 rfl) (by decide +kernel) rfl ⟨Nat.le_of_ble_eq_true rfl, Nat.le_of_ble_eq_true rfl⟩ hl.1 rfl (Nat.le_of_ble_eq_true rfl) ⟨Nat.le_refl _, Nat.le_refl _⟩ dX8_addStorey_20 hM (fun σ3 r4 H locs hG hM => ?_)
    refine lv_if_eq (tgt := 36) hx hb dX8_addStorey_23 (by decide) (fun c35 => ?_) (fun c35 => ?_)
    · have hM := b_if hM c35
      refine lv_bipush (v := (-2 : Int32)) hx hb dX8_addStorey_36 (by decide) ?_
      exact e_iret X hG dX8_addStorey_38 hM
    · have hM := b_else hM c35
      refine lv_iload_n hx hb dX8_addStorey_26 rfl (lv_at hl 3 rfl) ?_
      refine lv_iconst (v := (0 : Int32)) hx hb dX8_addStorey_27 (by decide) ?_
      refine lv_bipush (v := (40 : Int32)) hx hb dX8_addStorey_28 (by decide) ?_
      refine g_callSN_i (nA := 3) (o := M_X10_isWithin σ3 p2 (0 : Int32) (40 : Int32)) (As := [.int p2, .int (0 : Int32), .int (40 : Int32)]) X.1 hG (fun _ _ h => C_X10_isWithin l E h ) mw421 mw369 mw12 (gw_ok mw370 rfl) (by decide +kernel) rfl ⟨Nat.le_of_ble_eq_true rfl, Nat.le_of_ble_eq_true rfl⟩ hl.1 rfl (Nat.le_of_ble_eq_true rfl) ⟨Nat.le_refl _, Nat.le_refl _⟩ dX8_addStorey_30 hM (fun σ5 r6 H locs hG hM => ?_)
      refine lv_if_ne (tgt := 39) hx hb dX8_addStorey_33 (by decide) (fun c34 => ?_) (fun c34 => ?_)
      · have hM := b_else hM c34
        refine lv_aload_n hx hb dX8_addStorey_39 rfl (lv_at hl 0 rfl) ?_
        refine gt_8_1 X.1 hG hL mw232 dX8_addStorey_40 ?_
        refine gtN_7_1 X.1 hG (lf_8_1 hL) mw166 dX8_addStorey_43 ?_
        refine gtN_9_6 X.1 hG (lf_7_1 (lf_8_1 hL)) mw104 dX8_addStorey_46 ?_
        refine lv_bipush (v := (10 : Int32)) hx hb dX8_addStorey_49 (by decide) ?_
        refine lv_icmp_lt (tgt := 65) hx hb dX8_addStorey_51 (by decide) (fun c33 => ?_) (fun c33 => ?_)
        · have hM := b_if hM c33
          refine lv_aload_n hx hb dX8_addStorey_65 rfl (lv_at hl 0 rfl) ?_
          refine gt_8_1 X.1 hG hL mw232 dX8_addStorey_66 ?_
          refine g_callV_i (nA := 0) (o := M_X7_isWarned σ5 (k + 4)) (As := []) X.1 hG (lf_8_1 hL) rfl rfl (fun _ _ h => C_X7_isWarned l E h (lf_8_1 hL)) mw468 mw469 mw470 mw15 (gw_ok mw471 rfl) (by decide +kernel) rfl ⟨Nat.le_of_ble_eq_true rfl, Nat.le_of_ble_eq_true rfl⟩ hl.1 rfl (Nat.le_of_ble_eq_true rfl) ⟨Nat.le_refl _, Nat.le_refl _⟩ dX8_addStorey_69 hM (fun σ7 r8 H locs hG hM => ?_)
          refine lv_if_eq (tgt := 91) hx hb dX8_addStorey_72 (by decide) (fun c30 => ?_) (fun c30 => ?_)
          · have hM := b_if hM c30
            refine lv_aload_n hx hb dX8_addStorey_91 rfl (lv_at hl 0 rfl) ?_
            refine gt_8_1 X.1 hG hL mw232 dX8_addStorey_92 ?_
            refine gtN_7_0 X.1 hG (lf_8_1 hL) mw163 dX8_addStorey_95 ?_
            refine lv_iload_n hx hb dX8_addStorey_98 rfl (lv_at hl 1 rfl) ?_
            refine g_callV_i (nA := 1) (o := M_X0_polesOf σ7 ((k + 4) + 1) p0) (As := [.int p0]) X.1 hG (lf_7_0 (lf_8_1 hL)) rfl rfl (fun _ _ h => C_X0_polesOf l E h (lf_7_0 (lf_8_1 hL))) mw472 mw473 mw474 mw16 (gw_ok mw475 rfl) (by decide +kernel) rfl ⟨Nat.le_of_ble_eq_true rfl, Nat.le_of_ble_eq_true rfl⟩ hl.1 rfl (Nat.le_of_ble_eq_true rfl) ⟨Nat.le_refl _, Nat.le_refl _⟩ dX8_addStorey_99 hM (fun σ9 r10 H locs hG hM => ?_)
            refine lv_iload_n hx hb dX8_addStorey_102 rfl (lv_at hl 2 rfl) ?_
            refine lv_icmp_ge (tgt := 126) hx hb dX8_addStorey_103 (by decide) (fun c27 => ?_) (fun c27 => ?_)
            · have hM := b_if hM c27
              refine lv_iload_n hx hb dX8_addStorey_126 rfl (lv_at hl 2 rfl) ?_
              refine lv_iconst (v := (2 : Int32)) hx hb dX8_addStorey_127 (by decide) ?_
              refine lv_imul hx hb dX8_addStorey_128 ?_
              refine g_name hM (fun v11 hM => ?_)
              refine lv_istore (lv' := [(4, .int v11), (0, .ref (E.1 k)), (1, .int p0), (2, .int p1), (3, .int p2)]) hx hb dX8_addStorey_129 hl (by decide) rfl (fun ls hl => ?_)
              refine lv_aload_n hx hb dX8_addStorey_131 rfl (lv_at hl 1 rfl) ?_
              refine gt_8_1 X.1 hG hL mw232 dX8_addStorey_132 ?_
              refine gtN_7_6 X.1 hG (lf_8_1 hL) mw180 dX8_addStorey_135 ?_
              refine lv_iload hx hb dX8_addStorey_138 (lv_at hl 0 rfl) ?_
              refine lv_icmp_ge (tgt := 162) hx hb dX8_addStorey_140 (by decide) (fun c22 => ?_) (fun c22 => ?_)
              · have hM := b_if hM c22
                refine lv_aload_n hx hb dX8_addStorey_162 rfl (lv_at hl 1 rfl) ?_
                refine gt_8_1 X.1 hG hL mw232 dX8_addStorey_163 ?_
                refine gtN_7_0 X.1 hG (lf_8_1 hL) mw163 dX8_addStorey_166 ?_
                refine lv_iload_n hx hb dX8_addStorey_169 rfl (lv_at hl 2 rfl) ?_
                refine lv_iload_n hx hb dX8_addStorey_170 rfl (lv_at hl 3 rfl) ?_
                refine g_callV_v (nA := 2) (o := M_X0_takeOut σ9 ((k + 4) + 1) p0 p1) (As := [.int p0, .int p1]) X.1 hG (lf_7_0 (lf_8_1 hL)) rfl rfl (fun _ _ h => C_X0_takeOut l E h (lf_7_0 (lf_8_1 hL))) mw479 mw480 mw481 mw16 (gw_ok mw482 rfl) (by decide +kernel) rfl ⟨Nat.le_of_ble_eq_true rfl, Nat.le_of_ble_eq_true rfl⟩ hl.1 rfl (Nat.le_of_ble_eq_true rfl) ⟨Nat.le_refl _, Nat.le_refl _⟩ dX8_addStorey_171 hM (fun σ12 r13 H locs hG hM => ?_)
                refine lv_aload_n hx hb dX8_addStorey_174 rfl (lv_at hl 1 rfl) ?_
                refine gt_8_1 X.1 hG hL mw232 dX8_addStorey_175 ?_
                refine lv_dup hx hb dX8_addStorey_178 rfl ?_
                refine gtN_7_6 X.1 hG (lf_8_1 hL) mw180 dX8_addStorey_179 ?_
                refine lv_iload hx hb dX8_addStorey_182 (lv_at hl 0 rfl) ?_
                refine lv_isub hx hb dX8_addStorey_184 ?_
                refine ptN_7_6 X.1 hG (lf_8_1 hL) mw180 dX8_addStorey_185 hM (fun σ14 H locs hG hM => ?_)
                refine lv_aload_n hx hb dX8_addStorey_188 rfl (lv_at hl 1 rfl) ?_
                refine gt_8_1 X.1 hG hL mw232 dX8_addStorey_189 ?_
                refine lv_dup hx hb dX8_addStorey_192 rfl ?_
                refine gtN_7_9 X.1 hG (lf_8_1 hL) mw189 dX8_addStorey_193 ?_
                refine lv_iload_n hx hb dX8_addStorey_196 rfl (lv_at hl 4 rfl) ?_
                refine lv_iadd hx hb dX8_addStorey_197 ?_
                refine ptN_7_9 X.1 hG (lf_8_1 hL) mw189 dX8_addStorey_198 hM (fun σ15 H locs hG hM => ?_)
                refine lv_aload_n hx hb dX8_addStorey_201 rfl (lv_at hl 1 rfl) ?_
                refine gt_8_1 X.1 hG hL mw232 dX8_addStorey_202 ?_
                refine gtN_7_1 X.1 hG (lf_8_1 hL) mw166 dX8_addStorey_205 ?_
                refine lv_iload_n hx hb dX8_addStorey_208 rfl (lv_at hl 3 rfl) ?_
                refine lv_aload_n hx hb dX8_addStorey_209 rfl (lv_at hl 1 rfl) ?_
                refine gt_8_1 X.1 hG hL mw232 dX8_addStorey_210 ?_
                refine gtN_7_0 X.1 hG (lf_8_1 hL) mw163 dX8_addStorey_213 ?_
                refine lv_iload_n hx hb dX8_addStorey_216 rfl (lv_at hl 2 rfl) ?_
                refine g_callV_i (nA := 1) (o := M_X0_weeksOf σ15 ((k + 4) + 1) p0) (As := [.int p0]) X.1 hG (lf_7_0 (lf_8_1 hL)) rfl rfl (fun _ _ h => C_X0_weeksOf l E h (lf_7_0 (lf_8_1 hL))) mw484 mw485 mw486 mw16 (gw_ok mw487 rfl) (by decide +kernel) rfl ⟨Nat.le_of_ble_eq_true rfl, Nat.le_of_ble_eq_true rfl⟩ hl.1 rfl (Nat.le_of_ble_eq_true rfl) ⟨Nat.le_refl _, Nat.le_refl _⟩ dX8_addStorey_217 hM (fun σ16 r17 H locs hG hM => ?_)
                refine lv_iload_n hx hb dX8_addStorey_220 rfl (lv_at hl 4 rfl) ?_
                refine g_callV_i (nA := 3) (o := M_X9_add σ16 ((k + 4) + 4) p1 r17 p2) (As := [.int p1, .int r17, .int p2]) X.1 hG (lf_7_1 (lf_8_1 hL)) rfl rfl (fun _ _ h => C_X9_add l E h (lf_7_1 (lf_8_1 hL))) mw488 mw489 mw490 mw17 (gw_ok mw491 rfl) (by decide +kernel) rfl ⟨Nat.le_of_ble_eq_true rfl, Nat.le_of_ble_eq_true rfl⟩ hl.1 rfl (Nat.le_of_ble_eq_true rfl) ⟨Nat.le_refl _, Nat.le_refl _⟩ dX8_addStorey_221 hM (fun σ18 r19 H locs hG hM => ?_)
                exact e_iret X hG dX8_addStorey_224 hM
              · have hM := b_else hM c22
                refine lv_aload_n hx hb dX8_addStorey_143 rfl (lv_at hl 1 rfl) ?_
                refine gt_8_0 X.1 hG hL mw229 dX8_addStorey_144 ?_
                refine lv_iconst (v := (3 : Int32)) hx hb dX8_addStorey_147 (by decide) ?_
                refine lv_iload hx hb dX8_addStorey_148 (lv_at hl 0 rfl) ?_
                refine lv_aload_n hx hb dX8_addStorey_150 rfl (lv_at hl 1 rfl) ?_
                refine gt_8_1 X.1 hG hL mw232 dX8_addStorey_151 ?_
                refine gtN_7_6 X.1 hG (lf_8_1 hL) mw180 dX8_addStorey_154 ?_
                refine lv_isub hx hb dX8_addStorey_157 ?_
                refine g_callV_i (nA := 2) (o := M_X6_refuse σ9 (k + 1) (3 : Int32) (v11 - (σ9 (k + 4) 6))) (As := [.int (3 : Int32), .int (v11 - (σ9 (k + 4) 6))]) X.1 hG (lf_8_0 hL) rfl rfl (fun _ _ h => C_X6_refuse l E h (lf_8_0 hL)) mw422 mw423 mw424 mw14 (gw_ok mw425 rfl) (by decide +kernel) rfl ⟨Nat.le_of_ble_eq_true rfl, Nat.le_of_ble_eq_true rfl⟩ hl.1 rfl (Nat.le_of_ble_eq_true rfl) ⟨Nat.le_refl _, Nat.le_refl _⟩ dX8_addStorey_158 hM (fun σ20 r21 H locs hG hM => ?_)
                exact e_iret X hG dX8_addStorey_161 hM
            · have hM := b_else hM c27
              refine lv_aload_n hx hb dX8_addStorey_106 rfl (lv_at hl 0 rfl) ?_
              refine gt_8_0 X.1 hG hL mw229 dX8_addStorey_107 ?_
              refine lv_iconst (v := (2 : Int32)) hx hb dX8_addStorey_110 (by decide) ?_
              refine lv_aload_n hx hb dX8_addStorey_111 rfl (lv_at hl 0 rfl) ?_
              refine gt_8_1 X.1 hG hL mw232 dX8_addStorey_112 ?_
              refine gtN_7_0 X.1 hG (lf_8_1 hL) mw163 dX8_addStorey_115 ?_
              refine lv_iload_n hx hb dX8_addStorey_118 rfl (lv_at hl 1 rfl) ?_
              refine g_callV_i (nA := 1) (o := M_X0_polesOf σ9 ((k + 4) + 1) p0) (As := [.int p0]) X.1 hG (lf_7_0 (lf_8_1 hL)) rfl rfl (fun _ _ h => C_X0_polesOf l E h (lf_7_0 (lf_8_1 hL))) mw472 mw473 mw474 mw16 (gw_ok mw475 rfl) (by decide +kernel) rfl ⟨Nat.le_of_ble_eq_true rfl, Nat.le_of_ble_eq_true rfl⟩ hl.1 rfl (Nat.le_of_ble_eq_true rfl) ⟨Nat.le_refl _, Nat.le_refl _⟩ dX8_addStorey_119 hM (fun σ23 r24 H locs hG hM => ?_)
              refine g_callV_i (nA := 2) (o := M_X6_refuse σ23 (k + 1) (2 : Int32) r24) (As := [.int (2 : Int32), .int r24]) X.1 hG (lf_8_0 hL) rfl rfl (fun _ _ h => C_X6_refuse l E h (lf_8_0 hL)) mw422 mw423 mw424 mw14 (gw_ok mw425 rfl) (by decide +kernel) rfl ⟨Nat.le_of_ble_eq_true rfl, Nat.le_of_ble_eq_true rfl⟩ hl.1 rfl (Nat.le_of_ble_eq_true rfl) ⟨Nat.le_refl _, Nat.le_refl _⟩ dX8_addStorey_122 hM (fun σ25 r26 H locs hG hM => ?_)
              exact e_iret X hG dX8_addStorey_125 hM
          · have hM := b_else hM c30
            refine lv_aload_n hx hb dX8_addStorey_75 rfl (lv_at hl 0 rfl) ?_
            refine gt_8_0 X.1 hG hL mw229 dX8_addStorey_76 ?_
            refine lv_iconst (v := (4 : Int32)) hx hb dX8_addStorey_79 (by decide) ?_
            refine lv_aload_n hx hb dX8_addStorey_80 rfl (lv_at hl 0 rfl) ?_
            refine gt_8_1 X.1 hG hL mw232 dX8_addStorey_81 ?_
            refine gtN_7_5 X.1 hG (lf_8_1 hL) mw177 dX8_addStorey_84 ?_
            refine g_callV_i (nA := 2) (o := M_X6_refuse σ7 (k + 1) (4 : Int32) (σ7 (k + 4) 5)) (As := [.int (4 : Int32), .int (σ7 (k + 4) 5)]) X.1 hG (lf_8_0 hL) rfl rfl (fun _ _ h => C_X6_refuse l E h (lf_8_0 hL)) mw422 mw423 mw424 mw14 (gw_ok mw425 rfl) (by decide +kernel) rfl ⟨Nat.le_of_ble_eq_true rfl, Nat.le_of_ble_eq_true rfl⟩ hl.1 rfl (Nat.le_of_ble_eq_true rfl) ⟨Nat.le_refl _, Nat.le_refl _⟩ dX8_addStorey_87 hM (fun σ28 r29 H locs hG hM => ?_)
            exact e_iret X hG dX8_addStorey_90 hM
        · have hM := b_else hM c33
          refine lv_aload_n hx hb dX8_addStorey_54 rfl (lv_at hl 0 rfl) ?_
          refine gt_8_0 X.1 hG hL mw229 dX8_addStorey_55 ?_
          refine lv_iconst (v := (1 : Int32)) hx hb dX8_addStorey_58 (by decide) ?_
          refine lv_bipush (v := (10 : Int32)) hx hb dX8_addStorey_59 (by decide) ?_
          refine g_callV_i (nA := 2) (o := M_X6_refuse σ5 (k + 1) (1 : Int32) (10 : Int32)) (As := [.int (1 : Int32), .int (10 : Int32)]) X.1 hG (lf_8_0 hL) rfl rfl (fun _ _ h => C_X6_refuse l E h (lf_8_0 hL)) mw422 mw423 mw424 mw14 (gw_ok mw425 rfl) (by decide +kernel) rfl ⟨Nat.le_of_ble_eq_true rfl, Nat.le_of_ble_eq_true rfl⟩ hl.1 rfl (Nat.le_of_ble_eq_true rfl) ⟨Nat.le_refl _, Nat.le_refl _⟩ dX8_addStorey_61 hM (fun σ31 r32 H locs hG hM => ?_)
          exact e_iret X hG dX8_addStorey_64 hM
      · have hM := b_if hM c34
        refine lv_bipush (v := (-2 : Int32)) hx hb dX8_addStorey_36 (by decide) ?_
        exact e_iret X hG dX8_addStorey_38 hM
  · have hM := b_if hM c36
    refine lv_iconst (v := (-1 : Int32)) hx hb dX8_addStorey_14 (by decide) ?_
    exact e_iret X hG dX8_addStorey_15 hM
def B_X8_passDays_23  : Nat → St → Nat → Int32 → Int32 → Int32 → Option (St × Int32)
  | 0, _, _, _, _, _ => none
  | n + 1, σ, k, x1, x2, x3 => if x1 ≤ x3 then some (σ, (σ (k + 4) 12) - x2) else (bcall (M_X7_passDay σ (k + 4)) fun σ4 r5 => blet (x3 + (1 : Int32)) fun v6 => B_X8_passDays_23 n σ4 k x1 x2 v6)
def M_X8_passDays (σ : St) (k : Nat) (p0 : Int32) : Option (St × Int32) := bcall (M_X10_isWithin σ p0 (1 : Int32) (30 : Int32)) fun σ1 r2 => if r2 = 0 then some (σ1, (-2 : Int32)) else (blet (σ1 (k + 4) 12) fun v3 => B_X8_passDays_23 FU σ1 k p0 v3 (0 : Int32))
set_option maxRecDepth 20000 in
set_option maxHeartbeats 4000000 in
theorem w_X8_passDays_23 {p : Program} {l : Launch} {e : Env} {s : State} {m : MethodId} {below : List Frame} {meth : Method} {c : Code} {args : Array Value} {E : Ev} {k : Nat} (X : Bx E p m meth c cX8_passDays 4 (some .int) s args RX8) (hL : lay 8 k) : ∀ (n : Nat) (σ : St) (x1 x2 x3 : Int32) (H : Heap) (locs : List Loc) (ls : Array Slot) (z : St × Int32), GS E σ s.heap H locs → lv_has ls 4 [(0, .ref (E.1 k)), (1, .int x1), (2, .int x2), (3, .int x3)] → B_X8_passDays_23 n σ k x1 x2 x3 = some z → W p l e (rmd 5) s m args below meth c H locs 0 0 (QI E z below args s) (F0 m 23 ls []) := by
  have hx := X.1.1.1
  have hb := X.1.1.2.1
  intro n
  induction n with
  | zero => intro σ x1 x2 x3 H locs ls z  hG hl hM; cases hM
  | succ n ih =>
    intro σ x1 x2 x3 H locs ls z  hG hl hM
    unfold B_X8_passDays_23 at hM
    refine lv_iload_n hx hb dX8_passDays_23 rfl (lv_at hl 3 rfl) ?_
    refine lv_iload_n hx hb dX8_passDays_24 rfl (lv_at hl 1 rfl) ?_
    refine lv_icmp_ge (tgt := 41) hx hb dX8_passDays_25 (by decide) (fun c7 => ?_) (fun c7 => ?_)
    · have hM := b_if hM c7
      refine lv_aload_n hx hb dX8_passDays_41 rfl (lv_at hl 0 rfl) ?_
      refine gt_8_1 X.1 hG hL mw232 dX8_passDays_42 ?_
      refine gtN_7_12 X.1 hG (lf_8_1 hL) mw196 dX8_passDays_45 ?_
      refine lv_iload_n hx hb dX8_passDays_48 rfl (lv_at hl 2 rfl) ?_
      refine lv_isub hx hb dX8_passDays_49 ?_
      exact e_iret X hG dX8_passDays_50 hM
    · have hM := b_else hM c7
      refine lv_aload_n hx hb dX8_passDays_28 rfl (lv_at hl 0 rfl) ?_
      refine gt_8_1 X.1 hG hL mw232 dX8_passDays_29 ?_
      refine g_callV_v (nA := 0) (o := M_X7_passDay σ (k + 4)) (As := []) X.1 hG (lf_8_1 hL) rfl rfl (fun _ _ h => C_X7_passDay l E h (lf_8_1 hL)) mw669 mw670 mw671 mw15 (gw_ok mw672 rfl) (by decide +kernel) rfl ⟨Nat.le_of_ble_eq_true rfl, Nat.le_of_ble_eq_true rfl⟩ hl.1 rfl (Nat.le_of_ble_eq_true rfl) ⟨Nat.le_refl _, Nat.le_refl _⟩ dX8_passDays_32 hM (fun σ4 r5 H locs hG hM => ?_)
      obtain ⟨v6, ev6, hM⟩ := g_nm hM
      refine lv_iinc (v := v6) (lv' := [(3, .int v6), (0, .ref (E.1 k)), (1, .int x1), (2, .int x2)]) hx hb dX8_passDays_35 hl (k := 3) rfl (by rw [ev6]; rfl) (by decide) rfl (fun ls hl => ?_)
      refine lv_goto (tgt := 23) hx hb dX8_passDays_38 (by decide) ?_
      exact ih σ4 x1 x2 v6 _ _ _ z hG (lv_sub hl [1, 2, 3, 0] rfl) hM
set_option maxRecDepth 20000 in
set_option maxHeartbeats 4000000 in
theorem C_X8_passDays (l : Launch) (E : Ev) {σ σ' : St} {k : Nat} {p0 : Int32} {r : Int32} (h : M_X8_passDays σ k p0 = some (σ', r)) (hL : lay 8 k) : Mi l E yX8_passDays cX8_passDays 4 (some .int) 5 [.ref (E.1 k), .int p0] σ σ' r := by
  refine Mi_of (C := RX8) rfl (by decide) (Nat.le_of_ble_eq_true rfl) (z := (σ', r)) (fun p e s m below meth c ls X hG hl => ?_)
  have hx := X.1.1.1
  have hb := X.1.1.2.1
  have hM := h
  unfold M_X8_passDays at hM
  generalize (σ', r) = z at hM ⊢
  have hl : lv_has ls 4 [(0, .ref (E.1 k)), (1, .int p0)] := hl
  refine lv_iload_n hx hb dX8_passDays_0 rfl (lv_at hl 1 rfl) ?_
  refine lv_iconst (v := (1 : Int32)) hx hb dX8_passDays_1 (by decide) ?_
  refine lv_bipush (v := (30 : Int32)) hx hb dX8_passDays_2 (by decide) ?_
  refine g_callSN_i (nA := 3) (o := M_X10_isWithin σ p0 (1 : Int32) (30 : Int32)) (As := [.int p0, .int (1 : Int32), .int (30 : Int32)]) X.1 hG (fun _ _ h => C_X10_isWithin l E h ) mw421 mw369 mw12 (gw_ok mw370 rfl) (by decide +kernel) rfl ⟨Nat.le_of_ble_eq_true rfl, Nat.le_of_ble_eq_true rfl⟩ hl.1 rfl (Nat.le_of_ble_eq_true rfl) ⟨Nat.le_refl _, Nat.le_refl _⟩ dX8_passDays_4 hM (fun σ1 r2 H locs hG hM => ?_)
  refine lv_if_ne (tgt := 13) hx hb dX8_passDays_7 (by decide) (fun c8 => ?_) (fun c8 => ?_)
  · have hM := b_else hM c8
    refine lv_aload_n hx hb dX8_passDays_13 rfl (lv_at hl 0 rfl) ?_
    refine gt_8_1 X.1 hG hL mw232 dX8_passDays_14 ?_
    refine gtN_7_12 X.1 hG (lf_8_1 hL) mw196 dX8_passDays_17 ?_
    refine g_name hM (fun v3 hM => ?_)
    refine lv_istore_n (lv' := [(2, .int v3), (0, .ref (E.1 k)), (1, .int p0)]) hx hb dX8_passDays_20 rfl hl (by decide) rfl (fun ls hl => ?_)
    refine lv_iconst (v := (0 : Int32)) hx hb dX8_passDays_21 (by decide) ?_
    refine lv_istore_n (lv' := [(3, .int (0 : Int32)), (2, .int v3), (0, .ref (E.1 k)), (1, .int p0)]) hx hb dX8_passDays_22 rfl hl (by decide) rfl (fun ls hl => ?_)
    exact w_X8_passDays_23 X hL FU σ1 p0 v3 (0 : Int32) _ _ _ z hG (lv_sub hl [2, 3, 1, 0] rfl) hM
  · have hM := b_if hM c8
    refine lv_bipush (v := (-2 : Int32)) hx hb dX8_passDays_10 (by decide) ?_
    exact e_iret X hG dX8_passDays_12 hM
def M_X10_bundle (σ : St) (k : Nat) (p0 p1 : Int32) : Option (St × Int32) := bcall (M_X2_note σ (k + 59) (k + 5)) fun σ1 r2 => bcall (M_X8_addBundle σ1 (k + 1) p0 p1) fun σ3 r4 => bcall (M_X10_kept σ3 k r4) fun σ5 r6 => some (σ5, r6)
set_option maxRecDepth 20000 in
set_option maxHeartbeats 4000000 in
theorem C_X10_bundle (l : Launch) (E : Ev) {σ σ' : St} {k : Nat} {p0 : Int32} {p1 : Int32} {r : Int32} (h : M_X10_bundle σ k p0 p1 = some (σ', r)) (hL : lay 10 k) : Mi l E yX10_bundle cX10_bundle 3 (some .int) 5 [.ref (E.1 k), .int p0, .int p1] σ σ' r := by
  refine Mi_of (C := RX10) rfl (by decide) (Nat.le_of_ble_eq_true rfl) (z := (σ', r)) (fun p e s m below meth c ls X hG hl => ?_)
  have hx := X.1.1.1
  have hb := X.1.1.2.1
  have hM := h
  unfold M_X10_bundle at hM
  generalize (σ', r) = z at hM ⊢
  have hl : lv_has ls 3 [(0, .ref (E.1 k)), (1, .int p0), (2, .int p1)] := hl
  refine lv_aload_n hx hb dX10_bundle_0 rfl (lv_at hl 0 rfl) ?_
  refine gt_10_4 X.1 hG hL mw303 dX10_bundle_1 ?_
  refine lv_aload_n hx hb dX10_bundle_4 rfl (lv_at hl 0 rfl) ?_
  refine gt_10_1 X.1 hG hL mw300 dX10_bundle_5 ?_
  refine g_callV_v (nA := 1) (o := M_X2_note σ (k + 59) (k + 5)) (As := [.ref (E.1 (k + 5))]) X.1 hG (lf_10_4 hL) rfl rfl (fun _ _ h => C_X2_note l E h (lf_10_4 hL) (lf_10_1 hL)) mw379 mw380 mw381 mw20 (gw_ok mw382 rfl) (by decide +kernel) rfl ⟨Nat.le_of_ble_eq_true rfl, Nat.le_of_ble_eq_true rfl⟩ hl.1 rfl (Nat.le_of_ble_eq_true rfl) ⟨Nat.le_refl _, Nat.le_refl _⟩ dX10_bundle_8 hM (fun σ1 r2 H locs hG hM => ?_)
  refine lv_aload_n hx hb dX10_bundle_11 rfl (lv_at hl 0 rfl) ?_
  refine lv_aload_n hx hb dX10_bundle_12 rfl (lv_at hl 0 rfl) ?_
  refine gt_10_0 X.1 hG hL mw299 dX10_bundle_13 ?_
  refine lv_iload_n hx hb dX10_bundle_16 rfl (lv_at hl 1 rfl) ?_
  refine lv_iload_n hx hb dX10_bundle_17 rfl (lv_at hl 2 rfl) ?_
  refine g_callV_i (nA := 2) (o := M_X8_addBundle σ1 (k + 1) p0 p1) (As := [.int p0, .int p1]) X.1 hG (lf_10_0 hL) rfl rfl (fun _ _ h => C_X8_addBundle l E h (lf_10_0 hL)) mw417 mw418 mw419 mw13 (gw_ok mw420 rfl) (by decide +kernel) rfl ⟨Nat.le_of_ble_eq_true rfl, Nat.le_of_ble_eq_true rfl⟩ hl.1 rfl (Nat.le_of_ble_eq_true rfl) ⟨Nat.le_refl _, Nat.le_refl _⟩ dX10_bundle_18 hM (fun σ3 r4 H locs hG hM => ?_)
  refine g_callV_i (nA := 1) (o := M_X10_kept σ3 k r4) (As := [.int r4]) X.1 hG hL rfl rfl (fun _ _ h => C_X10_kept l E h hL) mw438 mw440 mw1 mw12 (gw_ok mw441 rfl) (by decide +kernel) rfl ⟨Nat.le_of_ble_eq_true rfl, Nat.le_of_ble_eq_true rfl⟩ hl.1 rfl (Nat.le_of_ble_eq_true rfl) ⟨Nat.le_refl _, Nat.le_refl _⟩ dX10_bundle_21 hM (fun σ5 r6 H locs hG hM => ?_)
  exact e_iret X hG dX10_bundle_24 hM
def M_X10_strips (σ : St) (k : Nat) (p0 : Int32) : Option (St × Int32) := bcall (M_X2_note σ (k + 59) (k + 5)) fun σ1 r2 => bcall (M_X8_addStrips σ1 (k + 1) p0) fun σ3 r4 => bcall (M_X10_kept σ3 k r4) fun σ5 r6 => some (σ5, r6)
set_option maxRecDepth 20000 in
set_option maxHeartbeats 4000000 in
theorem C_X10_strips (l : Launch) (E : Ev) {σ σ' : St} {k : Nat} {p0 : Int32} {r : Int32} (h : M_X10_strips σ k p0 = some (σ', r)) (hL : lay 10 k) : Mi l E yX10_strips cX10_strips 2 (some .int) 5 [.ref (E.1 k), .int p0] σ σ' r := by
  refine Mi_of (C := RX10) rfl (by decide) (Nat.le_of_ble_eq_true rfl) (z := (σ', r)) (fun p e s m below meth c ls X hG hl => ?_)
  have hx := X.1.1.1
  have hb := X.1.1.2.1
  have hM := h
  unfold M_X10_strips at hM
  generalize (σ', r) = z at hM ⊢
  have hl : lv_has ls 2 [(0, .ref (E.1 k)), (1, .int p0)] := hl
  refine lv_aload_n hx hb dX10_strips_0 rfl (lv_at hl 0 rfl) ?_
  refine gt_10_4 X.1 hG hL mw303 dX10_strips_1 ?_
  refine lv_aload_n hx hb dX10_strips_4 rfl (lv_at hl 0 rfl) ?_
  refine gt_10_1 X.1 hG hL mw300 dX10_strips_5 ?_
  refine g_callV_v (nA := 1) (o := M_X2_note σ (k + 59) (k + 5)) (As := [.ref (E.1 (k + 5))]) X.1 hG (lf_10_4 hL) rfl rfl (fun _ _ h => C_X2_note l E h (lf_10_4 hL) (lf_10_1 hL)) mw379 mw380 mw381 mw20 (gw_ok mw382 rfl) (by decide +kernel) rfl ⟨Nat.le_of_ble_eq_true rfl, Nat.le_of_ble_eq_true rfl⟩ hl.1 rfl (Nat.le_of_ble_eq_true rfl) ⟨Nat.le_refl _, Nat.le_refl _⟩ dX10_strips_8 hM (fun σ1 r2 H locs hG hM => ?_)
  refine lv_aload_n hx hb dX10_strips_11 rfl (lv_at hl 0 rfl) ?_
  refine lv_aload_n hx hb dX10_strips_12 rfl (lv_at hl 0 rfl) ?_
  refine gt_10_0 X.1 hG hL mw299 dX10_strips_13 ?_
  refine lv_iload_n hx hb dX10_strips_16 rfl (lv_at hl 1 rfl) ?_
  refine g_callV_i (nA := 1) (o := M_X8_addStrips σ1 (k + 1) p0) (As := [.int p0]) X.1 hG (lf_10_0 hL) rfl rfl (fun _ _ h => C_X8_addStrips l E h (lf_10_0 hL)) mw451 mw452 mw453 mw13 (gw_ok mw454 rfl) (by decide +kernel) rfl ⟨Nat.le_of_ble_eq_true rfl, Nat.le_of_ble_eq_true rfl⟩ hl.1 rfl (Nat.le_of_ble_eq_true rfl) ⟨Nat.le_refl _, Nat.le_refl _⟩ dX10_strips_17 hM (fun σ3 r4 H locs hG hM => ?_)
  refine g_callV_i (nA := 1) (o := M_X10_kept σ3 k r4) (As := [.int r4]) X.1 hG hL rfl rfl (fun _ _ h => C_X10_kept l E h hL) mw438 mw440 mw1 mw12 (gw_ok mw441 rfl) (by decide +kernel) rfl ⟨Nat.le_of_ble_eq_true rfl, Nat.le_of_ble_eq_true rfl⟩ hl.1 rfl (Nat.le_of_ble_eq_true rfl) ⟨Nat.le_refl _, Nat.le_refl _⟩ dX10_strips_20 hM (fun σ5 r6 H locs hG hM => ?_)
  exact e_iret X hG dX10_strips_23 hM
def M_X10_build (σ : St) (k : Nat) (p0 p1 p2 : Int32) : Option (St × Int32) := bcall (M_X2_note σ (k + 59) (k + 5)) fun σ1 r2 => bcall (M_X8_addStorey σ1 (k + 1) p0 p1 p2) fun σ3 r4 => bcall (M_X10_kept σ3 k r4) fun σ5 r6 => some (σ5, r6)
set_option maxRecDepth 20000 in
set_option maxHeartbeats 4000000 in
theorem C_X10_build (l : Launch) (E : Ev) {σ σ' : St} {k : Nat} {p0 : Int32} {p1 : Int32} {p2 : Int32} {r : Int32} (h : M_X10_build σ k p0 p1 p2 = some (σ', r)) (hL : lay 10 k) : Mi l E yX10_build cX10_build 4 (some .int) 5 [.ref (E.1 k), .int p0, .int p1, .int p2] σ σ' r := by
  refine Mi_of (C := RX10) rfl (by decide) (Nat.le_of_ble_eq_true rfl) (z := (σ', r)) (fun p e s m below meth c ls X hG hl => ?_)
  have hx := X.1.1.1
  have hb := X.1.1.2.1
  have hM := h
  unfold M_X10_build at hM
  generalize (σ', r) = z at hM ⊢
  have hl : lv_has ls 4 [(0, .ref (E.1 k)), (1, .int p0), (2, .int p1), (3, .int p2)] := hl
  refine lv_aload_n hx hb dX10_build_0 rfl (lv_at hl 0 rfl) ?_
  refine gt_10_4 X.1 hG hL mw303 dX10_build_1 ?_
  refine lv_aload_n hx hb dX10_build_4 rfl (lv_at hl 0 rfl) ?_
  refine gt_10_1 X.1 hG hL mw300 dX10_build_5 ?_
  refine g_callV_v (nA := 1) (o := M_X2_note σ (k + 59) (k + 5)) (As := [.ref (E.1 (k + 5))]) X.1 hG (lf_10_4 hL) rfl rfl (fun _ _ h => C_X2_note l E h (lf_10_4 hL) (lf_10_1 hL)) mw379 mw380 mw381 mw20 (gw_ok mw382 rfl) (by decide +kernel) rfl ⟨Nat.le_of_ble_eq_true rfl, Nat.le_of_ble_eq_true rfl⟩ hl.1 rfl (Nat.le_of_ble_eq_true rfl) ⟨Nat.le_refl _, Nat.le_refl _⟩ dX10_build_8 hM (fun σ1 r2 H locs hG hM => ?_)
  refine lv_aload_n hx hb dX10_build_11 rfl (lv_at hl 0 rfl) ?_
  refine lv_aload_n hx hb dX10_build_12 rfl (lv_at hl 0 rfl) ?_
  refine gt_10_0 X.1 hG hL mw299 dX10_build_13 ?_
  refine lv_iload_n hx hb dX10_build_16 rfl (lv_at hl 1 rfl) ?_
  refine lv_iload_n hx hb dX10_build_17 rfl (lv_at hl 2 rfl) ?_
  refine lv_iload_n hx hb dX10_build_18 rfl (lv_at hl 3 rfl) ?_
  refine g_callV_i (nA := 3) (o := M_X8_addStorey σ1 (k + 1) p0 p1 p2) (As := [.int p0, .int p1, .int p2]) X.1 hG (lf_10_0 hL) rfl rfl (fun _ _ h => C_X8_addStorey l E h (lf_10_0 hL)) mw460 mw461 mw462 mw13 (gw_ok mw463 rfl) (by decide +kernel) rfl ⟨Nat.le_of_ble_eq_true rfl, Nat.le_of_ble_eq_true rfl⟩ hl.1 rfl (Nat.le_of_ble_eq_true rfl) ⟨Nat.le_refl _, Nat.le_refl _⟩ dX10_build_19 hM (fun σ3 r4 H locs hG hM => ?_)
  refine g_callV_i (nA := 1) (o := M_X10_kept σ3 k r4) (As := [.int r4]) X.1 hG hL rfl rfl (fun _ _ h => C_X10_kept l E h hL) mw438 mw440 mw1 mw12 (gw_ok mw441 rfl) (by decide +kernel) rfl ⟨Nat.le_of_ble_eq_true rfl, Nat.le_of_ble_eq_true rfl⟩ hl.1 rfl (Nat.le_of_ble_eq_true rfl) ⟨Nat.le_refl _, Nat.le_refl _⟩ dX10_build_22 hM (fun σ5 r6 H locs hG hM => ?_)
  exact e_iret X hG dX10_build_25 hM
def M_X10_tie (σ : St) (k : Nat) (p0 : Int32) : Option (St × Int32) := bcall (M_X2_note σ (k + 59) (k + 5)) fun σ1 r2 => bcall (M_X8_tieAnew σ1 (k + 1) p0) fun σ3 r4 => bcall (M_X10_kept σ3 k r4) fun σ5 r6 => some (σ5, r6)
set_option maxRecDepth 20000 in
set_option maxHeartbeats 4000000 in
theorem C_X10_tie (l : Launch) (E : Ev) {σ σ' : St} {k : Nat} {p0 : Int32} {r : Int32} (h : M_X10_tie σ k p0 = some (σ', r)) (hL : lay 10 k) : Mi l E yX10_tie cX10_tie 2 (some .int) 5 [.ref (E.1 k), .int p0] σ σ' r := by
  refine Mi_of (C := RX10) rfl (by decide) (Nat.le_of_ble_eq_true rfl) (z := (σ', r)) (fun p e s m below meth c ls X hG hl => ?_)
  have hx := X.1.1.1
  have hb := X.1.1.2.1
  have hM := h
  unfold M_X10_tie at hM
  generalize (σ', r) = z at hM ⊢
  have hl : lv_has ls 2 [(0, .ref (E.1 k)), (1, .int p0)] := hl
  refine lv_aload_n hx hb dX10_tie_0 rfl (lv_at hl 0 rfl) ?_
  refine gt_10_4 X.1 hG hL mw303 dX10_tie_1 ?_
  refine lv_aload_n hx hb dX10_tie_4 rfl (lv_at hl 0 rfl) ?_
  refine gt_10_1 X.1 hG hL mw300 dX10_tie_5 ?_
  refine g_callV_v (nA := 1) (o := M_X2_note σ (k + 59) (k + 5)) (As := [.ref (E.1 (k + 5))]) X.1 hG (lf_10_4 hL) rfl rfl (fun _ _ h => C_X2_note l E h (lf_10_4 hL) (lf_10_1 hL)) mw379 mw380 mw381 mw20 (gw_ok mw382 rfl) (by decide +kernel) rfl ⟨Nat.le_of_ble_eq_true rfl, Nat.le_of_ble_eq_true rfl⟩ hl.1 rfl (Nat.le_of_ble_eq_true rfl) ⟨Nat.le_refl _, Nat.le_refl _⟩ dX10_tie_8 hM (fun σ1 r2 H locs hG hM => ?_)
  refine lv_aload_n hx hb dX10_tie_11 rfl (lv_at hl 0 rfl) ?_
  refine lv_aload_n hx hb dX10_tie_12 rfl (lv_at hl 0 rfl) ?_
  refine gt_10_0 X.1 hG hL mw299 dX10_tie_13 ?_
  refine lv_iload_n hx hb dX10_tie_16 rfl (lv_at hl 1 rfl) ?_
  refine g_callV_i (nA := 1) (o := M_X8_tieAnew σ1 (k + 1) p0) (As := [.int p0]) X.1 hG (lf_10_0 hL) rfl rfl (fun _ _ h => C_X8_tieAnew l E h (lf_10_0 hL)) mw842 mw843 mw844 mw13 (gw_ok mw845 rfl) (by decide +kernel) rfl ⟨Nat.le_of_ble_eq_true rfl, Nat.le_of_ble_eq_true rfl⟩ hl.1 rfl (Nat.le_of_ble_eq_true rfl) ⟨Nat.le_refl _, Nat.le_refl _⟩ dX10_tie_17 hM (fun σ3 r4 H locs hG hM => ?_)
  refine g_callV_i (nA := 1) (o := M_X10_kept σ3 k r4) (As := [.int r4]) X.1 hG hL rfl rfl (fun _ _ h => C_X10_kept l E h hL) mw438 mw440 mw1 mw12 (gw_ok mw441 rfl) (by decide +kernel) rfl ⟨Nat.le_of_ble_eq_true rfl, Nat.le_of_ble_eq_true rfl⟩ hl.1 rfl (Nat.le_of_ble_eq_true rfl) ⟨Nat.le_refl _, Nat.le_refl _⟩ dX10_tie_20 hM (fun σ5 r6 H locs hG hM => ?_)
  exact e_iret X hG dX10_tie_23 hM
def M_X10_crew (σ : St) (k : Nat) (p0 : Int32) : Option (St × Int32) := bcall (M_X2_note σ (k + 59) (k + 5)) fun σ1 r2 => bcall (M_X8_addCrew σ1 (k + 1) p0) fun σ3 r4 => bcall (M_X10_kept σ3 k r4) fun σ5 r6 => some (σ5, r6)
set_option maxRecDepth 20000 in
set_option maxHeartbeats 4000000 in
theorem C_X10_crew (l : Launch) (E : Ev) {σ σ' : St} {k : Nat} {p0 : Int32} {r : Int32} (h : M_X10_crew σ k p0 = some (σ', r)) (hL : lay 10 k) : Mi l E yX10_crew cX10_crew 2 (some .int) 5 [.ref (E.1 k), .int p0] σ σ' r := by
  refine Mi_of (C := RX10) rfl (by decide) (Nat.le_of_ble_eq_true rfl) (z := (σ', r)) (fun p e s m below meth c ls X hG hl => ?_)
  have hx := X.1.1.1
  have hb := X.1.1.2.1
  have hM := h
  unfold M_X10_crew at hM
  generalize (σ', r) = z at hM ⊢
  have hl : lv_has ls 2 [(0, .ref (E.1 k)), (1, .int p0)] := hl
  refine lv_aload_n hx hb dX10_crew_0 rfl (lv_at hl 0 rfl) ?_
  refine gt_10_4 X.1 hG hL mw303 dX10_crew_1 ?_
  refine lv_aload_n hx hb dX10_crew_4 rfl (lv_at hl 0 rfl) ?_
  refine gt_10_1 X.1 hG hL mw300 dX10_crew_5 ?_
  refine g_callV_v (nA := 1) (o := M_X2_note σ (k + 59) (k + 5)) (As := [.ref (E.1 (k + 5))]) X.1 hG (lf_10_4 hL) rfl rfl (fun _ _ h => C_X2_note l E h (lf_10_4 hL) (lf_10_1 hL)) mw379 mw380 mw381 mw20 (gw_ok mw382 rfl) (by decide +kernel) rfl ⟨Nat.le_of_ble_eq_true rfl, Nat.le_of_ble_eq_true rfl⟩ hl.1 rfl (Nat.le_of_ble_eq_true rfl) ⟨Nat.le_refl _, Nat.le_refl _⟩ dX10_crew_8 hM (fun σ1 r2 H locs hG hM => ?_)
  refine lv_aload_n hx hb dX10_crew_11 rfl (lv_at hl 0 rfl) ?_
  refine lv_aload_n hx hb dX10_crew_12 rfl (lv_at hl 0 rfl) ?_
  refine gt_10_0 X.1 hG hL mw299 dX10_crew_13 ?_
  refine lv_iload_n hx hb dX10_crew_16 rfl (lv_at hl 1 rfl) ?_
  refine g_callV_i (nA := 1) (o := M_X8_addCrew σ1 (k + 1) p0) (As := [.int p0]) X.1 hG (lf_10_0 hL) rfl rfl (fun _ _ h => C_X8_addCrew l E h (lf_10_0 hL)) mw501 mw502 mw503 mw13 (gw_ok mw504 rfl) (by decide +kernel) rfl ⟨Nat.le_of_ble_eq_true rfl, Nat.le_of_ble_eq_true rfl⟩ hl.1 rfl (Nat.le_of_ble_eq_true rfl) ⟨Nat.le_refl _, Nat.le_refl _⟩ dX10_crew_17 hM (fun σ3 r4 H locs hG hM => ?_)
  refine g_callV_i (nA := 1) (o := M_X10_kept σ3 k r4) (As := [.int r4]) X.1 hG hL rfl rfl (fun _ _ h => C_X10_kept l E h hL) mw438 mw440 mw1 mw12 (gw_ok mw441 rfl) (by decide +kernel) rfl ⟨Nat.le_of_ble_eq_true rfl, Nat.le_of_ble_eq_true rfl⟩ hl.1 rfl (Nat.le_of_ble_eq_true rfl) ⟨Nat.le_refl _, Nat.le_refl _⟩ dX10_crew_20 hM (fun σ5 r6 H locs hG hM => ?_)
  exact e_iret X hG dX10_crew_23 hM
def M_X10_up (σ : St) (k : Nat) (p0 p1 : Int32) : Option (St × Int32) := bcall (M_X2_note σ (k + 59) (k + 5)) fun σ1 r2 => bcall (M_X8_sendUp σ1 (k + 1) p0 p1) fun σ3 r4 => bcall (M_X10_kept σ3 k r4) fun σ5 r6 => some (σ5, r6)
set_option maxRecDepth 20000 in
set_option maxHeartbeats 4000000 in
theorem C_X10_up (l : Launch) (E : Ev) {σ σ' : St} {k : Nat} {p0 : Int32} {p1 : Int32} {r : Int32} (h : M_X10_up σ k p0 p1 = some (σ', r)) (hL : lay 10 k) : Mi l E yX10_up cX10_up 3 (some .int) 6 [.ref (E.1 k), .int p0, .int p1] σ σ' r := by
  refine Mi_of (C := RX10) rfl (by decide) (Nat.le_of_ble_eq_true rfl) (z := (σ', r)) (fun p e s m below meth c ls X hG hl => ?_)
  have hx := X.1.1.1
  have hb := X.1.1.2.1
  have hM := h
  unfold M_X10_up at hM
  generalize (σ', r) = z at hM ⊢
  have hl : lv_has ls 3 [(0, .ref (E.1 k)), (1, .int p0), (2, .int p1)] := hl
  refine lv_aload_n hx hb dX10_up_0 rfl (lv_at hl 0 rfl) ?_
  refine gt_10_4 X.1 hG hL mw303 dX10_up_1 ?_
  refine lv_aload_n hx hb dX10_up_4 rfl (lv_at hl 0 rfl) ?_
  refine gt_10_1 X.1 hG hL mw300 dX10_up_5 ?_
  refine g_callV_v (nA := 1) (o := M_X2_note σ (k + 59) (k + 5)) (As := [.ref (E.1 (k + 5))]) X.1 hG (lf_10_4 hL) rfl rfl (fun _ _ h => C_X2_note l E h (lf_10_4 hL) (lf_10_1 hL)) mw379 mw380 mw381 mw20 (gw_ok mw382 rfl) (by decide +kernel) rfl ⟨Nat.le_of_ble_eq_true rfl, Nat.le_of_ble_eq_true rfl⟩ hl.1 rfl (Nat.le_of_ble_eq_true rfl) ⟨Nat.le_refl _, Nat.le_refl _⟩ dX10_up_8 hM (fun σ1 r2 H locs hG hM => ?_)
  refine lv_aload_n hx hb dX10_up_11 rfl (lv_at hl 0 rfl) ?_
  refine lv_aload_n hx hb dX10_up_12 rfl (lv_at hl 0 rfl) ?_
  refine gt_10_0 X.1 hG hL mw299 dX10_up_13 ?_
  refine lv_iload_n hx hb dX10_up_16 rfl (lv_at hl 1 rfl) ?_
  refine lv_iload_n hx hb dX10_up_17 rfl (lv_at hl 2 rfl) ?_
  refine g_callV_i (nA := 2) (o := M_X8_sendUp σ1 (k + 1) p0 p1) (As := [.int p0, .int p1]) X.1 hG (lf_10_0 hL) rfl rfl (fun _ _ h => C_X8_sendUp l E h (lf_10_0 hL)) mw514 mw515 mw516 mw13 (gw_ok mw517 rfl) (by decide +kernel) rfl ⟨Nat.le_of_ble_eq_true rfl, Nat.le_of_ble_eq_true rfl⟩ hl.1 rfl (Nat.le_of_ble_eq_true rfl) ⟨Nat.le_refl _, Nat.le_refl _⟩ dX10_up_18 hM (fun σ3 r4 H locs hG hM => ?_)
  refine g_callV_i (nA := 1) (o := M_X10_kept σ3 k r4) (As := [.int r4]) X.1 hG hL rfl rfl (fun _ _ h => C_X10_kept l E h hL) mw438 mw440 mw1 mw12 (gw_ok mw441 rfl) (by decide +kernel) rfl ⟨Nat.le_of_ble_eq_true rfl, Nat.le_of_ble_eq_true rfl⟩ hl.1 rfl (Nat.le_of_ble_eq_true rfl) ⟨Nat.le_refl _, Nat.le_refl _⟩ dX10_up_21 hM (fun σ5 r6 H locs hG hM => ?_)
  exact e_iret X hG dX10_up_24 hM
def M_X10_down (σ : St) (k : Nat) (p0 : Int32) : Option (St × Int32) := bcall (M_X2_note σ (k + 59) (k + 5)) fun σ1 r2 => bcall (M_X8_callDown σ1 (k + 1) p0) fun σ3 r4 => bcall (M_X10_kept σ3 k r4) fun σ5 r6 => some (σ5, r6)
set_option maxRecDepth 20000 in
set_option maxHeartbeats 4000000 in
theorem C_X10_down (l : Launch) (E : Ev) {σ σ' : St} {k : Nat} {p0 : Int32} {r : Int32} (h : M_X10_down σ k p0 = some (σ', r)) (hL : lay 10 k) : Mi l E yX10_down cX10_down 2 (some .int) 5 [.ref (E.1 k), .int p0] σ σ' r := by
  refine Mi_of (C := RX10) rfl (by decide) (Nat.le_of_ble_eq_true rfl) (z := (σ', r)) (fun p e s m below meth c ls X hG hl => ?_)
  have hx := X.1.1.1
  have hb := X.1.1.2.1
  have hM := h
  unfold M_X10_down at hM
  generalize (σ', r) = z at hM ⊢
  have hl : lv_has ls 2 [(0, .ref (E.1 k)), (1, .int p0)] := hl
  refine lv_aload_n hx hb dX10_down_0 rfl (lv_at hl 0 rfl) ?_
  refine gt_10_4 X.1 hG hL mw303 dX10_down_1 ?_
  refine lv_aload_n hx hb dX10_down_4 rfl (lv_at hl 0 rfl) ?_
  refine gt_10_1 X.1 hG hL mw300 dX10_down_5 ?_
  refine g_callV_v (nA := 1) (o := M_X2_note σ (k + 59) (k + 5)) (As := [.ref (E.1 (k + 5))]) X.1 hG (lf_10_4 hL) rfl rfl (fun _ _ h => C_X2_note l E h (lf_10_4 hL) (lf_10_1 hL)) mw379 mw380 mw381 mw20 (gw_ok mw382 rfl) (by decide +kernel) rfl ⟨Nat.le_of_ble_eq_true rfl, Nat.le_of_ble_eq_true rfl⟩ hl.1 rfl (Nat.le_of_ble_eq_true rfl) ⟨Nat.le_refl _, Nat.le_refl _⟩ dX10_down_8 hM (fun σ1 r2 H locs hG hM => ?_)
  refine lv_aload_n hx hb dX10_down_11 rfl (lv_at hl 0 rfl) ?_
  refine lv_aload_n hx hb dX10_down_12 rfl (lv_at hl 0 rfl) ?_
  refine gt_10_0 X.1 hG hL mw299 dX10_down_13 ?_
  refine lv_iload_n hx hb dX10_down_16 rfl (lv_at hl 1 rfl) ?_
  refine g_callV_i (nA := 1) (o := M_X8_callDown σ1 (k + 1) p0) (As := [.int p0]) X.1 hG (lf_10_0 hL) rfl rfl (fun _ _ h => C_X8_callDown l E h (lf_10_0 hL)) mw573 mw574 mw575 mw13 (gw_ok mw576 rfl) (by decide +kernel) rfl ⟨Nat.le_of_ble_eq_true rfl, Nat.le_of_ble_eq_true rfl⟩ hl.1 rfl (Nat.le_of_ble_eq_true rfl) ⟨Nat.le_refl _, Nat.le_refl _⟩ dX10_down_17 hM (fun σ3 r4 H locs hG hM => ?_)
  refine g_callV_i (nA := 1) (o := M_X10_kept σ3 k r4) (As := [.int r4]) X.1 hG hL rfl rfl (fun _ _ h => C_X10_kept l E h hL) mw438 mw440 mw1 mw12 (gw_ok mw441 rfl) (by decide +kernel) rfl ⟨Nat.le_of_ble_eq_true rfl, Nat.le_of_ble_eq_true rfl⟩ hl.1 rfl (Nat.le_of_ble_eq_true rfl) ⟨Nat.le_refl _, Nat.le_refl _⟩ dX10_down_20 hM (fun σ5 r6 H locs hG hM => ?_)
  exact e_iret X hG dX10_down_23 hM
def M_X10_lift (σ : St) (k : Nat) (p0 p1 : Int32) : Option (St × Int32) := bcall (M_X2_note σ (k + 59) (k + 5)) fun σ1 r2 => bcall (M_X8_bringLoads σ1 (k + 1) p0 p1) fun σ3 r4 => bcall (M_X10_kept σ3 k r4) fun σ5 r6 => some (σ5, r6)
set_option maxRecDepth 20000 in
set_option maxHeartbeats 4000000 in
theorem C_X10_lift (l : Launch) (E : Ev) {σ σ' : St} {k : Nat} {p0 : Int32} {p1 : Int32} {r : Int32} (h : M_X10_lift σ k p0 p1 = some (σ', r)) (hL : lay 10 k) : Mi l E yX10_lift cX10_lift 3 (some .int) 5 [.ref (E.1 k), .int p0, .int p1] σ σ' r := by
  refine Mi_of (C := RX10) rfl (by decide) (Nat.le_of_ble_eq_true rfl) (z := (σ', r)) (fun p e s m below meth c ls X hG hl => ?_)
  have hx := X.1.1.1
  have hb := X.1.1.2.1
  have hM := h
  unfold M_X10_lift at hM
  generalize (σ', r) = z at hM ⊢
  have hl : lv_has ls 3 [(0, .ref (E.1 k)), (1, .int p0), (2, .int p1)] := hl
  refine lv_aload_n hx hb dX10_lift_0 rfl (lv_at hl 0 rfl) ?_
  refine gt_10_4 X.1 hG hL mw303 dX10_lift_1 ?_
  refine lv_aload_n hx hb dX10_lift_4 rfl (lv_at hl 0 rfl) ?_
  refine gt_10_1 X.1 hG hL mw300 dX10_lift_5 ?_
  refine g_callV_v (nA := 1) (o := M_X2_note σ (k + 59) (k + 5)) (As := [.ref (E.1 (k + 5))]) X.1 hG (lf_10_4 hL) rfl rfl (fun _ _ h => C_X2_note l E h (lf_10_4 hL) (lf_10_1 hL)) mw379 mw380 mw381 mw20 (gw_ok mw382 rfl) (by decide +kernel) rfl ⟨Nat.le_of_ble_eq_true rfl, Nat.le_of_ble_eq_true rfl⟩ hl.1 rfl (Nat.le_of_ble_eq_true rfl) ⟨Nat.le_refl _, Nat.le_refl _⟩ dX10_lift_8 hM (fun σ1 r2 H locs hG hM => ?_)
  refine lv_aload_n hx hb dX10_lift_11 rfl (lv_at hl 0 rfl) ?_
  refine lv_aload_n hx hb dX10_lift_12 rfl (lv_at hl 0 rfl) ?_
  refine gt_10_0 X.1 hG hL mw299 dX10_lift_13 ?_
  refine lv_iload_n hx hb dX10_lift_16 rfl (lv_at hl 1 rfl) ?_
  refine lv_iload_n hx hb dX10_lift_17 rfl (lv_at hl 2 rfl) ?_
  refine g_callV_i (nA := 2) (o := M_X8_bringLoads σ1 (k + 1) p0 p1) (As := [.int p0, .int p1]) X.1 hG (lf_10_0 hL) rfl rfl (fun _ _ h => C_X8_bringLoads l E h (lf_10_0 hL)) mw585 mw586 mw587 mw13 (gw_ok mw588 rfl) (by decide +kernel) rfl ⟨Nat.le_of_ble_eq_true rfl, Nat.le_of_ble_eq_true rfl⟩ hl.1 rfl (Nat.le_of_ble_eq_true rfl) ⟨Nat.le_refl _, Nat.le_refl _⟩ dX10_lift_18 hM (fun σ3 r4 H locs hG hM => ?_)
  refine g_callV_i (nA := 1) (o := M_X10_kept σ3 k r4) (As := [.int r4]) X.1 hG hL rfl rfl (fun _ _ h => C_X10_kept l E h hL) mw438 mw440 mw1 mw12 (gw_ok mw441 rfl) (by decide +kernel) rfl ⟨Nat.le_of_ble_eq_true rfl, Nat.le_of_ble_eq_true rfl⟩ hl.1 rfl (Nat.le_of_ble_eq_true rfl) ⟨Nat.le_refl _, Nat.le_refl _⟩ dX10_lift_21 hM (fun σ5 r6 H locs hG hM => ?_)
  exact e_iret X hG dX10_lift_24 hM
def M_X10_signal (σ : St) (k : Nat) (p0 : Int32) : Option (St × Int32) := bcall (M_X2_note σ (k + 59) (k + 5)) fun σ1 r2 => bcall (M_X8_changeSignal σ1 (k + 1) p0) fun σ3 r4 => bcall (M_X10_kept σ3 k r4) fun σ5 r6 => some (σ5, r6)
set_option maxRecDepth 20000 in
set_option maxHeartbeats 4000000 in
theorem C_X10_signal (l : Launch) (E : Ev) {σ σ' : St} {k : Nat} {p0 : Int32} {r : Int32} (h : M_X10_signal σ k p0 = some (σ', r)) (hL : lay 10 k) : Mi l E yX10_signal cX10_signal 2 (some .int) 5 [.ref (E.1 k), .int p0] σ σ' r := by
  refine Mi_of (C := RX10) rfl (by decide) (Nat.le_of_ble_eq_true rfl) (z := (σ', r)) (fun p e s m below meth c ls X hG hl => ?_)
  have hx := X.1.1.1
  have hb := X.1.1.2.1
  have hM := h
  unfold M_X10_signal at hM
  generalize (σ', r) = z at hM ⊢
  have hl : lv_has ls 2 [(0, .ref (E.1 k)), (1, .int p0)] := hl
  refine lv_aload_n hx hb dX10_signal_0 rfl (lv_at hl 0 rfl) ?_
  refine gt_10_4 X.1 hG hL mw303 dX10_signal_1 ?_
  refine lv_aload_n hx hb dX10_signal_4 rfl (lv_at hl 0 rfl) ?_
  refine gt_10_1 X.1 hG hL mw300 dX10_signal_5 ?_
  refine g_callV_v (nA := 1) (o := M_X2_note σ (k + 59) (k + 5)) (As := [.ref (E.1 (k + 5))]) X.1 hG (lf_10_4 hL) rfl rfl (fun _ _ h => C_X2_note l E h (lf_10_4 hL) (lf_10_1 hL)) mw379 mw380 mw381 mw20 (gw_ok mw382 rfl) (by decide +kernel) rfl ⟨Nat.le_of_ble_eq_true rfl, Nat.le_of_ble_eq_true rfl⟩ hl.1 rfl (Nat.le_of_ble_eq_true rfl) ⟨Nat.le_refl _, Nat.le_refl _⟩ dX10_signal_8 hM (fun σ1 r2 H locs hG hM => ?_)
  refine lv_aload_n hx hb dX10_signal_11 rfl (lv_at hl 0 rfl) ?_
  refine lv_aload_n hx hb dX10_signal_12 rfl (lv_at hl 0 rfl) ?_
  refine gt_10_0 X.1 hG hL mw299 dX10_signal_13 ?_
  refine lv_iload_n hx hb dX10_signal_16 rfl (lv_at hl 1 rfl) ?_
  refine g_callV_i (nA := 1) (o := M_X8_changeSignal σ1 (k + 1) p0) (As := [.int p0]) X.1 hG (lf_10_0 hL) rfl rfl (fun _ _ h => C_X8_changeSignal l E h (lf_10_0 hL)) mw602 mw603 mw604 mw13 (gw_ok mw605 rfl) (by decide +kernel) rfl ⟨Nat.le_of_ble_eq_true rfl, Nat.le_of_ble_eq_true rfl⟩ hl.1 rfl (Nat.le_of_ble_eq_true rfl) ⟨Nat.le_refl _, Nat.le_refl _⟩ dX10_signal_17 hM (fun σ3 r4 H locs hG hM => ?_)
  refine g_callV_i (nA := 1) (o := M_X10_kept σ3 k r4) (As := [.int r4]) X.1 hG hL rfl rfl (fun _ _ h => C_X10_kept l E h hL) mw438 mw440 mw1 mw12 (gw_ok mw441 rfl) (by decide +kernel) rfl ⟨Nat.le_of_ble_eq_true rfl, Nat.le_of_ble_eq_true rfl⟩ hl.1 rfl (Nat.le_of_ble_eq_true rfl) ⟨Nat.le_refl _, Nat.le_refl _⟩ dX10_signal_20 hM (fun σ5 r6 H locs hG hM => ?_)
  exact e_iret X hG dX10_signal_23 hM
def M_X10_inspector (σ : St) (k : Nat) (p0 : Int32) : Option (St × Int32) := bcall (M_X2_note σ (k + 59) (k + 5)) fun σ1 r2 => bcall (M_X8_addInspector σ1 (k + 1) p0) fun σ3 r4 => bcall (M_X10_kept σ3 k r4) fun σ5 r6 => some (σ5, r6)
set_option maxRecDepth 20000 in
set_option maxHeartbeats 4000000 in
theorem C_X10_inspector (l : Launch) (E : Ev) {σ σ' : St} {k : Nat} {p0 : Int32} {r : Int32} (h : M_X10_inspector σ k p0 = some (σ', r)) (hL : lay 10 k) : Mi l E yX10_inspector cX10_inspector 2 (some .int) 5 [.ref (E.1 k), .int p0] σ σ' r := by
  refine Mi_of (C := RX10) rfl (by decide) (Nat.le_of_ble_eq_true rfl) (z := (σ', r)) (fun p e s m below meth c ls X hG hl => ?_)
  have hx := X.1.1.1
  have hb := X.1.1.2.1
  have hM := h
  unfold M_X10_inspector at hM
  generalize (σ', r) = z at hM ⊢
  have hl : lv_has ls 2 [(0, .ref (E.1 k)), (1, .int p0)] := hl
  refine lv_aload_n hx hb dX10_inspector_0 rfl (lv_at hl 0 rfl) ?_
  refine gt_10_4 X.1 hG hL mw303 dX10_inspector_1 ?_
  refine lv_aload_n hx hb dX10_inspector_4 rfl (lv_at hl 0 rfl) ?_
  refine gt_10_1 X.1 hG hL mw300 dX10_inspector_5 ?_
  refine g_callV_v (nA := 1) (o := M_X2_note σ (k + 59) (k + 5)) (As := [.ref (E.1 (k + 5))]) X.1 hG (lf_10_4 hL) rfl rfl (fun _ _ h => C_X2_note l E h (lf_10_4 hL) (lf_10_1 hL)) mw379 mw380 mw381 mw20 (gw_ok mw382 rfl) (by decide +kernel) rfl ⟨Nat.le_of_ble_eq_true rfl, Nat.le_of_ble_eq_true rfl⟩ hl.1 rfl (Nat.le_of_ble_eq_true rfl) ⟨Nat.le_refl _, Nat.le_refl _⟩ dX10_inspector_8 hM (fun σ1 r2 H locs hG hM => ?_)
  refine lv_aload_n hx hb dX10_inspector_11 rfl (lv_at hl 0 rfl) ?_
  refine lv_aload_n hx hb dX10_inspector_12 rfl (lv_at hl 0 rfl) ?_
  refine gt_10_0 X.1 hG hL mw299 dX10_inspector_13 ?_
  refine lv_iload_n hx hb dX10_inspector_16 rfl (lv_at hl 1 rfl) ?_
  refine g_callV_i (nA := 1) (o := M_X8_addInspector σ1 (k + 1) p0) (As := [.int p0]) X.1 hG (lf_10_0 hL) rfl rfl (fun _ _ h => C_X8_addInspector l E h (lf_10_0 hL)) mw615 mw616 mw617 mw13 (gw_ok mw618 rfl) (by decide +kernel) rfl ⟨Nat.le_of_ble_eq_true rfl, Nat.le_of_ble_eq_true rfl⟩ hl.1 rfl (Nat.le_of_ble_eq_true rfl) ⟨Nat.le_refl _, Nat.le_refl _⟩ dX10_inspector_17 hM (fun σ3 r4 H locs hG hM => ?_)
  refine g_callV_i (nA := 1) (o := M_X10_kept σ3 k r4) (As := [.int r4]) X.1 hG hL rfl rfl (fun _ _ h => C_X10_kept l E h hL) mw438 mw440 mw1 mw12 (gw_ok mw441 rfl) (by decide +kernel) rfl ⟨Nat.le_of_ble_eq_true rfl, Nat.le_of_ble_eq_true rfl⟩ hl.1 rfl (Nat.le_of_ble_eq_true rfl) ⟨Nat.le_refl _, Nat.le_refl _⟩ dX10_inspector_20 hM (fun σ5 r6 H locs hG hM => ?_)
  exact e_iret X hG dX10_inspector_23 hM
def M_X10_inspect (σ : St) (k : Nat) (p0 p1 : Int32) : Option (St × Int32) := bcall (M_X2_note σ (k + 59) (k + 5)) fun σ1 r2 => bcall (M_X8_lookAt σ1 (k + 1) p0 p1) fun σ3 r4 => bcall (M_X10_kept σ3 k r4) fun σ5 r6 => some (σ5, r6)
set_option maxRecDepth 20000 in
set_option maxHeartbeats 4000000 in
theorem C_X10_inspect (l : Launch) (E : Ev) {σ σ' : St} {k : Nat} {p0 : Int32} {p1 : Int32} {r : Int32} (h : M_X10_inspect σ k p0 p1 = some (σ', r)) (hL : lay 10 k) : Mi l E yX10_inspect cX10_inspect 3 (some .int) 5 [.ref (E.1 k), .int p0, .int p1] σ σ' r := by
  refine Mi_of (C := RX10) rfl (by decide) (Nat.le_of_ble_eq_true rfl) (z := (σ', r)) (fun p e s m below meth c ls X hG hl => ?_)
  have hx := X.1.1.1
  have hb := X.1.1.2.1
  have hM := h
  unfold M_X10_inspect at hM
  generalize (σ', r) = z at hM ⊢
  have hl : lv_has ls 3 [(0, .ref (E.1 k)), (1, .int p0), (2, .int p1)] := hl
  refine lv_aload_n hx hb dX10_inspect_0 rfl (lv_at hl 0 rfl) ?_
  refine gt_10_4 X.1 hG hL mw303 dX10_inspect_1 ?_
  refine lv_aload_n hx hb dX10_inspect_4 rfl (lv_at hl 0 rfl) ?_
  refine gt_10_1 X.1 hG hL mw300 dX10_inspect_5 ?_
  refine g_callV_v (nA := 1) (o := M_X2_note σ (k + 59) (k + 5)) (As := [.ref (E.1 (k + 5))]) X.1 hG (lf_10_4 hL) rfl rfl (fun _ _ h => C_X2_note l E h (lf_10_4 hL) (lf_10_1 hL)) mw379 mw380 mw381 mw20 (gw_ok mw382 rfl) (by decide +kernel) rfl ⟨Nat.le_of_ble_eq_true rfl, Nat.le_of_ble_eq_true rfl⟩ hl.1 rfl (Nat.le_of_ble_eq_true rfl) ⟨Nat.le_refl _, Nat.le_refl _⟩ dX10_inspect_8 hM (fun σ1 r2 H locs hG hM => ?_)
  refine lv_aload_n hx hb dX10_inspect_11 rfl (lv_at hl 0 rfl) ?_
  refine lv_aload_n hx hb dX10_inspect_12 rfl (lv_at hl 0 rfl) ?_
  refine gt_10_0 X.1 hG hL mw299 dX10_inspect_13 ?_
  refine lv_iload_n hx hb dX10_inspect_16 rfl (lv_at hl 1 rfl) ?_
  refine lv_iload_n hx hb dX10_inspect_17 rfl (lv_at hl 2 rfl) ?_
  refine g_callV_i (nA := 2) (o := M_X8_lookAt σ1 (k + 1) p0 p1) (As := [.int p0, .int p1]) X.1 hG (lf_10_0 hL) rfl rfl (fun _ _ h => C_X8_lookAt l E h (lf_10_0 hL)) mw628 mw629 mw630 mw13 (gw_ok mw631 rfl) (by decide +kernel) rfl ⟨Nat.le_of_ble_eq_true rfl, Nat.le_of_ble_eq_true rfl⟩ hl.1 rfl (Nat.le_of_ble_eq_true rfl) ⟨Nat.le_refl _, Nat.le_refl _⟩ dX10_inspect_18 hM (fun σ3 r4 H locs hG hM => ?_)
  refine g_callV_i (nA := 1) (o := M_X10_kept σ3 k r4) (As := [.int r4]) X.1 hG hL rfl rfl (fun _ _ h => C_X10_kept l E h hL) mw438 mw440 mw1 mw12 (gw_ok mw441 rfl) (by decide +kernel) rfl ⟨Nat.le_of_ble_eq_true rfl, Nat.le_of_ble_eq_true rfl⟩ hl.1 rfl (Nat.le_of_ble_eq_true rfl) ⟨Nat.le_refl _, Nat.le_refl _⟩ dX10_inspect_21 hM (fun σ5 r6 H locs hG hM => ?_)
  exact e_iret X hG dX10_inspect_24 hM
def M_X10_day (σ : St) (k : Nat) (p0 : Int32) : Option (St × Int32) := bcall (M_X2_note σ (k + 59) (k + 5)) fun σ1 r2 => bcall (M_X8_passDays σ1 (k + 1) p0) fun σ3 r4 => bcall (M_X10_kept σ3 k r4) fun σ5 r6 => some (σ5, r6)
set_option maxRecDepth 20000 in
set_option maxHeartbeats 4000000 in
theorem C_X10_day (l : Launch) (E : Ev) {σ σ' : St} {k : Nat} {p0 : Int32} {r : Int32} (h : M_X10_day σ k p0 = some (σ', r)) (hL : lay 10 k) : Mi l E yX10_day cX10_day 2 (some .int) 6 [.ref (E.1 k), .int p0] σ σ' r := by
  refine Mi_of (C := RX10) rfl (by decide) (Nat.le_of_ble_eq_true rfl) (z := (σ', r)) (fun p e s m below meth c ls X hG hl => ?_)
  have hx := X.1.1.1
  have hb := X.1.1.2.1
  have hM := h
  unfold M_X10_day at hM
  generalize (σ', r) = z at hM ⊢
  have hl : lv_has ls 2 [(0, .ref (E.1 k)), (1, .int p0)] := hl
  refine lv_aload_n hx hb dX10_day_0 rfl (lv_at hl 0 rfl) ?_
  refine gt_10_4 X.1 hG hL mw303 dX10_day_1 ?_
  refine lv_aload_n hx hb dX10_day_4 rfl (lv_at hl 0 rfl) ?_
  refine gt_10_1 X.1 hG hL mw300 dX10_day_5 ?_
  refine g_callV_v (nA := 1) (o := M_X2_note σ (k + 59) (k + 5)) (As := [.ref (E.1 (k + 5))]) X.1 hG (lf_10_4 hL) rfl rfl (fun _ _ h => C_X2_note l E h (lf_10_4 hL) (lf_10_1 hL)) mw379 mw380 mw381 mw20 (gw_ok mw382 rfl) (by decide +kernel) rfl ⟨Nat.le_of_ble_eq_true rfl, Nat.le_of_ble_eq_true rfl⟩ hl.1 rfl (Nat.le_of_ble_eq_true rfl) ⟨Nat.le_refl _, Nat.le_refl _⟩ dX10_day_8 hM (fun σ1 r2 H locs hG hM => ?_)
  refine lv_aload_n hx hb dX10_day_11 rfl (lv_at hl 0 rfl) ?_
  refine lv_aload_n hx hb dX10_day_12 rfl (lv_at hl 0 rfl) ?_
  refine gt_10_0 X.1 hG hL mw299 dX10_day_13 ?_
  refine lv_iload_n hx hb dX10_day_16 rfl (lv_at hl 1 rfl) ?_
  refine g_callV_i (nA := 1) (o := M_X8_passDays σ1 (k + 1) p0) (As := [.int p0]) X.1 hG (lf_10_0 hL) rfl rfl (fun _ _ h => C_X8_passDays l E h (lf_10_0 hL)) mw665 mw666 mw667 mw13 (gw_ok mw668 rfl) (by decide +kernel) rfl ⟨Nat.le_of_ble_eq_true rfl, Nat.le_of_ble_eq_true rfl⟩ hl.1 rfl (Nat.le_of_ble_eq_true rfl) ⟨Nat.le_refl _, Nat.le_refl _⟩ dX10_day_17 hM (fun σ3 r4 H locs hG hM => ?_)
  refine g_callV_i (nA := 1) (o := M_X10_kept σ3 k r4) (As := [.int r4]) X.1 hG hL rfl rfl (fun _ _ h => C_X10_kept l E h hL) mw438 mw440 mw1 mw12 (gw_ok mw441 rfl) (by decide +kernel) rfl ⟨Nat.le_of_ble_eq_true rfl, Nat.le_of_ble_eq_true rfl⟩ hl.1 rfl (Nat.le_of_ble_eq_true rfl) ⟨Nat.le_refl _, Nat.le_refl _⟩ dX10_day_20 hM (fun σ5 r6 H locs hG hM => ?_)
  exact e_iret X hG dX10_day_23 hM
def M_X10_crewOf (σ : St) (k : Nat) (p0 p1 : Int32) : Option (St × Int32) := bcall (M_X1_has σ ((k + 5) + 11) p0) fun σ1 r2 => if r2 = 0 then some (σ1, (-1 : Int32)) else (if p1.toInt < 0 ∨ 3 < p1.toInt then some (σ1, (-2 : Int32)) else if p1.toInt = 0 then (bcall (M_X1_skillOf σ1 ((k + 5) + 11) p0) fun σ5 r6 => some (σ5, r6)) else if p1.toInt = 1 then (bcall (M_X1_placeOf σ1 ((k + 5) + 11) p0) fun σ8 r9 => some (σ8, r9)) else if p1.toInt = 2 then (bcall (M_X10_worksToday σ1 k p0) fun σ11 r12 => if r12 = 0 then some (σ11, (0 : Int32)) else some (σ11, (1 : Int32))) else if p1.toInt = 3 then (bcall (M_X1_hoursOf σ1 ((k + 5) + 11) p0) fun σ15 r16 => some (σ15, r16)) else none)
set_option maxRecDepth 20000 in
set_option maxHeartbeats 4000000 in
theorem C_X10_crewOf (l : Launch) (E : Ev) {σ σ' : St} {k : Nat} {p0 : Int32} {p1 : Int32} {r : Int32} (h : M_X10_crewOf σ k p0 p1 = some (σ', r)) (hL : lay 10 k) : Mi l E yX10_crewOf cX10_crewOf 4 (some .int) 5 [.ref (E.1 k), .int p0, .int p1] σ σ' r := by
  refine Mi_of (C := RX10) rfl (by decide) (Nat.le_of_ble_eq_true rfl) (z := (σ', r)) (fun p e s m below meth c ls X hG hl => ?_)
  have hx := X.1.1.1
  have hb := X.1.1.2.1
  have hM := h
  unfold M_X10_crewOf at hM
  generalize (σ', r) = z at hM ⊢
  have hl : lv_has ls 4 [(0, .ref (E.1 k)), (1, .int p0), (2, .int p1)] := hl
  refine lv_aload_n hx hb dX10_crewOf_0 rfl (lv_at hl 0 rfl) ?_
  refine gt_10_1 X.1 hG hL mw300 dX10_crewOf_1 ?_
  refine gtN_7_2 X.1 hG (lf_10_1 hL) mw170 dX10_crewOf_4 ?_
  refine lv_astore_n (lv' := [(3, .ref (E.1 ((k + 5) + 11))), (0, .ref (E.1 k)), (1, .int p0), (2, .int p1)]) hx hb dX10_crewOf_7 rfl hl (by decide) rfl (fun ls hl => ?_)
  refine lv_aload_n hx hb dX10_crewOf_8 rfl (lv_at hl 0 rfl) ?_
  refine lv_iload_n hx hb dX10_crewOf_9 rfl (lv_at hl 2 rfl) ?_
  refine g_callV_i (nA := 1) (o := M_X1_has σ ((k + 5) + 11) p0) (As := [.int p0]) X.1 hG (lf_7_2 (lf_10_1 hL)) rfl rfl (fun _ _ h => C_X1_has l E h (lf_7_2 (lf_10_1 hL))) mw915 mw519 mw520 mw18 (gw_ok mw521 rfl) (by decide +kernel) rfl ⟨Nat.le_of_ble_eq_true rfl, Nat.le_of_ble_eq_true rfl⟩ hl.1 rfl (Nat.le_of_ble_eq_true rfl) ⟨Nat.le_refl _, Nat.le_refl _⟩ dX10_crewOf_10 hM (fun σ1 r2 H locs hG hM => ?_)
  refine lv_if_ne (tgt := 18) hx hb dX10_crewOf_13 (by decide) (fun c17 => ?_) (fun c17 => ?_)
  · have hM := b_else hM c17
    refine lv_iload_n hx hb dX10_crewOf_18 rfl (lv_at hl 3 rfl) ?_
    by_cases c3 : p1.toInt < 0 ∨ 3 < p1.toInt
    · have hM := b_if hM c3
      refine lv_tableOut (tgt := 80) hx hb dX10_crewOf_19 c3 (by decide) ?_
      refine lv_bipush (v := (-2 : Int32)) hx hb dX10_crewOf_80 (by decide) ?_
      exact e_iret X hG dX10_crewOf_82 hM
    · have hM := b_else hM c3
      by_cases c4 : p1.toInt = 0
      · have hM := b_if hM c4
        refine lv_tableIn (tgt := 48) hx hb dX10_crewOf_19 (fun h => c3 (Or.inl h)) (fun h => c3 (Or.inr h)) (by rw [c4]; rfl) (by decide) ?_
        refine lv_aload_n hx hb dX10_crewOf_48 rfl (lv_at hl 0 rfl) ?_
        refine lv_iload_n hx hb dX10_crewOf_49 rfl (lv_at hl 2 rfl) ?_
        refine g_callV_i (nA := 1) (o := M_X1_skillOf σ1 ((k + 5) + 11) p0) (As := [.int p0]) X.1 hG (lf_7_2 (lf_10_1 hL)) rfl rfl (fun _ _ h => C_X1_skillOf l E h (lf_7_2 (lf_10_1 hL))) mw916 mw690 mw691 mw18 (gw_ok mw692 rfl) (by decide +kernel) rfl ⟨Nat.le_of_ble_eq_true rfl, Nat.le_of_ble_eq_true rfl⟩ hl.1 rfl (Nat.le_of_ble_eq_true rfl) ⟨Nat.le_refl _, Nat.le_refl _⟩ dX10_crewOf_50 hM (fun σ5 r6 H locs hG hM => ?_)
        exact e_iret X hG dX10_crewOf_53 hM
      have hM := b_else hM c4
      by_cases c7 : p1.toInt = 1
      · have hM := b_if hM c7
        refine lv_tableIn (tgt := 54) hx hb dX10_crewOf_19 (fun h => c3 (Or.inl h)) (fun h => c3 (Or.inr h)) (by rw [c7]; rfl) (by decide) ?_
        refine lv_aload_n hx hb dX10_crewOf_54 rfl (lv_at hl 0 rfl) ?_
        refine lv_iload_n hx hb dX10_crewOf_55 rfl (lv_at hl 2 rfl) ?_
        refine g_callV_i (nA := 1) (o := M_X1_placeOf σ1 ((k + 5) + 11) p0) (As := [.int p0]) X.1 hG (lf_7_2 (lf_10_1 hL)) rfl rfl (fun _ _ h => C_X1_placeOf l E h (lf_7_2 (lf_10_1 hL))) mw917 mw527 mw528 mw18 (gw_ok mw529 rfl) (by decide +kernel) rfl ⟨Nat.le_of_ble_eq_true rfl, Nat.le_of_ble_eq_true rfl⟩ hl.1 rfl (Nat.le_of_ble_eq_true rfl) ⟨Nat.le_refl _, Nat.le_refl _⟩ dX10_crewOf_56 hM (fun σ8 r9 H locs hG hM => ?_)
        exact e_iret X hG dX10_crewOf_59 hM
      have hM := b_else hM c7
      by_cases c10 : p1.toInt = 2
      · have hM := b_if hM c10
        refine lv_tableIn (tgt := 60) hx hb dX10_crewOf_19 (fun h => c3 (Or.inl h)) (fun h => c3 (Or.inr h)) (by rw [c10]; rfl) (by decide) ?_
        refine lv_aload_n hx hb dX10_crewOf_60 rfl (lv_at hl 1 rfl) ?_
        refine lv_iload_n hx hb dX10_crewOf_61 rfl (lv_at hl 2 rfl) ?_
        refine g_callV_i (nA := 1) (o := M_X10_worksToday σ1 k p0) (As := [.int p0]) X.1 hG hL rfl rfl (fun _ _ h => C_X10_worksToday l E h hL) mw918 mw920 mw8 mw12 (gw_ok mw921 rfl) (by decide +kernel) rfl ⟨Nat.le_of_ble_eq_true rfl, Nat.le_of_ble_eq_true rfl⟩ hl.1 rfl (Nat.le_of_ble_eq_true rfl) ⟨Nat.le_refl _, Nat.le_refl _⟩ dX10_crewOf_62 hM (fun σ11 r12 H locs hG hM => ?_)
        refine lv_if_eq (tgt := 72) hx hb dX10_crewOf_65 (by decide) (fun c13 => ?_) (fun c13 => ?_)
        · have hM := b_if hM c13
          refine lv_iconst (v := (0 : Int32)) hx hb dX10_crewOf_72 (by decide) ?_
          exact e_iret X hG dX10_crewOf_73 hM
        · have hM := b_else hM c13
          refine lv_iconst (v := (1 : Int32)) hx hb dX10_crewOf_68 (by decide) ?_
          refine lv_goto (tgt := 73) hx hb dX10_crewOf_69 (by decide) ?_
          exact e_iret X hG dX10_crewOf_73 hM
      have hM := b_else hM c10
      by_cases c14 : p1.toInt = 3
      · have hM := b_if hM c14
        refine lv_tableIn (tgt := 74) hx hb dX10_crewOf_19 (fun h => c3 (Or.inl h)) (fun h => c3 (Or.inr h)) (by rw [c14]; rfl) (by decide) ?_
        refine lv_aload_n hx hb dX10_crewOf_74 rfl (lv_at hl 0 rfl) ?_
        refine lv_iload_n hx hb dX10_crewOf_75 rfl (lv_at hl 2 rfl) ?_
        refine g_callV_i (nA := 1) (o := M_X1_hoursOf σ1 ((k + 5) + 11) p0) (As := [.int p0]) X.1 hG (lf_7_2 (lf_10_1 hL)) rfl rfl (fun _ _ h => C_X1_hoursOf l E h (lf_7_2 (lf_10_1 hL))) mw924 mw925 mw926 mw18 (gw_ok mw927 rfl) (by decide +kernel) rfl ⟨Nat.le_of_ble_eq_true rfl, Nat.le_of_ble_eq_true rfl⟩ hl.1 rfl (Nat.le_of_ble_eq_true rfl) ⟨Nat.le_refl _, Nat.le_refl _⟩ dX10_crewOf_76 hM (fun σ15 r16 H locs hG hM => ?_)
        exact e_iret X hG dX10_crewOf_79 hM
      have hM := b_else hM c14
      cases hM
  · have hM := b_if hM c17
    refine lv_iconst (v := (-1 : Int32)) hx hb dX10_crewOf_16 (by decide) ?_
    exact e_iret X hG dX10_crewOf_17 hM
def B_X10_oldIn_29  : Nat → St → Nat → Int32 → Int32 → Option (St × Int32)
  | 0, _, _, _, _ => none
  | n + 1, σ, k, x1, x2 => if (60 : Int32) < x2 then some (σ, (-4 : Int32)) else (bcall (M_X9_has σ ((k + 23) + 4) x1) fun σ5 r6 => if r6 = 0 then some (σ5, (-4 : Int32)) else (bcall (M_X9_isOld σ5 ((k + 23) + 4) x1) fun σ7 r8 => if r8 = 0 then (bcall (M_X7_passDay σ7 (k + 23)) fun σ9 r10 => blet (x2 + (1 : Int32)) fun v11 => B_X10_oldIn_29 n σ9 k x1 v11) else some (σ7, x2)))
def M_X10_oldIn (σ : St) (k : Nat) (p0 : Int32) : Option (St × Int32) := bcall (M_X9_has σ ((k + 5) + 4) p0) fun σ1 r2 => if r2 = 0 then some (σ1, (-1 : Int32)) else (bcall (M_X7_take σ1 (k + 23) (k + 5)) fun σ3 r4 => B_X10_oldIn_29 FU σ3 k p0 (0 : Int32))
set_option maxRecDepth 20000 in
set_option maxHeartbeats 4000000 in
theorem w_X10_oldIn_29 {p : Program} {l : Launch} {e : Env} {s : State} {m : MethodId} {below : List Frame} {meth : Method} {c : Code} {args : Array Value} {E : Ev} {k : Nat} (X : Bx E p m meth c cX10_oldIn 3 (some .int) s args RX10) (hL : lay 10 k) : ∀ (n : Nat) (σ : St) (x1 x2 : Int32) (H : Heap) (locs : List Loc) (ls : Array Slot) (z : St × Int32), GS E σ s.heap H locs → lv_has ls 3 [(0, .ref (E.1 k)), (1, .int x1), (2, .int x2)] → B_X10_oldIn_29 n σ k x1 x2 = some z → W p l e (rmd 5) s m args below meth c H locs 0 0 (QI E z below args s) (F0 m 29 ls []) := by
  have hx := X.1.1.1
  have hb := X.1.1.2.1
  intro n
  induction n with
  | zero => intro σ x1 x2 H locs ls z  hG hl hM; cases hM
  | succ n ih =>
    intro σ x1 x2 H locs ls z  hG hl hM
    unfold B_X10_oldIn_29 at hM
    refine lv_iload_n hx hb dX10_oldIn_29 rfl (lv_at hl 2 rfl) ?_
    refine lv_bipush (v := (60 : Int32)) hx hb dX10_oldIn_30 (by decide) ?_
    refine lv_icmp_gt (tgt := 81) hx hb dX10_oldIn_32 (by decide) (fun c14 => ?_) (fun c14 => ?_)
    · have hM := b_if hM c14
      refine lv_bipush (v := (-4 : Int32)) hx hb dX10_oldIn_81 (by decide) ?_
      exact e_iret X hG dX10_oldIn_83 hM
    · have hM := b_else hM c14
      refine lv_aload_n hx hb dX10_oldIn_35 rfl (lv_at hl 0 rfl) ?_
      refine gt_10_2 X.1 hG hL mw301 dX10_oldIn_36 ?_
      refine gtN_7_1 X.1 hG (lf_10_2 hL) mw167 dX10_oldIn_39 ?_
      refine lv_iload_n hx hb dX10_oldIn_42 rfl (lv_at hl 1 rfl) ?_
      refine g_callV_i (nA := 1) (o := M_X9_has σ ((k + 23) + 4) x1) (As := [.int x1]) X.1 hG (lf_7_1 (lf_10_2 hL)) rfl rfl (fun _ _ h => C_X9_has l E h (lf_7_1 (lf_10_2 hL))) mw869 mw523 mw524 mw17 (gw_ok mw525 rfl) (by decide +kernel) rfl ⟨Nat.le_of_ble_eq_true rfl, Nat.le_of_ble_eq_true rfl⟩ hl.1 rfl (Nat.le_of_ble_eq_true rfl) ⟨Nat.le_refl _, Nat.le_refl _⟩ dX10_oldIn_43 hM (fun σ5 r6 H locs hG hM => ?_)
      refine lv_if_ne (tgt := 52) hx hb dX10_oldIn_46 (by decide) (fun c13 => ?_) (fun c13 => ?_)
      · have hM := b_else hM c13
        refine lv_aload_n hx hb dX10_oldIn_52 rfl (lv_at hl 0 rfl) ?_
        refine gt_10_2 X.1 hG hL mw301 dX10_oldIn_53 ?_
        refine gtN_7_1 X.1 hG (lf_10_2 hL) mw167 dX10_oldIn_56 ?_
        refine lv_iload_n hx hb dX10_oldIn_59 rfl (lv_at hl 1 rfl) ?_
        refine g_callV_i (nA := 1) (o := M_X9_isOld σ5 ((k + 23) + 4) x1) (As := [.int x1]) X.1 hG (lf_7_1 (lf_10_2 hL)) rfl rfl (fun _ _ h => C_X9_isOld l E h (lf_7_1 (lf_10_2 hL))) mw1097 mw978 mw979 mw17 (gw_ok mw980 rfl) (by decide +kernel) rfl ⟨Nat.le_of_ble_eq_true rfl, Nat.le_of_ble_eq_true rfl⟩ hl.1 rfl (Nat.le_of_ble_eq_true rfl) ⟨Nat.le_refl _, Nat.le_refl _⟩ dX10_oldIn_60 hM (fun σ7 r8 H locs hG hM => ?_)
        refine lv_if_eq (tgt := 68) hx hb dX10_oldIn_63 (by decide) (fun c12 => ?_) (fun c12 => ?_)
        · have hM := b_if hM c12
          refine lv_aload_n hx hb dX10_oldIn_68 rfl (lv_at hl 0 rfl) ?_
          refine gt_10_2 X.1 hG hL mw301 dX10_oldIn_69 ?_
          refine g_callV_v (nA := 0) (o := M_X7_passDay σ7 (k + 23)) (As := []) X.1 hG (lf_10_2 hL) rfl rfl (fun _ _ h => C_X7_passDay l E h (lf_10_2 hL)) mw1098 mw670 mw671 mw15 (gw_ok mw672 rfl) (by decide +kernel) rfl ⟨Nat.le_of_ble_eq_true rfl, Nat.le_of_ble_eq_true rfl⟩ hl.1 rfl (Nat.le_of_ble_eq_true rfl) ⟨Nat.le_refl _, Nat.le_refl _⟩ dX10_oldIn_72 hM (fun σ9 r10 H locs hG hM => ?_)
          obtain ⟨v11, ev11, hM⟩ := g_nm hM
          refine lv_iinc (v := v11) (lv' := [(2, .int v11), (0, .ref (E.1 k)), (1, .int x1)]) hx hb dX10_oldIn_75 hl (k := 2) rfl (by rw [ev11]; rfl) (by decide) rfl (fun ls hl => ?_)
          refine lv_goto (tgt := 29) hx hb dX10_oldIn_78 (by decide) ?_
          exact ih σ9 x1 v11 _ _ _ z hG (lv_sub hl [1, 2, 0] rfl) hM
        · have hM := b_else hM c12
          refine lv_iload_n hx hb dX10_oldIn_66 rfl (lv_at hl 2 rfl) ?_
          exact e_iret X hG dX10_oldIn_67 hM
      · have hM := b_if hM c13
        refine lv_bipush (v := (-4 : Int32)) hx hb dX10_oldIn_49 (by decide) ?_
        exact e_iret X hG dX10_oldIn_51 hM
set_option maxRecDepth 20000 in
set_option maxHeartbeats 4000000 in
theorem C_X10_oldIn (l : Launch) (E : Ev) {σ σ' : St} {k : Nat} {p0 : Int32} {r : Int32} (h : M_X10_oldIn σ k p0 = some (σ', r)) (hL : lay 10 k) : Mi l E yX10_oldIn cX10_oldIn 3 (some .int) 5 [.ref (E.1 k), .int p0] σ σ' r := by
  refine Mi_of (C := RX10) rfl (by decide) (Nat.le_of_ble_eq_true rfl) (z := (σ', r)) (fun p e s m below meth c ls X hG hl => ?_)
  have hx := X.1.1.1
  have hb := X.1.1.2.1
  have hM := h
  unfold M_X10_oldIn at hM
  generalize (σ', r) = z at hM ⊢
  have hl : lv_has ls 3 [(0, .ref (E.1 k)), (1, .int p0)] := hl
  refine lv_aload_n hx hb dX10_oldIn_0 rfl (lv_at hl 0 rfl) ?_
  refine gt_10_1 X.1 hG hL mw300 dX10_oldIn_1 ?_
  refine gtN_7_1 X.1 hG (lf_10_1 hL) mw167 dX10_oldIn_4 ?_
  refine lv_iload_n hx hb dX10_oldIn_7 rfl (lv_at hl 1 rfl) ?_
  refine g_callV_i (nA := 1) (o := M_X9_has σ ((k + 5) + 4) p0) (As := [.int p0]) X.1 hG (lf_7_1 (lf_10_1 hL)) rfl rfl (fun _ _ h => C_X9_has l E h (lf_7_1 (lf_10_1 hL))) mw869 mw523 mw524 mw17 (gw_ok mw525 rfl) (by decide +kernel) rfl ⟨Nat.le_of_ble_eq_true rfl, Nat.le_of_ble_eq_true rfl⟩ hl.1 rfl (Nat.le_of_ble_eq_true rfl) ⟨Nat.le_refl _, Nat.le_refl _⟩ dX10_oldIn_8 hM (fun σ1 r2 H locs hG hM => ?_)
  refine lv_if_ne (tgt := 16) hx hb dX10_oldIn_11 (by decide) (fun c15 => ?_) (fun c15 => ?_)
  · have hM := b_else hM c15
    refine lv_aload_n hx hb dX10_oldIn_16 rfl (lv_at hl 0 rfl) ?_
    refine gt_10_2 X.1 hG hL mw301 dX10_oldIn_17 ?_
    refine lv_aload_n hx hb dX10_oldIn_20 rfl (lv_at hl 0 rfl) ?_
    refine gt_10_1 X.1 hG hL mw300 dX10_oldIn_21 ?_
    refine g_callV_v (nA := 1) (o := M_X7_take σ1 (k + 23) (k + 5)) (As := [.ref (E.1 (k + 5))]) X.1 hG (lf_10_2 hL) rfl rfl (fun _ _ h => C_X7_take l E h (lf_10_2 hL) (lf_10_1 hL)) mw853 mw388 mw389 mw15 (gw_ok mw390 rfl) (by decide +kernel) rfl ⟨Nat.le_of_ble_eq_true rfl, Nat.le_of_ble_eq_true rfl⟩ hl.1 rfl (Nat.le_of_ble_eq_true rfl) ⟨Nat.le_refl _, Nat.le_refl _⟩ dX10_oldIn_24 hM (fun σ3 r4 H locs hG hM => ?_)
    refine lv_iconst (v := (0 : Int32)) hx hb dX10_oldIn_27 (by decide) ?_
    refine lv_istore_n (lv' := [(2, .int (0 : Int32)), (0, .ref (E.1 k)), (1, .int p0)]) hx hb dX10_oldIn_28 rfl hl (by decide) rfl (fun ls hl => ?_)
    exact w_X10_oldIn_29 X hL FU σ3 p0 (0 : Int32) _ _ _ z hG (lv_sub hl [1, 2, 0] rfl) hM
  · have hM := b_if hM c15
    refine lv_iconst (v := (-1 : Int32)) hx hb dX10_oldIn_14 (by decide) ?_
    exact e_iret X hG dX10_oldIn_15 hM
