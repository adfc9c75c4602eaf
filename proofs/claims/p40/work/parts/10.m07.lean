def M_X8_callDown (σ : St) (k : Nat) (p0 : Int32) : Option (St × Int32) := bcall (M_X1_has σ ((k + 4) + 11) p0) fun σ1 r2 => if r2 = 0 then some (σ1, (-1 : Int32)) else (bcall (M_X1_isUp σ1 ((k + 4) + 11) p0) fun σ3 r4 => if r4 = 0 then (bcall (M_X6_refuse σ3 (k + 1) (11 : Int32) p0) fun σ9 r10 => some (σ9, r10)) else (bcall (M_X1_placeOf σ3 ((k + 4) + 11) p0) fun σ5 r6 => bcall (M_X1_moveTo σ5 ((k + 4) + 11) p0 (-4 : Int32)) fun σ7 r8 => some (σ7, r6)))
set_option maxRecDepth 20000 in
set_option maxHeartbeats 4000000 in
theorem C_X8_callDown (l : Launch) (E : Ev) {σ σ' : St} {k : Nat} {p0 : Int32} {r : Int32} (h : M_X8_callDown σ k p0 = some (σ', r)) (hL : lay 8 k) : Mi l E yX8_callDown cX8_callDown 3 (some .int) 4 [.ref (E.1 k), .int p0] σ σ' r := by
  refine Mi_of (C := RX8) rfl (by decide) (Nat.le_of_ble_eq_true rfl) (z := (σ', r)) (fun p e s m below meth c ls X hG hl => ?_)
  have hx := X.1.1.1
  have hb := X.1.1.2.1
  have hM := h
  unfold M_X8_callDown at hM
  generalize (σ', r) = z at hM ⊢
  have hl : lv_has ls 3 [(0, .ref (E.1 k)), (1, .int p0)] := hl
  refine lv_aload_n hx hb dX8_callDown_0 rfl (lv_at hl 0 rfl) ?_
  refine gt_8_1 X.1 hG hL mw232 dX8_callDown_1 ?_
  refine gtN_7_2 X.1 hG (lf_8_1 hL) mw169 dX8_callDown_4 ?_
  refine lv_iload_n hx hb dX8_callDown_7 rfl (lv_at hl 1 rfl) ?_
  refine g_callV_i (nA := 1) (o := M_X1_has σ ((k + 4) + 11) p0) (As := [.int p0]) X.1 hG (lf_7_2 (lf_8_1 hL)) rfl rfl (fun _ _ h => C_X1_has l E h (lf_7_2 (lf_8_1 hL))) mw518 mw519 mw520 mw18 (gw_ok mw521 rfl) (by decide +kernel) rfl ⟨Nat.le_of_ble_eq_true rfl, Nat.le_of_ble_eq_true rfl⟩ hl.1 rfl (Nat.le_of_ble_eq_true rfl) ⟨Nat.le_refl _, Nat.le_refl _⟩ dX8_callDown_8 hM (fun σ1 r2 H locs hG hM => ?_)
  refine lv_if_ne (tgt := 16) hx hb dX8_callDown_11 (by decide) (fun c12 => ?_) (fun c12 => ?_)
  · have hM := b_else hM c12
    refine lv_aload_n hx hb dX8_callDown_16 rfl (lv_at hl 0 rfl) ?_
    refine gt_8_1 X.1 hG hL mw232 dX8_callDown_17 ?_
    refine gtN_7_2 X.1 hG (lf_8_1 hL) mw169 dX8_callDown_20 ?_
    refine lv_iload_n hx hb dX8_callDown_23 rfl (lv_at hl 1 rfl) ?_
    refine g_callV_i (nA := 1) (o := M_X1_isUp σ1 ((k + 4) + 11) p0) (As := [.int p0]) X.1 hG (lf_7_2 (lf_8_1 hL)) rfl rfl (fun _ _ h => C_X1_isUp l E h (lf_7_2 (lf_8_1 hL))) mw577 mw578 mw579 mw18 (gw_ok mw580 rfl) (by decide +kernel) rfl ⟨Nat.le_of_ble_eq_true rfl, Nat.le_of_ble_eq_true rfl⟩ hl.1 rfl (Nat.le_of_ble_eq_true rfl) ⟨Nat.le_refl _, Nat.le_refl _⟩ dX8_callDown_24 hM (fun σ3 r4 H locs hG hM => ?_)
    refine lv_if_ne (tgt := 41) hx hb dX8_callDown_27 (by decide) (fun c11 => ?_) (fun c11 => ?_)
    · have hM := b_else hM c11
      refine lv_aload_n hx hb dX8_callDown_41 rfl (lv_at hl 0 rfl) ?_
      refine gt_8_1 X.1 hG hL mw232 dX8_callDown_42 ?_
      refine gtN_7_2 X.1 hG (lf_8_1 hL) mw169 dX8_callDown_45 ?_
      refine lv_iload_n hx hb dX8_callDown_48 rfl (lv_at hl 1 rfl) ?_
      refine g_callV_i (nA := 1) (o := M_X1_placeOf σ3 ((k + 4) + 11) p0) (As := [.int p0]) X.1 hG (lf_7_2 (lf_8_1 hL)) rfl rfl (fun _ _ h => C_X1_placeOf l E h (lf_7_2 (lf_8_1 hL))) mw526 mw527 mw528 mw18 (gw_ok mw529 rfl) (by decide +kernel) rfl ⟨Nat.le_of_ble_eq_true rfl, Nat.le_of_ble_eq_true rfl⟩ hl.1 rfl (Nat.le_of_ble_eq_true rfl) ⟨Nat.le_refl _, Nat.le_refl _⟩ dX8_callDown_49 hM (fun σ5 r6 H locs hG hM => ?_)
      refine lv_istore_n (lv' := [(2, .int r6), (0, .ref (E.1 k)), (1, .int p0)]) hx hb dX8_callDown_52 rfl hl (by decide) rfl (fun ls hl => ?_)
      refine lv_aload_n hx hb dX8_callDown_53 rfl (lv_at hl 1 rfl) ?_
      refine gt_8_1 X.1 hG hL mw232 dX8_callDown_54 ?_
      refine gtN_7_2 X.1 hG (lf_8_1 hL) mw169 dX8_callDown_57 ?_
      refine lv_iload_n hx hb dX8_callDown_60 rfl (lv_at hl 2 rfl) ?_
      refine lv_bipush (v := (-4 : Int32)) hx hb dX8_callDown_61 (by decide) ?_
      refine g_callV_v (nA := 2) (o := M_X1_moveTo σ5 ((k + 4) + 11) p0 (-4 : Int32)) (As := [.int p0, .int (-4 : Int32)]) X.1 hG (lf_7_2 (lf_8_1 hL)) rfl rfl (fun _ _ h => C_X1_moveTo l E h (lf_7_2 (lf_8_1 hL))) mw550 mw551 mw552 mw18 (gw_ok mw553 rfl) (by decide +kernel) rfl ⟨Nat.le_of_ble_eq_true rfl, Nat.le_of_ble_eq_true rfl⟩ hl.1 rfl (Nat.le_of_ble_eq_true rfl) ⟨Nat.le_refl _, Nat.le_refl _⟩ dX8_callDown_63 hM (fun σ7 r8 H locs hG hM => ?_)
      refine lv_iload_n hx hb dX8_callDown_66 rfl (lv_at hl 0 rfl) ?_
      exact e_iret X hG dX8_callDown_67 hM
    · have hM := b_if hM c11
      refine lv_aload_n hx hb dX8_callDown_30 rfl (lv_at hl 0 rfl) ?_
      refine gt_8_0 X.1 hG hL mw229 dX8_callDown_31 ?_
      refine lv_bipush (v := (11 : Int32)) hx hb dX8_callDown_34 (by decide) ?_
      refine lv_iload_n hx hb dX8_callDown_36 rfl (lv_at hl 1 rfl) ?_
      refine g_callV_i (nA := 2) (o := M_X6_refuse σ3 (k + 1) (11 : Int32) p0) (As := [.int (11 : Int32), .int p0]) X.1 hG (lf_8_0 hL) rfl rfl (fun _ _ h => C_X6_refuse l E h (lf_8_0 hL)) mw422 mw423 mw424 mw14 (gw_ok mw425 rfl) (by decide +kernel) rfl ⟨Nat.le_of_ble_eq_true rfl, Nat.le_of_ble_eq_true rfl⟩ hl.1 rfl (Nat.le_of_ble_eq_true rfl) ⟨Nat.le_refl _, Nat.le_refl _⟩ dX8_callDown_37 hM (fun σ9 r10 H locs hG hM => ?_)
      exact e_iret X hG dX8_callDown_40 hM
  · have hM := b_if hM c12
    refine lv_iconst (v := (-1 : Int32)) hx hb dX8_callDown_14 (by decide) ?_
    exact e_iret X hG dX8_callDown_15 hM
def M_X8_bringLoads (σ : St) (k : Nat) (p0 p1 : Int32) : Option (St × Int32) := bcall (M_X9_has σ ((k + 4) + 4) p0) fun σ1 r2 => if r2 = 0 then some (σ1, (-1 : Int32)) else (bcall (M_X10_isWithin σ1 p1 (1 : Int32) (9 : Int32)) fun σ3 r4 => if r4 = 0 then some (σ3, (-2 : Int32)) else (bcall (M_X7_isWarned σ3 (k + 4)) fun σ5 r6 => if r6 = 0 then (bcall (M_X9_loadsOf σ5 ((k + 4) + 4) p0) fun σ7 r8 => if (r8 + p1) ≤ (9 : Int32) then (blet (p1 * (p0 + (1 : Int32))) fun v9 => if v9 ≤ (σ7 (k + 4) 7) then (bput σ7 (k + 4) 7 ((σ7 (k + 4) 7) - v9) fun σ10 => bcall (M_X9_addLoads σ10 ((k + 4) + 4) p0 p1) fun σ11 r12 => some (σ11, σ11 (k + 4) 7)) else (bcall (M_X6_refuse σ7 (k + 1) (8 : Int32) (σ7 (k + 4) 7)) fun σ13 r14 => some (σ13, r14))) else (bcall (M_X9_loadsOf σ7 ((k + 4) + 4) p0) fun σ16 r17 => bcall (M_X6_refuse σ16 (k + 1) (9 : Int32) r17) fun σ18 r19 => some (σ18, r19))) else (bcall (M_X6_refuse σ5 (k + 1) (4 : Int32) (σ5 (k + 4) 5)) fun σ21 r22 => some (σ21, r22))))
set_option maxRecDepth 20000 in
set_option maxHeartbeats 4000000 in
theorem C_X8_bringLoads (l : Launch) (E : Ev) {σ σ' : St} {k : Nat} {p0 : Int32} {p1 : Int32} {r : Int32} (h : M_X8_bringLoads σ k p0 p1 = some (σ', r)) (hL : lay 8 k) : Mi l E yX8_bringLoads cX8_bringLoads 4 (some .int) 4 [.ref (E.1 k), .int p0, .int p1] σ σ' r := by
  refine Mi_of (C := RX8) rfl (by decide) (Nat.le_of_ble_eq_true rfl) (z := (σ', r)) (fun p e s m below meth c ls X hG hl => ?_)
  have hx := X.1.1.1
  have hb := X.1.1.2.1
  have hM := h
  unfold M_X8_bringLoads at hM
  generalize (σ', r) = z at hM ⊢
  have hl : lv_has ls 4 [(0, .ref (E.1 k)), (1, .int p0), (2, .int p1)] := hl
  refine lv_aload_n hx hb dX8_bringLoads_0 rfl (lv_at hl 0 rfl) ?_
  refine gt_8_1 X.1 hG hL mw232 dX8_bringLoads_1 ?_
  refine gtN_7_1 X.1 hG (lf_8_1 hL) mw166 dX8_bringLoads_4 ?_
  refine lv_iload_n hx hb dX8_bringLoads_7 rfl (lv_at hl 1 rfl) ?_
  refine g_callV_i (nA := 1) (o := M_X9_has σ ((k + 4) + 4) p0) (As := [.int p0]) X.1 hG (lf_7_1 (lf_8_1 hL)) rfl rfl (fun _ _ h => C_X9_has l E h (lf_7_1 (lf_8_1 hL))) mw522 mw523 mw524 mw17 (gw_ok mw525 rfl) (by decide +kernel) rfl ⟨Nat.le_of_ble_eq_true rfl, Nat.le_of_ble_eq_true rfl⟩ hl.1 rfl (Nat.le_of_ble_eq_true rfl) ⟨Nat.le_refl _, Nat.le_refl _⟩ dX8_bringLoads_8 hM (fun σ1 r2 H locs hG hM => ?_)
  refine lv_if_ne (tgt := 16) hx hb dX8_bringLoads_11 (by decide) (fun c25 => ?_) (fun c25 => ?_)
  · have hM := b_else hM c25
    refine lv_iload_n hx hb dX8_bringLoads_16 rfl (lv_at hl 2 rfl) ?_
    refine lv_iconst (v := (1 : Int32)) hx hb dX8_bringLoads_17 (by decide) ?_
    refine lv_bipush (v := (9 : Int32)) hx hb dX8_bringLoads_18 (by decide) ?_
    refine g_callSN_i (nA := 3) (o := M_X10_isWithin σ1 p1 (1 : Int32) (9 : Int32)) (As := [.int p1, .int (1 : Int32), .int (9 : Int32)]) X.1 hG (fun _ _ h => C_X10_isWithin l E h ) mw421 mw369 mw12 (gw_ok mw370 rfl) (by decide +kernel) rfl ⟨Nat.le_of_ble_eq_true rfl, Nat.le_of_ble_eq_true rfl⟩ hl.1 rfl (Nat.le_of_ble_eq_true rfl) ⟨Nat.le_refl _, Nat.le_refl _⟩ dX8_bringLoads_20 hM (fun σ3 r4 H locs hG hM => ?_)
    refine lv_if_ne (tgt := 29) hx hb dX8_bringLoads_23 (by decide) (fun c24 => ?_) (fun c24 => ?_)
    · have hM := b_else hM c24
      refine lv_aload_n hx hb dX8_bringLoads_29 rfl (lv_at hl 0 rfl) ?_
      refine gt_8_1 X.1 hG hL mw232 dX8_bringLoads_30 ?_
      refine g_callV_i (nA := 0) (o := M_X7_isWarned σ3 (k + 4)) (As := []) X.1 hG (lf_8_1 hL) rfl rfl (fun _ _ h => C_X7_isWarned l E h (lf_8_1 hL)) mw468 mw469 mw470 mw15 (gw_ok mw471 rfl) (by decide +kernel) rfl ⟨Nat.le_of_ble_eq_true rfl, Nat.le_of_ble_eq_true rfl⟩ hl.1 rfl (Nat.le_of_ble_eq_true rfl) ⟨Nat.le_refl _, Nat.le_refl _⟩ dX8_bringLoads_33 hM (fun σ5 r6 H locs hG hM => ?_)
      refine lv_if_eq (tgt := 55) hx hb dX8_bringLoads_36 (by decide) (fun c23 => ?_) (fun c23 => ?_)
      · have hM := b_if hM c23
        refine lv_aload_n hx hb dX8_bringLoads_55 rfl (lv_at hl 0 rfl) ?_
        refine gt_8_1 X.1 hG hL mw232 dX8_bringLoads_56 ?_
        refine gtN_7_1 X.1 hG (lf_8_1 hL) mw166 dX8_bringLoads_59 ?_
        refine lv_iload_n hx hb dX8_bringLoads_62 rfl (lv_at hl 1 rfl) ?_
        refine g_callV_i (nA := 1) (o := M_X9_loadsOf σ5 ((k + 4) + 4) p0) (As := [.int p0]) X.1 hG (lf_7_1 (lf_8_1 hL)) rfl rfl (fun _ _ h => C_X9_loadsOf l E h (lf_7_1 (lf_8_1 hL))) mw589 mw590 mw591 mw17 (gw_ok mw592 rfl) (by decide +kernel) rfl ⟨Nat.le_of_ble_eq_true rfl, Nat.le_of_ble_eq_true rfl⟩ hl.1 rfl (Nat.le_of_ble_eq_true rfl) ⟨Nat.le_refl _, Nat.le_refl _⟩ dX8_bringLoads_63 hM (fun σ7 r8 H locs hG hM => ?_)
        refine lv_iload_n hx hb dX8_bringLoads_66 rfl (lv_at hl 2 rfl) ?_
        refine lv_iadd hx hb dX8_bringLoads_67 ?_
        refine lv_bipush (v := (9 : Int32)) hx hb dX8_bringLoads_68 (by decide) ?_
        refine lv_icmp_le (tgt := 94) hx hb dX8_bringLoads_70 (by decide) (fun c20 => ?_) (fun c20 => ?_)
        · have hM := b_if hM c20
          refine lv_iload_n hx hb dX8_bringLoads_94 rfl (lv_at hl 2 rfl) ?_
          refine lv_iload_n hx hb dX8_bringLoads_95 rfl (lv_at hl 1 rfl) ?_
          refine lv_iconst (v := (1 : Int32)) hx hb dX8_bringLoads_96 (by decide) ?_
          refine lv_iadd hx hb dX8_bringLoads_97 ?_
          refine lv_imul hx hb dX8_bringLoads_98 ?_
          refine g_name hM (fun v9 hM => ?_)
          refine lv_istore_n (lv' := [(3, .int v9), (0, .ref (E.1 k)), (1, .int p0), (2, .int p1)]) hx hb dX8_bringLoads_99 rfl hl (by decide) rfl (fun ls hl => ?_)
          refine lv_aload_n hx hb dX8_bringLoads_100 rfl (lv_at hl 1 rfl) ?_
          refine gt_8_1 X.1 hG hL mw232 dX8_bringLoads_101 ?_
          refine gtN_7_7 X.1 hG (lf_8_1 hL) mw183 dX8_bringLoads_104 ?_
          refine lv_iload_n hx hb dX8_bringLoads_107 rfl (lv_at hl 0 rfl) ?_
          refine lv_icmp_ge (tgt := 128) hx hb dX8_bringLoads_108 (by decide) (fun c15 => ?_) (fun c15 => ?_)
          · have hM := b_if hM c15
            refine lv_aload_n hx hb dX8_bringLoads_128 rfl (lv_at hl 1 rfl) ?_
            refine gt_8_1 X.1 hG hL mw232 dX8_bringLoads_129 ?_
            refine lv_dup hx hb dX8_bringLoads_132 rfl ?_
            refine gtN_7_7 X.1 hG (lf_8_1 hL) mw183 dX8_bringLoads_133 ?_
            refine lv_iload_n hx hb dX8_bringLoads_136 rfl (lv_at hl 0 rfl) ?_
            refine lv_isub hx hb dX8_bringLoads_137 ?_
            refine ptN_7_7 X.1 hG (lf_8_1 hL) mw183 dX8_bringLoads_138 hM (fun σ10 H locs hG hM => ?_)
            refine lv_aload_n hx hb dX8_bringLoads_141 rfl (lv_at hl 1 rfl) ?_
            refine gt_8_1 X.1 hG hL mw232 dX8_bringLoads_142 ?_
            refine gtN_7_1 X.1 hG (lf_8_1 hL) mw166 dX8_bringLoads_145 ?_
            refine lv_iload_n hx hb dX8_bringLoads_148 rfl (lv_at hl 2 rfl) ?_
            refine lv_iload_n hx hb dX8_bringLoads_149 rfl (lv_at hl 3 rfl) ?_
            refine g_callV_v (nA := 2) (o := M_X9_addLoads σ10 ((k + 4) + 4) p0 p1) (As := [.int p0, .int p1]) X.1 hG (lf_7_1 (lf_8_1 hL)) rfl rfl (fun _ _ h => C_X9_addLoads l E h (lf_7_1 (lf_8_1 hL))) mw593 mw594 mw595 mw17 (gw_ok mw596 rfl) (by decide +kernel) rfl ⟨Nat.le_of_ble_eq_true rfl, Nat.le_of_ble_eq_true rfl⟩ hl.1 rfl (Nat.le_of_ble_eq_true rfl) ⟨Nat.le_refl _, Nat.le_refl _⟩ dX8_bringLoads_150 hM (fun σ11 r12 H locs hG hM => ?_)
            refine lv_aload_n hx hb dX8_bringLoads_153 rfl (lv_at hl 1 rfl) ?_
            refine gt_8_1 X.1 hG hL mw232 dX8_bringLoads_154 ?_
            refine gtN_7_7 X.1 hG (lf_8_1 hL) mw183 dX8_bringLoads_157 ?_
            exact e_iret X hG dX8_bringLoads_160 hM
          · have hM := b_else hM c15
            refine lv_aload_n hx hb dX8_bringLoads_111 rfl (lv_at hl 1 rfl) ?_
            refine gt_8_0 X.1 hG hL mw229 dX8_bringLoads_112 ?_
            refine lv_bipush (v := (8 : Int32)) hx hb dX8_bringLoads_115 (by decide) ?_
            refine lv_aload_n hx hb dX8_bringLoads_117 rfl (lv_at hl 1 rfl) ?_
            refine gt_8_1 X.1 hG hL mw232 dX8_bringLoads_118 ?_
            refine gtN_7_7 X.1 hG (lf_8_1 hL) mw183 dX8_bringLoads_121 ?_
            refine g_callV_i (nA := 2) (o := M_X6_refuse σ7 (k + 1) (8 : Int32) (σ7 (k + 4) 7)) (As := [.int (8 : Int32), .int (σ7 (k + 4) 7)]) X.1 hG (lf_8_0 hL) rfl rfl (fun _ _ h => C_X6_refuse l E h (lf_8_0 hL)) mw422 mw423 mw424 mw14 (gw_ok mw425 rfl) (by decide +kernel) rfl ⟨Nat.le_of_ble_eq_true rfl, Nat.le_of_ble_eq_true rfl⟩ hl.1 rfl (Nat.le_of_ble_eq_true rfl) ⟨Nat.le_refl _, Nat.le_refl _⟩ dX8_bringLoads_124 hM (fun σ13 r14 H locs hG hM => ?_)
            exact e_iret X hG dX8_bringLoads_127 hM
        · have hM := b_else hM c20
          refine lv_aload_n hx hb dX8_bringLoads_73 rfl (lv_at hl 0 rfl) ?_
          refine gt_8_0 X.1 hG hL mw229 dX8_bringLoads_74 ?_
          refine lv_bipush (v := (9 : Int32)) hx hb dX8_bringLoads_77 (by decide) ?_
          refine lv_aload_n hx hb dX8_bringLoads_79 rfl (lv_at hl 0 rfl) ?_
          refine gt_8_1 X.1 hG hL mw232 dX8_bringLoads_80 ?_
          refine gtN_7_1 X.1 hG (lf_8_1 hL) mw166 dX8_bringLoads_83 ?_
          refine lv_iload_n hx hb dX8_bringLoads_86 rfl (lv_at hl 1 rfl) ?_
          refine g_callV_i (nA := 1) (o := M_X9_loadsOf σ7 ((k + 4) + 4) p0) (As := [.int p0]) X.1 hG (lf_7_1 (lf_8_1 hL)) rfl rfl (fun _ _ h => C_X9_loadsOf l E h (lf_7_1 (lf_8_1 hL))) mw589 mw590 mw591 mw17 (gw_ok mw592 rfl) (by decide +kernel) rfl ⟨Nat.le_of_ble_eq_true rfl, Nat.le_of_ble_eq_true rfl⟩ hl.1 rfl (Nat.le_of_ble_eq_true rfl) ⟨Nat.le_refl _, Nat.le_refl _⟩ dX8_bringLoads_87 hM (fun σ16 r17 H locs hG hM => ?_)
          refine g_callV_i (nA := 2) (o := M_X6_refuse σ16 (k + 1) (9 : Int32) r17) (As := [.int (9 : Int32), .int r17]) X.1 hG (lf_8_0 hL) rfl rfl (fun _ _ h => C_X6_refuse l E h (lf_8_0 hL)) mw422 mw423 mw424 mw14 (gw_ok mw425 rfl) (by decide +kernel) rfl ⟨Nat.le_of_ble_eq_true rfl, Nat.le_of_ble_eq_true rfl⟩ hl.1 rfl (Nat.le_of_ble_eq_true rfl) ⟨Nat.le_refl _, Nat.le_refl _⟩ dX8_bringLoads_90 hM (fun σ18 r19 H locs hG hM => ?_)
          exact e_iret X hG dX8_bringLoads_93 hM
      · have hM := b_else hM c23
        refine lv_aload_n hx hb dX8_bringLoads_39 rfl (lv_at hl 0 rfl) ?_
        refine gt_8_0 X.1 hG hL mw229 dX8_bringLoads_40 ?_
        refine lv_iconst (v := (4 : Int32)) hx hb dX8_bringLoads_43 (by decide) ?_
        refine lv_aload_n hx hb dX8_bringLoads_44 rfl (lv_at hl 0 rfl) ?_
        refine gt_8_1 X.1 hG hL mw232 dX8_bringLoads_45 ?_
        refine gtN_7_5 X.1 hG (lf_8_1 hL) mw177 dX8_bringLoads_48 ?_
        refine g_callV_i (nA := 2) (o := M_X6_refuse σ5 (k + 1) (4 : Int32) (σ5 (k + 4) 5)) (As := [.int (4 : Int32), .int (σ5 (k + 4) 5)]) X.1 hG (lf_8_0 hL) rfl rfl (fun _ _ h => C_X6_refuse l E h (lf_8_0 hL)) mw422 mw423 mw424 mw14 (gw_ok mw425 rfl) (by decide +kernel) rfl ⟨Nat.le_of_ble_eq_true rfl, Nat.le_of_ble_eq_true rfl⟩ hl.1 rfl (Nat.le_of_ble_eq_true rfl) ⟨Nat.le_refl _, Nat.le_refl _⟩ dX8_bringLoads_51 hM (fun σ21 r22 H locs hG hM => ?_)
        exact e_iret X hG dX8_bringLoads_54 hM
    · have hM := b_if hM c24
      refine lv_bipush (v := (-2 : Int32)) hx hb dX8_bringLoads_26 (by decide) ?_
      exact e_iret X hG dX8_bringLoads_28 hM
  · have hM := b_if hM c25
    refine lv_iconst (v := (-1 : Int32)) hx hb dX8_bringLoads_14 (by decide) ?_
    exact e_iret X hG dX8_bringLoads_15 hM
def M_X8_addInspector (σ : St) (k : Nat) (p0 : Int32) : Option (St × Int32) := bcall (M_X10_isWithin σ p0 (1 : Int32) (9 : Int32)) fun σ1 r2 => if r2 = 0 then some (σ1, (-2 : Int32)) else (if (σ1 ((k + 4) + 15) 2) < (3 : Int32) then (bcall (M_X3_add σ1 ((k + 4) + 15) p0) fun σ3 r4 => some (σ3, r4)) else (bcall (M_X6_refuse σ1 (k + 1) (1 : Int32) (3 : Int32)) fun σ5 r6 => some (σ5, r6)))
set_option maxRecDepth 20000 in
set_option maxHeartbeats 4000000 in
theorem C_X8_addInspector (l : Launch) (E : Ev) {σ σ' : St} {k : Nat} {p0 : Int32} {r : Int32} (h : M_X8_addInspector σ k p0 = some (σ', r)) (hL : lay 8 k) : Mi l E yX8_addInspector cX8_addInspector 2 (some .int) 4 [.ref (E.1 k), .int p0] σ σ' r := by
  refine Mi_of (C := RX8) rfl (by decide) (Nat.le_of_ble_eq_true rfl) (z := (σ', r)) (fun p e s m below meth c ls X hG hl => ?_)
  have hx := X.1.1.1
  have hb := X.1.1.2.1
  have hM := h
  unfold M_X8_addInspector at hM
  generalize (σ', r) = z at hM ⊢
  have hl : lv_has ls 2 [(0, .ref (E.1 k)), (1, .int p0)] := hl
  refine lv_iload_n hx hb dX8_addInspector_0 rfl (lv_at hl 1 rfl) ?_
  refine lv_iconst (v := (1 : Int32)) hx hb dX8_addInspector_1 (by decide) ?_
  refine lv_bipush (v := (9 : Int32)) hx hb dX8_addInspector_2 (by decide) ?_
  refine g_callSN_i (nA := 3) (o := M_X10_isWithin σ p0 (1 : Int32) (9 : Int32)) (As := [.int p0, .int (1 : Int32), .int (9 : Int32)]) X.1 hG (fun _ _ h => C_X10_isWithin l E h ) mw421 mw369 mw12 (gw_ok mw370 rfl) (by decide +kernel) rfl ⟨Nat.le_of_ble_eq_true rfl, Nat.le_of_ble_eq_true rfl⟩ hl.1 rfl (Nat.le_of_ble_eq_true rfl) ⟨Nat.le_refl _, Nat.le_refl _⟩ dX8_addInspector_4 hM (fun σ1 r2 H locs hG hM => ?_)
  refine lv_if_ne (tgt := 13) hx hb dX8_addInspector_7 (by decide) (fun c8 => ?_) (fun c8 => ?_)
  · have hM := b_else hM c8
    refine lv_aload_n hx hb dX8_addInspector_13 rfl (lv_at hl 0 rfl) ?_
    refine gt_8_1 X.1 hG hL mw232 dX8_addInspector_14 ?_
    refine gtN_7_3 X.1 hG (lf_8_1 hL) mw172 dX8_addInspector_17 ?_
    refine gtN_3_2 X.1 hG (lf_7_3 (lf_8_1 hL)) mw153 dX8_addInspector_20 ?_
    refine lv_iconst (v := (3 : Int32)) hx hb dX8_addInspector_23 (by decide) ?_
    refine lv_icmp_lt (tgt := 37) hx hb dX8_addInspector_24 (by decide) (fun c7 => ?_) (fun c7 => ?_)
    · have hM := b_if hM c7
      refine lv_aload_n hx hb dX8_addInspector_37 rfl (lv_at hl 0 rfl) ?_
      refine gt_8_1 X.1 hG hL mw232 dX8_addInspector_38 ?_
      refine gtN_7_3 X.1 hG (lf_8_1 hL) mw172 dX8_addInspector_41 ?_
      refine lv_iload_n hx hb dX8_addInspector_44 rfl (lv_at hl 1 rfl) ?_
      refine g_callV_i (nA := 1) (o := M_X3_add σ1 ((k + 4) + 15) p0) (As := [.int p0]) X.1 hG (lf_7_3 (lf_8_1 hL)) rfl rfl (fun _ _ h => C_X3_add l E h (lf_7_3 (lf_8_1 hL))) mw619 mw620 mw621 mw19 (gw_ok mw622 rfl) (by decide +kernel) rfl ⟨Nat.le_of_ble_eq_true rfl, Nat.le_of_ble_eq_true rfl⟩ hl.1 rfl (Nat.le_of_ble_eq_true rfl) ⟨Nat.le_refl _, Nat.le_refl _⟩ dX8_addInspector_45 hM (fun σ3 r4 H locs hG hM => ?_)
      exact e_iret X hG dX8_addInspector_48 hM
    · have hM := b_else hM c7
      refine lv_aload_n hx hb dX8_addInspector_27 rfl (lv_at hl 0 rfl) ?_
      refine gt_8_0 X.1 hG hL mw229 dX8_addInspector_28 ?_
      refine lv_iconst (v := (1 : Int32)) hx hb dX8_addInspector_31 (by decide) ?_
      refine lv_iconst (v := (3 : Int32)) hx hb dX8_addInspector_32 (by decide) ?_
      refine g_callV_i (nA := 2) (o := M_X6_refuse σ1 (k + 1) (1 : Int32) (3 : Int32)) (As := [.int (1 : Int32), .int (3 : Int32)]) X.1 hG (lf_8_0 hL) rfl rfl (fun _ _ h => C_X6_refuse l E h (lf_8_0 hL)) mw422 mw423 mw424 mw14 (gw_ok mw425 rfl) (by decide +kernel) rfl ⟨Nat.le_of_ble_eq_true rfl, Nat.le_of_ble_eq_true rfl⟩ hl.1 rfl (Nat.le_of_ble_eq_true rfl) ⟨Nat.le_refl _, Nat.le_refl _⟩ dX8_addInspector_33 hM (fun σ5 r6 H locs hG hM => ?_)
      exact e_iret X hG dX8_addInspector_36 hM
  · have hM := b_if hM c8
    refine lv_bipush (v := (-2 : Int32)) hx hb dX8_addInspector_10 (by decide) ?_
    exact e_iret X hG dX8_addInspector_12 hM
def B_X8_lookAt_114 (σ : St) (k : Nat) (x1 x2 x3 : Int32) : Option (St × Int32) := bcall (M_X1_comeDownFrom σ ((k + 4) + 11) x2) fun σ13 r14 => bcall (M_X3_addFind σ13 ((k + 4) + 15) x1) fun σ15 r16 => bput σ15 (k + 4) 8 ((σ15 (k + 4) 8) + x3) fun σ17 => some (σ17, (1 : Int32))
def M_X8_lookAt (σ : St) (k : Nat) (p0 p1 : Int32) : Option (St × Int32) := bcall (M_X3_has σ ((k + 4) + 15) p0) fun σ1 r2 => if r2 = 0 then some (σ1, (-1 : Int32)) else (bcall (M_X9_has σ1 ((k + 4) + 4) p1) fun σ3 r4 => if r4 = 0 then some (σ3, (-1 : Int32)) else (bcall (M_X7_isWarned σ3 (k + 4)) fun σ5 r6 => if r6 = 0 then (bcall (M_X3_noseOf σ5 ((k + 4) + 15) p0) fun σ7 r8 => bcall (M_X9_tieOf σ7 ((k + 4) + 4) p1) fun σ9 r10 => if (20 : Int32) < (r10 + r8) then (bcall (M_X9_isShut σ9 ((k + 4) + 4) p1) fun σ11 r12 => if r12 = 0 then (bcall (M_X9_shut σ11 ((k + 4) + 4) p1 p0) fun σ18 r19 => B_X8_lookAt_114 σ18 k p0 p1 r8) else (B_X8_lookAt_114 σ11 k p0 p1 r8)) else some (σ9, (0 : Int32))) else (bcall (M_X6_refuse σ5 (k + 1) (4 : Int32) (σ5 (k + 4) 5)) fun σ22 r23 => some (σ22, r23))))
set_option maxRecDepth 20000 in
set_option maxHeartbeats 4000000 in
theorem w_X8_lookAt_114 {p : Program} {l : Launch} {e : Env} {s : State} {m : MethodId} {below : List Frame} {meth : Method} {c : Code} {args : Array Value} {E : Ev} {k : Nat} (X : Bx E p m meth c cX8_lookAt 4 (some .int) s args RX8) (hL : lay 8 k) : ∀ (σ : St) (x1 x2 x3 : Int32) (H : Heap) (locs : List Loc) (ls : Array Slot) (z : St × Int32), GS E σ s.heap H locs → lv_has ls 4 [(0, .ref (E.1 k)), (1, .int x1), (2, .int x2), (3, .int x3)] → B_X8_lookAt_114 σ k x1 x2 x3 = some z → W p l e (rmd 4) s m args below meth c H locs 0 0 (QI E z below args s) (F0 m 114 ls []) := by
  have hx := X.1.1.1
  have hb := X.1.1.2.1
  intro σ x1 x2 x3 H locs ls z  hG hl hM
  unfold B_X8_lookAt_114 at hM
  refine lv_aload_n hx hb dX8_lookAt_114 rfl (lv_at hl 0 rfl) ?_
  refine gt_8_1 X.1 hG hL mw232 dX8_lookAt_115 ?_
  refine gtN_7_2 X.1 hG (lf_8_1 hL) mw169 dX8_lookAt_118 ?_
  refine lv_iload_n hx hb dX8_lookAt_121 rfl (lv_at hl 2 rfl) ?_
  refine g_callV_v (nA := 1) (o := M_X1_comeDownFrom σ ((k + 4) + 11) x2) (As := [.int x2]) X.1 hG (lf_7_2 (lf_8_1 hL)) rfl rfl (fun _ _ h => C_X1_comeDownFrom l E h (lf_7_2 (lf_8_1 hL))) mw649 mw650 mw651 mw18 (gw_ok mw652 rfl) (by decide +kernel) rfl ⟨Nat.le_of_ble_eq_true rfl, Nat.le_of_ble_eq_true rfl⟩ hl.1 rfl (Nat.le_of_ble_eq_true rfl) ⟨Nat.le_refl _, Nat.le_refl _⟩ dX8_lookAt_122 hM (fun σ13 r14 H locs hG hM => ?_)
  refine lv_aload_n hx hb dX8_lookAt_125 rfl (lv_at hl 0 rfl) ?_
  refine gt_8_1 X.1 hG hL mw232 dX8_lookAt_126 ?_
  refine gtN_7_3 X.1 hG (lf_8_1 hL) mw172 dX8_lookAt_129 ?_
  refine lv_iload_n hx hb dX8_lookAt_132 rfl (lv_at hl 1 rfl) ?_
  refine g_callV_v (nA := 1) (o := M_X3_addFind σ13 ((k + 4) + 15) x1) (As := [.int x1]) X.1 hG (lf_7_3 (lf_8_1 hL)) rfl rfl (fun _ _ h => C_X3_addFind l E h (lf_7_3 (lf_8_1 hL))) mw653 mw654 mw655 mw19 (gw_ok mw656 rfl) (by decide +kernel) rfl ⟨Nat.le_of_ble_eq_true rfl, Nat.le_of_ble_eq_true rfl⟩ hl.1 rfl (Nat.le_of_ble_eq_true rfl) ⟨Nat.le_refl _, Nat.le_refl _⟩ dX8_lookAt_133 hM (fun σ15 r16 H locs hG hM => ?_)
  refine lv_aload_n hx hb dX8_lookAt_136 rfl (lv_at hl 0 rfl) ?_
  refine gt_8_1 X.1 hG hL mw232 dX8_lookAt_137 ?_
  refine lv_dup hx hb dX8_lookAt_140 rfl ?_
  refine gtN_7_8 X.1 hG (lf_8_1 hL) mw186 dX8_lookAt_141 ?_
  refine lv_iload_n hx hb dX8_lookAt_144 rfl (lv_at hl 3 rfl) ?_
  refine lv_iadd hx hb dX8_lookAt_145 ?_
  refine ptN_7_8 X.1 hG (lf_8_1 hL) mw186 dX8_lookAt_146 hM (fun σ17 H locs hG hM => ?_)
  refine lv_iconst (v := (1 : Int32)) hx hb dX8_lookAt_149 (by decide) ?_
  exact e_iret X hG dX8_lookAt_150 hM
set_option maxRecDepth 20000 in
set_option maxHeartbeats 4000000 in
theorem C_X8_lookAt (l : Launch) (E : Ev) {σ σ' : St} {k : Nat} {p0 : Int32} {p1 : Int32} {r : Int32} (h : M_X8_lookAt σ k p0 p1 = some (σ', r)) (hL : lay 8 k) : Mi l E yX8_lookAt cX8_lookAt 4 (some .int) 4 [.ref (E.1 k), .int p0, .int p1] σ σ' r := by
  refine Mi_of (C := RX8) rfl (by decide) (Nat.le_of_ble_eq_true rfl) (z := (σ', r)) (fun p e s m below meth c ls X hG hl => ?_)
  have hx := X.1.1.1
  have hb := X.1.1.2.1
  have hM := h
  unfold M_X8_lookAt at hM
  generalize (σ', r) = z at hM ⊢
  have hl : lv_has ls 4 [(0, .ref (E.1 k)), (1, .int p0), (2, .int p1)] := hl
  refine lv_aload_n hx hb dX8_lookAt_0 rfl (lv_at hl 0 rfl) ?_
  refine gt_8_1 X.1 hG hL mw232 dX8_lookAt_1 ?_
  refine gtN_7_3 X.1 hG (lf_8_1 hL) mw172 dX8_lookAt_4 ?_
  refine lv_iload_n hx hb dX8_lookAt_7 rfl (lv_at hl 1 rfl) ?_
  refine g_callV_i (nA := 1) (o := M_X3_has σ ((k + 4) + 15) p0) (As := [.int p0]) X.1 hG (lf_7_3 (lf_8_1 hL)) rfl rfl (fun _ _ h => C_X3_has l E h (lf_7_3 (lf_8_1 hL))) mw632 mw633 mw634 mw19 (gw_ok mw635 rfl) (by decide +kernel) rfl ⟨Nat.le_of_ble_eq_true rfl, Nat.le_of_ble_eq_true rfl⟩ hl.1 rfl (Nat.le_of_ble_eq_true rfl) ⟨Nat.le_refl _, Nat.le_refl _⟩ dX8_lookAt_8 hM (fun σ1 r2 H locs hG hM => ?_)
  refine lv_if_eq (tgt := 28) hx hb dX8_lookAt_11 (by decide) (fun c26 => ?_) (fun c26 => ?_)
  · have hM := b_if hM c26
    refine lv_iconst (v := (-1 : Int32)) hx hb dX8_lookAt_28 (by decide) ?_
    exact e_iret X hG dX8_lookAt_29 hM
  · have hM := b_else hM c26
    refine lv_aload_n hx hb dX8_lookAt_14 rfl (lv_at hl 0 rfl) ?_
    refine gt_8_1 X.1 hG hL mw232 dX8_lookAt_15 ?_
    refine gtN_7_1 X.1 hG (lf_8_1 hL) mw166 dX8_lookAt_18 ?_
    refine lv_iload_n hx hb dX8_lookAt_21 rfl (lv_at hl 2 rfl) ?_
    refine g_callV_i (nA := 1) (o := M_X9_has σ1 ((k + 4) + 4) p1) (As := [.int p1]) X.1 hG (lf_7_1 (lf_8_1 hL)) rfl rfl (fun _ _ h => C_X9_has l E h (lf_7_1 (lf_8_1 hL))) mw522 mw523 mw524 mw17 (gw_ok mw525 rfl) (by decide +kernel) rfl ⟨Nat.le_of_ble_eq_true rfl, Nat.le_of_ble_eq_true rfl⟩ hl.1 rfl (Nat.le_of_ble_eq_true rfl) ⟨Nat.le_refl _, Nat.le_refl _⟩ dX8_lookAt_22 hM (fun σ3 r4 H locs hG hM => ?_)
    refine lv_if_ne (tgt := 30) hx hb dX8_lookAt_25 (by decide) (fun c25 => ?_) (fun c25 => ?_)
    · have hM := b_else hM c25
      refine lv_aload_n hx hb dX8_lookAt_30 rfl (lv_at hl 0 rfl) ?_
      refine gt_8_1 X.1 hG hL mw232 dX8_lookAt_31 ?_
      refine g_callV_i (nA := 0) (o := M_X7_isWarned σ3 (k + 4)) (As := []) X.1 hG (lf_8_1 hL) rfl rfl (fun _ _ h => C_X7_isWarned l E h (lf_8_1 hL)) mw468 mw469 mw470 mw15 (gw_ok mw471 rfl) (by decide +kernel) rfl ⟨Nat.le_of_ble_eq_true rfl, Nat.le_of_ble_eq_true rfl⟩ hl.1 rfl (Nat.le_of_ble_eq_true rfl) ⟨Nat.le_refl _, Nat.le_refl _⟩ dX8_lookAt_34 hM (fun σ5 r6 H locs hG hM => ?_)
      refine lv_if_eq (tgt := 56) hx hb dX8_lookAt_37 (by decide) (fun c24 => ?_) (fun c24 => ?_)
      · have hM := b_if hM c24
        refine lv_aload_n hx hb dX8_lookAt_56 rfl (lv_at hl 0 rfl) ?_
        refine gt_8_1 X.1 hG hL mw232 dX8_lookAt_57 ?_
        refine gtN_7_3 X.1 hG (lf_8_1 hL) mw172 dX8_lookAt_60 ?_
        refine lv_iload_n hx hb dX8_lookAt_63 rfl (lv_at hl 1 rfl) ?_
        refine g_callV_i (nA := 1) (o := M_X3_noseOf σ5 ((k + 4) + 15) p0) (As := [.int p0]) X.1 hG (lf_7_3 (lf_8_1 hL)) rfl rfl (fun _ _ h => C_X3_noseOf l E h (lf_7_3 (lf_8_1 hL))) mw636 mw637 mw638 mw19 (gw_ok mw639 rfl) (by decide +kernel) rfl ⟨Nat.le_of_ble_eq_true rfl, Nat.le_of_ble_eq_true rfl⟩ hl.1 rfl (Nat.le_of_ble_eq_true rfl) ⟨Nat.le_refl _, Nat.le_refl _⟩ dX8_lookAt_64 hM (fun σ7 r8 H locs hG hM => ?_)
        refine lv_istore_n (lv' := [(3, .int r8), (0, .ref (E.1 k)), (1, .int p0), (2, .int p1)]) hx hb dX8_lookAt_67 rfl hl (by decide) rfl (fun ls hl => ?_)
        refine lv_aload_n hx hb dX8_lookAt_68 rfl (lv_at hl 1 rfl) ?_
        refine gt_8_1 X.1 hG hL mw232 dX8_lookAt_69 ?_
        refine gtN_7_1 X.1 hG (lf_8_1 hL) mw166 dX8_lookAt_72 ?_
        refine lv_iload_n hx hb dX8_lookAt_75 rfl (lv_at hl 3 rfl) ?_
        refine g_callV_i (nA := 1) (o := M_X9_tieOf σ7 ((k + 4) + 4) p1) (As := [.int p1]) X.1 hG (lf_7_1 (lf_8_1 hL)) rfl rfl (fun _ _ h => C_X9_tieOf l E h (lf_7_1 (lf_8_1 hL))) mw641 mw642 mw643 mw17 (gw_ok mw644 rfl) (by decide +kernel) rfl ⟨Nat.le_of_ble_eq_true rfl, Nat.le_of_ble_eq_true rfl⟩ hl.1 rfl (Nat.le_of_ble_eq_true rfl) ⟨Nat.le_refl _, Nat.le_refl _⟩ dX8_lookAt_76 hM (fun σ9 r10 H locs hG hM => ?_)
        refine lv_iload_n hx hb dX8_lookAt_79 rfl (lv_at hl 0 rfl) ?_
        refine lv_iadd hx hb dX8_lookAt_80 ?_
        refine lv_bipush (v := (20 : Int32)) hx hb dX8_lookAt_81 (by decide) ?_
        refine lv_icmp_gt (tgt := 88) hx hb dX8_lookAt_83 (by decide) (fun c21 => ?_) (fun c21 => ?_)
        · have hM := b_if hM c21
          refine lv_aload_n hx hb dX8_lookAt_88 rfl (lv_at hl 1 rfl) ?_
          refine gt_8_1 X.1 hG hL mw232 dX8_lookAt_89 ?_
          refine gtN_7_1 X.1 hG (lf_8_1 hL) mw166 dX8_lookAt_92 ?_
          refine lv_iload_n hx hb dX8_lookAt_95 rfl (lv_at hl 3 rfl) ?_
          refine g_callV_i (nA := 1) (o := M_X9_isShut σ9 ((k + 4) + 4) p1) (As := [.int p1]) X.1 hG (lf_7_1 (lf_8_1 hL)) rfl rfl (fun _ _ h => C_X9_isShut l E h (lf_7_1 (lf_8_1 hL))) mw536 mw537 mw538 mw17 (gw_ok mw539 rfl) (by decide +kernel) rfl ⟨Nat.le_of_ble_eq_true rfl, Nat.le_of_ble_eq_true rfl⟩ hl.1 rfl (Nat.le_of_ble_eq_true rfl) ⟨Nat.le_refl _, Nat.le_refl _⟩ dX8_lookAt_96 hM (fun σ11 r12 H locs hG hM => ?_)
          refine lv_if_ne (tgt := 114) hx hb dX8_lookAt_99 (by decide) (fun c20 => ?_) (fun c20 => ?_)
          · have hM := b_else hM c20
            exact w_X8_lookAt_114 X hL σ11 p0 p1 r8 _ _ _ z hG (lv_sub hl [1, 2, 3, 0] rfl) hM
          · have hM := b_if hM c20
            refine lv_aload_n hx hb dX8_lookAt_102 rfl (lv_at hl 1 rfl) ?_
            refine gt_8_1 X.1 hG hL mw232 dX8_lookAt_103 ?_
            refine gtN_7_1 X.1 hG (lf_8_1 hL) mw166 dX8_lookAt_106 ?_
            refine lv_iload_n hx hb dX8_lookAt_109 rfl (lv_at hl 3 rfl) ?_
            refine lv_iload_n hx hb dX8_lookAt_110 rfl (lv_at hl 2 rfl) ?_
            refine g_callV_v (nA := 2) (o := M_X9_shut σ11 ((k + 4) + 4) p1 p0) (As := [.int p1, .int p0]) X.1 hG (lf_7_1 (lf_8_1 hL)) rfl rfl (fun _ _ h => C_X9_shut l E h (lf_7_1 (lf_8_1 hL))) mw645 mw646 mw647 mw17 (gw_ok mw648 rfl) (by decide +kernel) rfl ⟨Nat.le_of_ble_eq_true rfl, Nat.le_of_ble_eq_true rfl⟩ hl.1 rfl (Nat.le_of_ble_eq_true rfl) ⟨Nat.le_refl _, Nat.le_refl _⟩ dX8_lookAt_111 hM (fun σ18 r19 H locs hG hM => ?_)
            exact w_X8_lookAt_114 X hL σ18 p0 p1 r8 _ _ _ z hG (lv_sub hl [1, 2, 3, 0] rfl) hM
        · have hM := b_else hM c21
          refine lv_iconst (v := (0 : Int32)) hx hb dX8_lookAt_86 (by decide) ?_
          exact e_iret X hG dX8_lookAt_87 hM
      · have hM := b_else hM c24
        refine lv_aload_n hx hb dX8_lookAt_40 rfl (lv_at hl 0 rfl) ?_
        refine gt_8_0 X.1 hG hL mw229 dX8_lookAt_41 ?_
        refine lv_iconst (v := (4 : Int32)) hx hb dX8_lookAt_44 (by decide) ?_
        refine lv_aload_n hx hb dX8_lookAt_45 rfl (lv_at hl 0 rfl) ?_
        refine gt_8_1 X.1 hG hL mw232 dX8_lookAt_46 ?_
        refine gtN_7_5 X.1 hG (lf_8_1 hL) mw177 dX8_lookAt_49 ?_
        refine g_callV_i (nA := 2) (o := M_X6_refuse σ5 (k + 1) (4 : Int32) (σ5 (k + 4) 5)) (As := [.int (4 : Int32), .int (σ5 (k + 4) 5)]) X.1 hG (lf_8_0 hL) rfl rfl (fun _ _ h => C_X6_refuse l E h (lf_8_0 hL)) mw422 mw423 mw424 mw14 (gw_ok mw425 rfl) (by decide +kernel) rfl ⟨Nat.le_of_ble_eq_true rfl, Nat.le_of_ble_eq_true rfl⟩ hl.1 rfl (Nat.le_of_ble_eq_true rfl) ⟨Nat.le_refl _, Nat.le_refl _⟩ dX8_lookAt_52 hM (fun σ22 r23 H locs hG hM => ?_)
        exact e_iret X hG dX8_lookAt_55 hM
    · have hM := b_if hM c25
      refine lv_iconst (v := (-1 : Int32)) hx hb dX8_lookAt_28 (by decide) ?_
      exact e_iret X hG dX8_lookAt_29 hM
def B_X9_atPlaceByTie_2  : Nat → St → Nat → Int32 → Int32 → Option (St × Int32)
  | 0, _, _, _, _ => none
  | n + 1, σ, k, x1, x2 => if (σ k 6) ≤ x2 then some (σ, (-1 : Int32)) else (bcall (M_X9_placeByTieOf σ k x2) fun σ1 r2 => if r2 = x1 then some (σ1, x2) else (blet (x2 + (1 : Int32)) fun v3 => B_X9_atPlaceByTie_2 n σ1 k x1 v3))
def M_X9_atPlaceByTie (σ : St) (k : Nat) (p0 : Int32) : Option (St × Int32) := B_X9_atPlaceByTie_2 FU σ k p0 (0 : Int32)
set_option maxRecDepth 20000 in
set_option maxHeartbeats 4000000 in
theorem w_X9_atPlaceByTie_2 {p : Program} {l : Launch} {e : Env} {s : State} {m : MethodId} {below : List Frame} {meth : Method} {c : Code} {args : Array Value} {E : Ev} {k : Nat} (X : Bx E p m meth c cX9_atPlaceByTie 3 (some .int) s args RX9) (hL : lay 9 k) : ∀ (n : Nat) (σ : St) (x1 x2 : Int32) (H : Heap) (locs : List Loc) (ls : Array Slot) (z : St × Int32), GS E σ s.heap H locs → lv_has ls 3 [(0, .ref (E.1 k)), (1, .int x1), (2, .int x2)] → B_X9_atPlaceByTie_2 n σ k x1 x2 = some z → W p l e (rmd 4) s m args below meth c H locs 0 0 (QI E z below args s) (F0 m 2 ls []) := by
  have hx := X.1.1.1
  have hb := X.1.1.2.1
  intro n
  induction n with
  | zero => intro σ x1 x2 H locs ls z  hG hl hM; cases hM
  | succ n ih =>
    intro σ x1 x2 H locs ls z  hG hl hM
    unfold B_X9_atPlaceByTie_2 at hM
    refine lv_iload_n hx hb dX9_atPlaceByTie_2 rfl (lv_at hl 2 rfl) ?_
    refine lv_aload_n hx hb dX9_atPlaceByTie_3 rfl (lv_at hl 0 rfl) ?_
    refine gt_9_6 X.1 hG hL mw103 dX9_atPlaceByTie_4 ?_
    refine lv_icmp_ge (tgt := 27) hx hb dX9_atPlaceByTie_7 (by decide) (fun c5 => ?_) (fun c5 => ?_)
    · have hM := b_if hM c5
      refine lv_iconst (v := (-1 : Int32)) hx hb dX9_atPlaceByTie_27 (by decide) ?_
      exact e_iret X hG dX9_atPlaceByTie_28 hM
    · have hM := b_else hM c5
      refine lv_aload_n hx hb dX9_atPlaceByTie_10 rfl (lv_at hl 0 rfl) ?_
      refine lv_iload_n hx hb dX9_atPlaceByTie_11 rfl (lv_at hl 2 rfl) ?_
      refine g_callV_i (nA := 1) (o := M_X9_placeByTieOf σ k x2) (As := [.int x2]) X.1 hG hL rfl rfl (fun _ _ h => C_X9_placeByTieOf l E h hL) mw907 mw909 mw7 mw17 (gw_ok mw910 rfl) (by decide +kernel) rfl ⟨Nat.le_of_ble_eq_true rfl, Nat.le_of_ble_eq_true rfl⟩ hl.1 rfl (Nat.le_of_ble_eq_true rfl) ⟨Nat.le_refl _, Nat.le_refl _⟩ dX9_atPlaceByTie_12 hM (fun σ1 r2 H locs hG hM => ?_)
      refine lv_iload_n hx hb dX9_atPlaceByTie_15 rfl (lv_at hl 1 rfl) ?_
      refine lv_icmp_ne (tgt := 21) hx hb dX9_atPlaceByTie_16 (by decide) (fun c4 => ?_) (fun c4 => ?_)
      · have hM := b_else hM c4
        obtain ⟨v3, ev3, hM⟩ := g_nm hM
        refine lv_iinc (v := v3) (lv' := [(2, .int v3), (0, .ref (E.1 k)), (1, .int x1)]) hx hb dX9_atPlaceByTie_21 hl (k := 2) rfl (by rw [ev3]; rfl) (by decide) rfl (fun ls hl => ?_)
        refine lv_goto (tgt := 2) hx hb dX9_atPlaceByTie_24 (by decide) ?_
        exact ih σ1 x1 v3 _ _ _ z hG (lv_sub hl [1, 2, 0] rfl) hM
      · have hM := b_if hM c4
        refine lv_iload_n hx hb dX9_atPlaceByTie_19 rfl (lv_at hl 2 rfl) ?_
        exact e_iret X hG dX9_atPlaceByTie_20 hM
set_option maxRecDepth 20000 in
set_option maxHeartbeats 4000000 in
theorem C_X9_atPlaceByTie (l : Launch) (E : Ev) {σ σ' : St} {k : Nat} {p0 : Int32} {r : Int32} (h : M_X9_atPlaceByTie σ k p0 = some (σ', r)) (hL : lay 9 k) : Mi l E yX9_atPlaceByTie cX9_atPlaceByTie 3 (some .int) 4 [.ref (E.1 k), .int p0] σ σ' r := by
  refine Mi_of (C := RX9) rfl (by decide) (Nat.le_of_ble_eq_true rfl) (z := (σ', r)) (fun p e s m below meth c ls X hG hl => ?_)
  have hx := X.1.1.1
  have hb := X.1.1.2.1
  have hM := h
  unfold M_X9_atPlaceByTie at hM
  generalize (σ', r) = z at hM ⊢
  have hl : lv_has ls 3 [(0, .ref (E.1 k)), (1, .int p0)] := hl
  refine lv_iconst (v := (0 : Int32)) hx hb dX9_atPlaceByTie_0 (by decide) ?_
  refine lv_istore_n (lv' := [(2, .int (0 : Int32)), (0, .ref (E.1 k)), (1, .int p0)]) hx hb dX9_atPlaceByTie_1 rfl hl (by decide) rfl (fun ls hl => ?_)
  exact w_X9_atPlaceByTie_2 X hL FU σ p0 (0 : Int32) _ _ _ z hG (lv_sub hl [1, 2, 0] rfl) hM
def M_X9_add (σ : St) (k : Nat) (p0 p1 p2 : Int32) : Option (St × Int32) := bcall (M_X10_put σ (k + 1) (σ k 6) p0) fun σ1 r2 => bcall (M_X10_put σ1 (k + 2) (σ1 k 6) p1) fun σ3 r4 => bcall (M_X10_put σ3 (k + 4) (σ3 k 6) p2) fun σ5 r6 => bcall (M_X10_put σ5 (k + 5) (σ5 k 6) (0 : Int32)) fun σ7 r8 => bcall (M_X9_bind σ7 k (σ7 k 6)) fun σ9 r10 => bput σ9 k 6 ((σ9 k 6) + (1 : Int32)) fun σ11 => some (σ11, (σ11 k 6) - (1 : Int32))
set_option maxRecDepth 20000 in
set_option maxHeartbeats 4000000 in
theorem C_X9_add (l : Launch) (E : Ev) {σ σ' : St} {k : Nat} {p0 : Int32} {p1 : Int32} {p2 : Int32} {r : Int32} (h : M_X9_add σ k p0 p1 p2 = some (σ', r)) (hL : lay 9 k) : Mi l E yX9_add cX9_add 4 (some .int) 3 [.ref (E.1 k), .int p0, .int p1, .int p2] σ σ' r := by
  refine Mi_of (C := RX9) rfl (by decide) (Nat.le_of_ble_eq_true rfl) (z := (σ', r)) (fun p e s m below meth c ls X hG hl => ?_)
  have hx := X.1.1.1
  have hb := X.1.1.2.1
  have hM := h
  unfold M_X9_add at hM
  generalize (σ', r) = z at hM ⊢
  have hl : lv_has ls 4 [(0, .ref (E.1 k)), (1, .int p0), (2, .int p1), (3, .int p2)] := hl
  refine lv_aload_n hx hb dX9_add_0 rfl (lv_at hl 0 rfl) ?_
  refine gt_9_0 X.1 hG hL mw97 dX9_add_1 ?_
  refine lv_aload_n hx hb dX9_add_4 rfl (lv_at hl 0 rfl) ?_
  refine gt_9_6 X.1 hG hL mw103 dX9_add_5 ?_
  refine lv_iload_n hx hb dX9_add_8 rfl (lv_at hl 1 rfl) ?_
  refine g_callSN_v (nA := 3) (o := M_X10_put σ (k + 1) (σ k 6) p0) (As := [.ref (E.1 (k + 1)), .int (σ k 6), .int p0]) X.1 hG (fun _ _ h => C_X10_put l E h (lf_9_0 hL)) mw492 mw431 mw12 (gw_ok mw432 rfl) (by decide +kernel) rfl ⟨Nat.le_of_ble_eq_true rfl, Nat.le_of_ble_eq_true rfl⟩ hl.1 rfl (Nat.le_of_ble_eq_true rfl) ⟨Nat.le_refl _, Nat.le_refl _⟩ dX9_add_9 hM (fun σ1 r2 H locs hG hM => ?_)
  refine lv_aload_n hx hb dX9_add_12 rfl (lv_at hl 0 rfl) ?_
  refine gt_9_1 X.1 hG hL mw98 dX9_add_13 ?_
  refine lv_aload_n hx hb dX9_add_16 rfl (lv_at hl 0 rfl) ?_
  refine gt_9_6 X.1 hG hL mw103 dX9_add_17 ?_
  refine lv_iload_n hx hb dX9_add_20 rfl (lv_at hl 2 rfl) ?_
  refine g_callSN_v (nA := 3) (o := M_X10_put σ1 (k + 2) (σ1 k 6) p1) (As := [.ref (E.1 (k + 2)), .int (σ1 k 6), .int p1]) X.1 hG (fun _ _ h => C_X10_put l E h (lf_9_1 hL)) mw492 mw431 mw12 (gw_ok mw432 rfl) (by decide +kernel) rfl ⟨Nat.le_of_ble_eq_true rfl, Nat.le_of_ble_eq_true rfl⟩ hl.1 rfl (Nat.le_of_ble_eq_true rfl) ⟨Nat.le_refl _, Nat.le_refl _⟩ dX9_add_21 hM (fun σ3 r4 H locs hG hM => ?_)
  refine lv_aload_n hx hb dX9_add_24 rfl (lv_at hl 0 rfl) ?_
  refine gt_9_3 X.1 hG hL mw100 dX9_add_25 ?_
  refine lv_aload_n hx hb dX9_add_28 rfl (lv_at hl 0 rfl) ?_
  refine gt_9_6 X.1 hG hL mw103 dX9_add_29 ?_
  refine lv_iload_n hx hb dX9_add_32 rfl (lv_at hl 3 rfl) ?_
  refine g_callSN_v (nA := 3) (o := M_X10_put σ3 (k + 4) (σ3 k 6) p2) (As := [.ref (E.1 (k + 4)), .int (σ3 k 6), .int p2]) X.1 hG (fun _ _ h => C_X10_put l E h (lf_9_3 hL)) mw492 mw431 mw12 (gw_ok mw432 rfl) (by decide +kernel) rfl ⟨Nat.le_of_ble_eq_true rfl, Nat.le_of_ble_eq_true rfl⟩ hl.1 rfl (Nat.le_of_ble_eq_true rfl) ⟨Nat.le_refl _, Nat.le_refl _⟩ dX9_add_33 hM (fun σ5 r6 H locs hG hM => ?_)
  refine lv_aload_n hx hb dX9_add_36 rfl (lv_at hl 0 rfl) ?_
  refine gt_9_4 X.1 hG hL mw101 dX9_add_37 ?_
  refine lv_aload_n hx hb dX9_add_40 rfl (lv_at hl 0 rfl) ?_
  refine gt_9_6 X.1 hG hL mw103 dX9_add_41 ?_
  refine lv_iconst (v := (0 : Int32)) hx hb dX9_add_44 (by decide) ?_
  refine g_callSN_v (nA := 3) (o := M_X10_put σ5 (k + 5) (σ5 k 6) (0 : Int32)) (As := [.ref (E.1 (k + 5)), .int (σ5 k 6), .int (0 : Int32)]) X.1 hG (fun _ _ h => C_X10_put l E h (lf_9_4 hL)) mw492 mw431 mw12 (gw_ok mw432 rfl) (by decide +kernel) rfl ⟨Nat.le_of_ble_eq_true rfl, Nat.le_of_ble_eq_true rfl⟩ hl.1 rfl (Nat.le_of_ble_eq_true rfl) ⟨Nat.le_refl _, Nat.le_refl _⟩ dX9_add_45 hM (fun σ7 r8 H locs hG hM => ?_)
  refine lv_aload_n hx hb dX9_add_48 rfl (lv_at hl 0 rfl) ?_
  refine lv_aload_n hx hb dX9_add_49 rfl (lv_at hl 0 rfl) ?_
  refine gt_9_6 X.1 hG hL mw103 dX9_add_50 ?_
  refine g_callV_v (nA := 1) (o := M_X9_bind σ7 k (σ7 k 6)) (As := [.int (σ7 k 6)]) X.1 hG hL rfl rfl (fun _ _ h => C_X9_bind l E h hL) mw493 mw494 mw495 mw17 (gw_ok mw496 rfl) (by decide +kernel) rfl ⟨Nat.le_of_ble_eq_true rfl, Nat.le_of_ble_eq_true rfl⟩ hl.1 rfl (Nat.le_of_ble_eq_true rfl) ⟨Nat.le_refl _, Nat.le_refl _⟩ dX9_add_53 hM (fun σ9 r10 H locs hG hM => ?_)
  refine lv_aload_n hx hb dX9_add_56 rfl (lv_at hl 0 rfl) ?_
  refine lv_dup hx hb dX9_add_57 rfl ?_
  refine gt_9_6 X.1 hG hL mw103 dX9_add_58 ?_
  refine lv_iconst (v := (1 : Int32)) hx hb dX9_add_61 (by decide) ?_
  refine lv_iadd hx hb dX9_add_62 ?_
  refine pt_9_6 X.1 hG hL mw103 dX9_add_63 hM (fun σ11 H locs hG hM => ?_)
  refine lv_aload_n hx hb dX9_add_66 rfl (lv_at hl 0 rfl) ?_
  refine gt_9_6 X.1 hG hL mw103 dX9_add_67 ?_
  refine lv_iconst (v := (1 : Int32)) hx hb dX9_add_70 (by decide) ?_
  refine lv_isub hx hb dX9_add_71 ?_
  exact e_iret X hG dX9_add_72 hM
def M_X10_oldest (σ : St) (k : Nat) (p0 : Int32) : Option (St × Int32) := bcall (M_X9_atPlaceByTie σ ((k + 5) + 4) p0) fun σ1 r2 => some (σ1, r2)
set_option maxRecDepth 20000 in
set_option maxHeartbeats 4000000 in
theorem C_X10_oldest (l : Launch) (E : Ev) {σ σ' : St} {k : Nat} {p0 : Int32} {r : Int32} (h : M_X10_oldest σ k p0 = some (σ', r)) (hL : lay 10 k) : Mi l E yX10_oldest cX10_oldest 2 (some .int) 5 [.ref (E.1 k), .int p0] σ σ' r := by
  refine Mi_of (C := RX10) rfl (by decide) (Nat.le_of_ble_eq_true rfl) (z := (σ', r)) (fun p e s m below meth c ls X hG hl => ?_)
  have hx := X.1.1.1
  have hb := X.1.1.2.1
  have hM := h
  unfold M_X10_oldest at hM
  generalize (σ', r) = z at hM ⊢
  have hl : lv_has ls 2 [(0, .ref (E.1 k)), (1, .int p0)] := hl
  refine lv_aload_n hx hb dX10_oldest_0 rfl (lv_at hl 0 rfl) ?_
  refine gt_10_1 X.1 hG hL mw300 dX10_oldest_1 ?_
  refine gtN_7_1 X.1 hG (lf_10_1 hL) mw167 dX10_oldest_4 ?_
  refine lv_iload_n hx hb dX10_oldest_7 rfl (lv_at hl 1 rfl) ?_
  refine g_callV_i (nA := 1) (o := M_X9_atPlaceByTie σ ((k + 5) + 4) p0) (As := [.int p0]) X.1 hG (lf_7_1 (lf_10_1 hL)) rfl rfl (fun _ _ h => C_X9_atPlaceByTie l E h (lf_7_1 (lf_10_1 hL))) mw903 mw904 mw905 mw17 (gw_ok mw906 rfl) (by decide +kernel) rfl ⟨Nat.le_of_ble_eq_true rfl, Nat.le_of_ble_eq_true rfl⟩ hl.1 rfl (Nat.le_of_ble_eq_true rfl) ⟨Nat.le_refl _, Nat.le_refl _⟩ dX10_oldest_8 hM (fun σ1 r2 H locs hG hM => ?_)
  exact e_iret X hG dX10_oldest_11 hM
def B_X10_describe_20  : Nat → St → Nat → Int32 → Option (St × Int32)
  | 0, _, _, _ => none
  | n + 1, σ, k, x1 => if x1 < 0 then (if (σ ((k + 5) + 4) 6) = 0 then (bcall (M_X10_writeBare σ k) fun σ4 r5 => some (σ4, σ4 (k + 243) 1)) else some (σ, σ (k + 243) 1)) else (bcall (M_X10_writeStorey σ k x1) fun σ7 r8 => if x1 ≤ 0 then (blet (x1 + (-1 : Int32)) fun v9 => B_X10_describe_20 n σ7 k v9) else (bcall (M_X4_put σ7 (k + 243) (32 : Int32)) fun σ10 r11 => blet (x1 + (-1 : Int32)) fun v12 => B_X10_describe_20 n σ10 k v12))
def M_X10_describe (σ : St) (k : Nat)  : Option (St × Int32) := bcall (M_X4_makeEmpty σ (k + 243)) fun σ1 r2 => blet ((σ1 ((k + 5) + 4) 6) - (1 : Int32)) fun v3 => B_X10_describe_20 FU σ1 k v3
set_option maxRecDepth 20000 in
set_option maxHeartbeats 4000000 in
theorem w_X10_describe_20 {p : Program} {l : Launch} {e : Env} {s : State} {m : MethodId} {below : List Frame} {meth : Method} {c : Code} {args : Array Value} {E : Ev} {k : Nat} (X : Bx E p m meth c cX10_describe 2 (some .int) s args RX10) (hL : lay 10 k) : ∀ (n : Nat) (σ : St) (x1 : Int32) (H : Heap) (locs : List Loc) (ls : Array Slot) (z : St × Int32), GS E σ s.heap H locs → lv_has ls 2 [(0, .ref (E.1 k)), (1, .int x1)] → B_X10_describe_20 n σ k x1 = some z → W p l e (rmd 6) s m args below meth c H locs 0 0 (QI E z below args s) (F0 m 20 ls []) := by
  have hx := X.1.1.1
  have hb := X.1.1.2.1
  intro n
  induction n with
  | zero => intro σ x1 H locs ls z  hG hl hM; cases hM
  | succ n ih =>
    intro σ x1 H locs ls z  hG hl hM
    unfold B_X10_describe_20 at hM
    refine lv_iload_n hx hb dX10_describe_20 rfl (lv_at hl 1 rfl) ?_
    refine lv_if_lt (tgt := 48) hx hb dX10_describe_21 (by decide) (fun c14 => ?_) (fun c14 => ?_)
    · have hM := b_if hM c14
      refine lv_aload_n hx hb dX10_describe_48 rfl (lv_at hl 0 rfl) ?_
      refine gt_10_1 X.1 hG hL mw300 dX10_describe_49 ?_
      refine gtN_7_1 X.1 hG (lf_10_1 hL) mw167 dX10_describe_52 ?_
      refine gtN_9_6 X.1 hG (lf_7_1 (lf_10_1 hL)) mw106 dX10_describe_55 ?_
      refine lv_if_ne (tgt := 65) hx hb dX10_describe_58 (by decide) (fun c6 => ?_) (fun c6 => ?_)
      · have hM := b_else hM c6
        refine lv_aload_n hx hb dX10_describe_65 rfl (lv_at hl 0 rfl) ?_
        refine gt_10_6 X.1 hG hL mw305 dX10_describe_66 ?_
        refine gtN_4_1 X.1 hG (lf_10_6 hL) mw272 dX10_describe_69 ?_
        exact e_iret X hG dX10_describe_72 hM
      · have hM := b_if hM c6
        refine lv_aload_n hx hb dX10_describe_61 rfl (lv_at hl 0 rfl) ?_
        refine g_callV_v (nA := 0) (o := M_X10_writeBare σ k) (As := []) X.1 hG hL rfl rfl (fun _ _ h => C_X10_writeBare l E h hL) mw1040 mw1042 mw10 mw12 (gw_ok mw1043 rfl) (by decide +kernel) rfl ⟨Nat.le_of_ble_eq_true rfl, Nat.le_of_ble_eq_true rfl⟩ hl.1 rfl (Nat.le_of_ble_eq_true rfl) ⟨Nat.le_refl _, Nat.le_refl _⟩ dX10_describe_62 hM (fun σ4 r5 H locs hG hM => ?_)
        refine lv_aload_n hx hb dX10_describe_65 rfl (lv_at hl 0 rfl) ?_
        refine gt_10_6 X.1 hG hL mw305 dX10_describe_66 ?_
        refine gtN_4_1 X.1 hG (lf_10_6 hL) mw272 dX10_describe_69 ?_
        exact e_iret X hG dX10_describe_72 hM
    · have hM := b_else hM c14
      refine lv_aload_n hx hb dX10_describe_24 rfl (lv_at hl 0 rfl) ?_
      refine lv_iload_n hx hb dX10_describe_25 rfl (lv_at hl 1 rfl) ?_
      refine g_callV_v (nA := 1) (o := M_X10_writeStorey σ k x1) (As := [.int x1]) X.1 hG hL rfl rfl (fun _ _ h => C_X10_writeStorey l E h hL) mw1030 mw1032 mw9 mw12 (gw_ok mw1033 rfl) (by decide +kernel) rfl ⟨Nat.le_of_ble_eq_true rfl, Nat.le_of_ble_eq_true rfl⟩ hl.1 rfl (Nat.le_of_ble_eq_true rfl) ⟨Nat.le_refl _, Nat.le_refl _⟩ dX10_describe_26 hM (fun σ7 r8 H locs hG hM => ?_)
      refine lv_iload_n hx hb dX10_describe_29 rfl (lv_at hl 1 rfl) ?_
      refine lv_if_le (tgt := 42) hx hb dX10_describe_30 (by decide) (fun c13 => ?_) (fun c13 => ?_)
      · have hM := b_if hM c13
        obtain ⟨v9, ev9, hM⟩ := g_nm hM
        refine lv_iinc (v := v9) (lv' := [(1, .int v9), (0, .ref (E.1 k))]) hx hb dX10_describe_42 hl (k := 1) rfl (by rw [ev9]; rfl) (by decide) rfl (fun ls hl => ?_)
        refine lv_goto (tgt := 20) hx hb dX10_describe_45 (by decide) ?_
        exact ih σ7 v9 _ _ _ z hG (lv_sub hl [1, 0] rfl) hM
      · have hM := b_else hM c13
        refine lv_aload_n hx hb dX10_describe_33 rfl (lv_at hl 0 rfl) ?_
        refine gt_10_6 X.1 hG hL mw305 dX10_describe_34 ?_
        refine lv_bipush (v := (32 : Int32)) hx hb dX10_describe_37 (by decide) ?_
        refine g_callV_v (nA := 1) (o := M_X4_put σ7 (k + 243) (32 : Int32)) (As := [.int (32 : Int32)]) X.1 hG (lf_10_6 hL) rfl rfl (fun _ _ h => C_X4_put l E h (lf_10_6 hL)) mw371 mw372 mw373 mw21 (gw_ok mw374 rfl) (by decide +kernel) rfl ⟨Nat.le_of_ble_eq_true rfl, Nat.le_of_ble_eq_true rfl⟩ hl.1 rfl (Nat.le_of_ble_eq_true rfl) ⟨Nat.le_refl _, Nat.le_refl _⟩ dX10_describe_39 hM (fun σ10 r11 H locs hG hM => ?_)
        obtain ⟨v12, ev12, hM⟩ := g_nm hM
        refine lv_iinc (v := v12) (lv' := [(1, .int v12), (0, .ref (E.1 k))]) hx hb dX10_describe_42 hl (k := 1) rfl (by rw [ev12]; rfl) (by decide) rfl (fun ls hl => ?_)
        refine lv_goto (tgt := 20) hx hb dX10_describe_45 (by decide) ?_
        exact ih σ10 v12 _ _ _ z hG (lv_sub hl [1, 0] rfl) hM
set_option maxRecDepth 20000 in
set_option maxHeartbeats 4000000 in
theorem C_X10_describe (l : Launch) (E : Ev) {σ σ' : St} {k : Nat} {r : Int32} (h : M_X10_describe σ k = some (σ', r)) (hL : lay 10 k) : Mi l E yX10_describe cX10_describe 2 (some .int) 6 [.ref (E.1 k)] σ σ' r := by
  refine Mi_of (C := RX10) rfl (by decide) (Nat.le_of_ble_eq_true rfl) (z := (σ', r)) (fun p e s m below meth c ls X hG hl => ?_)
  have hx := X.1.1.1
  have hb := X.1.1.2.1
  have hM := h
  unfold M_X10_describe at hM
  generalize (σ', r) = z at hM ⊢
  have hl : lv_has ls 2 [(0, .ref (E.1 k))] := hl
  refine lv_aload_n hx hb dX10_describe_0 rfl (lv_at hl 0 rfl) ?_
  refine gt_10_6 X.1 hG hL mw305 dX10_describe_1 ?_
  refine g_callV_v (nA := 0) (o := M_X4_makeEmpty σ (k + 243)) (As := []) X.1 hG (lf_10_6 hL) rfl rfl (fun _ _ h => C_X4_makeEmpty l E h (lf_10_6 hL)) mw825 mw826 mw827 mw21 (gw_ok mw828 rfl) (by decide +kernel) rfl ⟨Nat.le_of_ble_eq_true rfl, Nat.le_of_ble_eq_true rfl⟩ hl.1 rfl (Nat.le_of_ble_eq_true rfl) ⟨Nat.le_refl _, Nat.le_refl _⟩ dX10_describe_4 hM (fun σ1 r2 H locs hG hM => ?_)
  refine lv_aload_n hx hb dX10_describe_7 rfl (lv_at hl 0 rfl) ?_
  refine gt_10_1 X.1 hG hL mw300 dX10_describe_8 ?_
  refine gtN_7_1 X.1 hG (lf_10_1 hL) mw167 dX10_describe_11 ?_
  refine gtN_9_6 X.1 hG (lf_7_1 (lf_10_1 hL)) mw106 dX10_describe_14 ?_
  refine lv_iconst (v := (1 : Int32)) hx hb dX10_describe_17 (by decide) ?_
  refine lv_isub hx hb dX10_describe_18 ?_
  refine g_name hM (fun v3 hM => ?_)
  refine lv_istore_n (lv' := [(1, .int v3), (0, .ref (E.1 k))]) hx hb dX10_describe_19 rfl hl (by decide) rfl (fun ls hl => ?_)
  exact w_X10_describe_20 X hL FU σ1 v3 _ _ _ z hG (lv_sub hl [1, 0] rfl) hM
def M_X10_undo (σ : St) (k : Nat)  : Option (St × Int32) := if (σ (k + 59) 3) = 0 then some (σ, (-4 : Int32)) else (bcall (M_X2_stepBack σ (k + 59)) fun σ1 r2 => bcall (M_X7_take σ1 (k + 5) r2) fun σ3 r4 => some (σ3, σ3 (k + 59) 3))
set_option maxRecDepth 20000 in
set_option maxHeartbeats 4000000 in
theorem C_X10_undo (l : Launch) (E : Ev) {σ σ' : St} {k : Nat} {r : Int32} (h : M_X10_undo σ k = some (σ', r)) (hL : lay 10 k) : Mi l E yX10_undo cX10_undo 1 (some .int) 4 [.ref (E.1 k)] σ σ' r := by
  refine Mi_of (C := RX10) rfl (by decide) (Nat.le_of_ble_eq_true rfl) (z := (σ', r)) (fun p e s m below meth c ls X hG hl => ?_)
  have hx := X.1.1.1
  have hb := X.1.1.2.1
  have hM := h
  unfold M_X10_undo at hM
  generalize (σ', r) = z at hM ⊢
  have hl : lv_has ls 1 [(0, .ref (E.1 k))] := hl
  refine lv_aload_n hx hb dX10_undo_0 rfl (lv_at hl 0 rfl) ?_
  refine gt_10_4 X.1 hG hL mw303 dX10_undo_1 ?_
  refine gtN_2_3 X.1 hG (lf_10_4 hL) mw253 dX10_undo_4 ?_
  refine lv_if_ne (tgt := 13) hx hb dX10_undo_7 (by decide) (fun c5 => ?_) (fun c5 => ?_)
  · have hM := b_else hM c5
    refine lv_aload_n hx hb dX10_undo_13 rfl (lv_at hl 0 rfl) ?_
    refine gt_10_1 X.1 hG hL mw300 dX10_undo_14 ?_
    refine lv_aload_n hx hb dX10_undo_17 rfl (lv_at hl 0 rfl) ?_
    refine gt_10_4 X.1 hG hL mw303 dX10_undo_18 ?_
    refine g_callV_r (nA := 0) (o := M_X2_stepBack σ (k + 59)) (As := []) X.1 hG (lf_10_4 hL) rfl rfl (fun _ _ h => C_X2_stepBack l E h (lf_10_4 hL)) mw994 mw995 mw996 mw20 (gw_ok mw997 rfl) (by decide +kernel) rfl ⟨Nat.le_of_ble_eq_true rfl, Nat.le_of_ble_eq_true rfl⟩ hl.1 rfl (Nat.le_of_ble_eq_true rfl) ⟨Nat.le_refl _, Nat.le_refl _⟩ dX10_undo_21 hM (fun σ1 r2 H locs hG hEr2 hM => ?_)
    have hNr2 := L_X2_stepBack ((lf_10_4 hL)) hEr2
    refine g_callV_v (nA := 1) (o := M_X7_take σ1 (k + 5) r2) (As := [.ref (E.1 r2)]) X.1 hG (lf_10_1 hL) rfl rfl (fun _ _ h => C_X7_take l E h (lf_10_1 hL) hNr2) mw853 mw388 mw389 mw15 (gw_ok mw390 rfl) (by decide +kernel) rfl ⟨Nat.le_of_ble_eq_true rfl, Nat.le_of_ble_eq_true rfl⟩ hl.1 rfl (Nat.le_of_ble_eq_true rfl) ⟨Nat.le_refl _, Nat.le_refl _⟩ dX10_undo_24 hM (fun σ3 r4 H locs hG hM => ?_)
    refine lv_aload_n hx hb dX10_undo_27 rfl (lv_at hl 0 rfl) ?_
    refine gt_10_4 X.1 hG hL mw303 dX10_undo_28 ?_
    refine gtN_2_3 X.1 hG (lf_10_4 hL) mw253 dX10_undo_31 ?_
    exact e_iret X hG dX10_undo_34 hM
  · have hM := b_if hM c5
    refine lv_bipush (v := (-4 : Int32)) hx hb dX10_undo_10 (by decide) ?_
    exact e_iret X hG dX10_undo_12 hM
def M_X10_save (σ : St) (k : Nat)  : Option (St × Int32) := bcall (M_X7_take σ (k + 41) (k + 5)) fun σ1 r2 => bput σ1 k 8 (1 : Int32) fun σ3 => some (σ3, σ3 (k + 5) 4)
set_option maxRecDepth 20000 in
set_option maxHeartbeats 4000000 in
theorem C_X10_save (l : Launch) (E : Ev) {σ σ' : St} {k : Nat} {r : Int32} (h : M_X10_save σ k = some (σ', r)) (hL : lay 10 k) : Mi l E yX10_save cX10_save 1 (some .int) 4 [.ref (E.1 k)] σ σ' r := by
  refine Mi_of (C := RX10) rfl (by decide) (Nat.le_of_ble_eq_true rfl) (z := (σ', r)) (fun p e s m below meth c ls X hG hl => ?_)
  have hx := X.1.1.1
  have hb := X.1.1.2.1
  have hM := h
  unfold M_X10_save at hM
  generalize (σ', r) = z at hM ⊢
  have hl : lv_has ls 1 [(0, .ref (E.1 k))] := hl
  refine lv_aload_n hx hb dX10_save_0 rfl (lv_at hl 0 rfl) ?_
  refine gt_10_3 X.1 hG hL mw302 dX10_save_1 ?_
  refine lv_aload_n hx hb dX10_save_4 rfl (lv_at hl 0 rfl) ?_
  refine gt_10_1 X.1 hG hL mw300 dX10_save_5 ?_
  refine g_callV_v (nA := 1) (o := M_X7_take σ (k + 41) (k + 5)) (As := [.ref (E.1 (k + 5))]) X.1 hG (lf_10_3 hL) rfl rfl (fun _ _ h => C_X7_take l E h (lf_10_3 hL) (lf_10_1 hL)) mw853 mw388 mw389 mw15 (gw_ok mw390 rfl) (by decide +kernel) rfl ⟨Nat.le_of_ble_eq_true rfl, Nat.le_of_ble_eq_true rfl⟩ hl.1 rfl (Nat.le_of_ble_eq_true rfl) ⟨Nat.le_refl _, Nat.le_refl _⟩ dX10_save_8 hM (fun σ1 r2 H locs hG hM => ?_)
  refine lv_aload_n hx hb dX10_save_11 rfl (lv_at hl 0 rfl) ?_
  refine lv_iconst (v := (1 : Int32)) hx hb dX10_save_12 (by decide) ?_
  refine pt_10_8 X.1 hG hL mw307 ⟨by decide, by decide⟩ dX10_save_13 hM (fun σ3 H locs hG hM => ?_)
  refine lv_aload_n hx hb dX10_save_16 rfl (lv_at hl 0 rfl) ?_
  refine gt_10_1 X.1 hG hL mw300 dX10_save_17 ?_
  refine gtN_7_4 X.1 hG (lf_10_1 hL) mw175 dX10_save_20 ?_
  exact e_iret X hG dX10_save_23 hM
def M_X10_restore (σ : St) (k : Nat)  : Option (St × Int32) := if (σ k 8) = 0 then some (σ, (-4 : Int32)) else (bcall (M_X7_take σ (k + 5) (k + 41)) fun σ1 r2 => bcall (M_X2_forget σ1 (k + 59)) fun σ3 r4 => some (σ3, σ3 (k + 5) 4))
set_option maxRecDepth 20000 in
set_option maxHeartbeats 4000000 in
theorem C_X10_restore (l : Launch) (E : Ev) {σ σ' : St} {k : Nat} {r : Int32} (h : M_X10_restore σ k = some (σ', r)) (hL : lay 10 k) : Mi l E yX10_restore cX10_restore 1 (some .int) 4 [.ref (E.1 k)] σ σ' r := by
  refine Mi_of (C := RX10) rfl (by decide) (Nat.le_of_ble_eq_true rfl) (z := (σ', r)) (fun p e s m below meth c ls X hG hl => ?_)
  have hx := X.1.1.1
  have hb := X.1.1.2.1
  have hM := h
  unfold M_X10_restore at hM
  generalize (σ', r) = z at hM ⊢
  have hl : lv_has ls 1 [(0, .ref (E.1 k))] := hl
  refine lv_aload_n hx hb dX10_restore_0 rfl (lv_at hl 0 rfl) ?_
  refine gt_10_8 X.1 hG hL mw307 dX10_restore_1 ?_
  refine lv_if_ne (tgt := 10) hx hb dX10_restore_4 (by decide) (fun c5 => ?_) (fun c5 => ?_)
  · have hM := b_else hM c5
    refine lv_aload_n hx hb dX10_restore_10 rfl (lv_at hl 0 rfl) ?_
    refine gt_10_1 X.1 hG hL mw300 dX10_restore_11 ?_
    refine lv_aload_n hx hb dX10_restore_14 rfl (lv_at hl 0 rfl) ?_
    refine gt_10_3 X.1 hG hL mw302 dX10_restore_15 ?_
    refine g_callV_v (nA := 1) (o := M_X7_take σ (k + 5) (k + 41)) (As := [.ref (E.1 (k + 41))]) X.1 hG (lf_10_1 hL) rfl rfl (fun _ _ h => C_X7_take l E h (lf_10_1 hL) (lf_10_3 hL)) mw853 mw388 mw389 mw15 (gw_ok mw390 rfl) (by decide +kernel) rfl ⟨Nat.le_of_ble_eq_true rfl, Nat.le_of_ble_eq_true rfl⟩ hl.1 rfl (Nat.le_of_ble_eq_true rfl) ⟨Nat.le_refl _, Nat.le_refl _⟩ dX10_restore_18 hM (fun σ1 r2 H locs hG hM => ?_)
    refine lv_aload_n hx hb dX10_restore_21 rfl (lv_at hl 0 rfl) ?_
    refine gt_10_4 X.1 hG hL mw303 dX10_restore_22 ?_
    refine g_callV_v (nA := 0) (o := M_X2_forget σ1 (k + 59)) (As := []) X.1 hG (lf_10_4 hL) rfl rfl (fun _ _ h => C_X2_forget l E h (lf_10_4 hL)) mw360 mw361 mw362 mw20 (gw_ok mw363 rfl) (by decide +kernel) rfl ⟨Nat.le_of_ble_eq_true rfl, Nat.le_of_ble_eq_true rfl⟩ hl.1 rfl (Nat.le_of_ble_eq_true rfl) ⟨Nat.le_refl _, Nat.le_refl _⟩ dX10_restore_25 hM (fun σ3 r4 H locs hG hM => ?_)
    refine lv_aload_n hx hb dX10_restore_28 rfl (lv_at hl 0 rfl) ?_
    refine gt_10_1 X.1 hG hL mw300 dX10_restore_29 ?_
    refine gtN_7_4 X.1 hG (lf_10_1 hL) mw175 dX10_restore_32 ?_
    exact e_iret X hG dX10_restore_35 hM
  · have hM := b_if hM c5
    refine lv_bipush (v := (-4 : Int32)) hx hb dX10_restore_7 (by decide) ?_
    exact e_iret X hG dX10_restore_9 hM
def B_X10_worksToday_13  : Nat → St → Nat → Int32 → Int32 → Option (St × Int32)
  | 0, _, _, _, _ => none
  | n + 1, σ, k, x1, x2 => if x1 ≤ x2 then (bcall (M_X7_wouldWork σ (k + 23) x1) fun σ3 r4 => bchk (okZ r4) (some (σ3, r4))) else (bcall (M_X7_wouldWork σ (k + 23) x2) fun σ6 r7 => if r7 = 0 then (blet (x2 + (1 : Int32)) fun v8 => B_X10_worksToday_13 n σ6 k x1 v8) else (bcall (M_X7_letWork σ6 (k + 23) x2) fun σ9 r10 => blet (x2 + (1 : Int32)) fun v11 => B_X10_worksToday_13 n σ9 k x1 v11))
def M_X10_worksToday (σ : St) (k : Nat) (p0 : Int32) : Option (St × Int32) := bcall (M_X7_take σ (k + 23) (k + 5)) fun σ1 r2 => B_X10_worksToday_13 FU σ1 k p0 (0 : Int32)
set_option maxRecDepth 20000 in
set_option maxHeartbeats 4000000 in
theorem w_X10_worksToday_13 {p : Program} {l : Launch} {e : Env} {s : State} {m : MethodId} {below : List Frame} {meth : Method} {c : Code} {args : Array Value} {E : Ev} {k : Nat} (X : Bx E p m meth c cX10_worksToday 3 (some .boolean) s args RX10) (hL : lay 10 k) : ∀ (n : Nat) (σ : St) (x1 x2 : Int32) (H : Heap) (locs : List Loc) (ls : Array Slot) (z : St × Int32), GS E σ s.heap H locs → lv_has ls 3 [(0, .ref (E.1 k)), (1, .int x1), (2, .int x2)] → B_X10_worksToday_13 n σ k x1 x2 = some z → W p l e (rmd 4) s m args below meth c H locs 0 0 (QI E z below args s) (F0 m 13 ls []) := by
  have hx := X.1.1.1
  have hb := X.1.1.2.1
  intro n
  induction n with
  | zero => intro σ x1 x2 H locs ls z  hG hl hM; cases hM
  | succ n ih =>
    intro σ x1 x2 H locs ls z  hG hl hM
    unfold B_X10_worksToday_13 at hM
    refine lv_iload_n hx hb dX10_worksToday_13 rfl (lv_at hl 2 rfl) ?_
    refine lv_iload_n hx hb dX10_worksToday_14 rfl (lv_at hl 1 rfl) ?_
    refine lv_icmp_ge (tgt := 43) hx hb dX10_worksToday_15 (by decide) (fun c13 => ?_) (fun c13 => ?_)
    · have hM := b_if hM c13
      refine lv_aload_n hx hb dX10_worksToday_43 rfl (lv_at hl 0 rfl) ?_
      refine gt_10_2 X.1 hG hL mw301 dX10_worksToday_44 ?_
      refine lv_iload_n hx hb dX10_worksToday_47 rfl (lv_at hl 1 rfl) ?_
      refine g_callV_i (nA := 1) (o := M_X7_wouldWork σ (k + 23) x1) (As := [.int x1]) X.1 hG (lf_10_2 hL) rfl rfl (fun _ _ h => C_X7_wouldWork l E h (lf_10_2 hL)) mw922 mw674 mw675 mw15 (gw_ok mw676 rfl) (by decide +kernel) rfl ⟨Nat.le_of_ble_eq_true rfl, Nat.le_of_ble_eq_true rfl⟩ hl.1 rfl (Nat.le_of_ble_eq_true rfl) ⟨Nat.le_refl _, Nat.le_refl _⟩ dX10_worksToday_48 hM (fun σ3 r4 H locs hG hM => ?_)
      obtain ⟨c5, hM⟩ := b_chk hM
      exact e_zret X hG (okZ_n c5).1 dX10_worksToday_51 hM
    · have hM := b_else hM c13
      refine lv_aload_n hx hb dX10_worksToday_18 rfl (lv_at hl 0 rfl) ?_
      refine gt_10_2 X.1 hG hL mw301 dX10_worksToday_19 ?_
      refine lv_iload_n hx hb dX10_worksToday_22 rfl (lv_at hl 2 rfl) ?_
      refine g_callV_i (nA := 1) (o := M_X7_wouldWork σ (k + 23) x2) (As := [.int x2]) X.1 hG (lf_10_2 hL) rfl rfl (fun _ _ h => C_X7_wouldWork l E h (lf_10_2 hL)) mw922 mw674 mw675 mw15 (gw_ok mw676 rfl) (by decide +kernel) rfl ⟨Nat.le_of_ble_eq_true rfl, Nat.le_of_ble_eq_true rfl⟩ hl.1 rfl (Nat.le_of_ble_eq_true rfl) ⟨Nat.le_refl _, Nat.le_refl _⟩ dX10_worksToday_23 hM (fun σ6 r7 H locs hG hM => ?_)
      refine lv_if_eq (tgt := 37) hx hb dX10_worksToday_26 (by decide) (fun c12 => ?_) (fun c12 => ?_)
      · have hM := b_if hM c12
        obtain ⟨v8, ev8, hM⟩ := g_nm hM
        refine lv_iinc (v := v8) (lv' := [(2, .int v8), (0, .ref (E.1 k)), (1, .int x1)]) hx hb dX10_worksToday_37 hl (k := 2) rfl (by rw [ev8]; rfl) (by decide) rfl (fun ls hl => ?_)
        refine lv_goto (tgt := 13) hx hb dX10_worksToday_40 (by decide) ?_
        exact ih σ6 x1 v8 _ _ _ z hG (lv_sub hl [1, 2, 0] rfl) hM
      · have hM := b_else hM c12
        refine lv_aload_n hx hb dX10_worksToday_29 rfl (lv_at hl 0 rfl) ?_
        refine gt_10_2 X.1 hG hL mw301 dX10_worksToday_30 ?_
        refine lv_iload_n hx hb dX10_worksToday_33 rfl (lv_at hl 2 rfl) ?_
        refine g_callV_v (nA := 1) (o := M_X7_letWork σ6 (k + 23) x2) (As := [.int x2]) X.1 hG (lf_10_2 hL) rfl rfl (fun _ _ h => C_X7_letWork l E h (lf_10_2 hL)) mw923 mw686 mw687 mw15 (gw_ok mw688 rfl) (by decide +kernel) rfl ⟨Nat.le_of_ble_eq_true rfl, Nat.le_of_ble_eq_true rfl⟩ hl.1 rfl (Nat.le_of_ble_eq_true rfl) ⟨Nat.le_refl _, Nat.le_refl _⟩ dX10_worksToday_34 hM (fun σ9 r10 H locs hG hM => ?_)
        obtain ⟨v11, ev11, hM⟩ := g_nm hM
        refine lv_iinc (v := v11) (lv' := [(2, .int v11), (0, .ref (E.1 k)), (1, .int x1)]) hx hb dX10_worksToday_37 hl (k := 2) rfl (by rw [ev11]; rfl) (by decide) rfl (fun ls hl => ?_)
        refine lv_goto (tgt := 13) hx hb dX10_worksToday_40 (by decide) ?_
        exact ih σ9 x1 v11 _ _ _ z hG (lv_sub hl [1, 2, 0] rfl) hM
set_option maxRecDepth 20000 in
set_option maxHeartbeats 4000000 in
theorem C_X10_worksToday (l : Launch) (E : Ev) {σ σ' : St} {k : Nat} {p0 : Int32} {r : Int32} (h : M_X10_worksToday σ k p0 = some (σ', r)) (hL : lay 10 k) : Mi l E yX10_worksToday cX10_worksToday 3 (some .boolean) 4 [.ref (E.1 k), .int p0] σ σ' r := by
  refine Mi_of (C := RX10) rfl (by decide) (Nat.le_of_ble_eq_true rfl) (z := (σ', r)) (fun p e s m below meth c ls X hG hl => ?_)
  have hx := X.1.1.1
  have hb := X.1.1.2.1
  have hM := h
  unfold M_X10_worksToday at hM
  generalize (σ', r) = z at hM ⊢
  have hl : lv_has ls 3 [(0, .ref (E.1 k)), (1, .int p0)] := hl
  refine lv_aload_n hx hb dX10_worksToday_0 rfl (lv_at hl 0 rfl) ?_
  refine gt_10_2 X.1 hG hL mw301 dX10_worksToday_1 ?_
  refine lv_aload_n hx hb dX10_worksToday_4 rfl (lv_at hl 0 rfl) ?_
  refine gt_10_1 X.1 hG hL mw300 dX10_worksToday_5 ?_
  refine g_callV_v (nA := 1) (o := M_X7_take σ (k + 23) (k + 5)) (As := [.ref (E.1 (k + 5))]) X.1 hG (lf_10_2 hL) rfl rfl (fun _ _ h => C_X7_take l E h (lf_10_2 hL) (lf_10_1 hL)) mw853 mw388 mw389 mw15 (gw_ok mw390 rfl) (by decide +kernel) rfl ⟨Nat.le_of_ble_eq_true rfl, Nat.le_of_ble_eq_true rfl⟩ hl.1 rfl (Nat.le_of_ble_eq_true rfl) ⟨Nat.le_refl _, Nat.le_refl _⟩ dX10_worksToday_8 hM (fun σ1 r2 H locs hG hM => ?_)
  refine lv_iconst (v := (0 : Int32)) hx hb dX10_worksToday_11 (by decide) ?_
  refine lv_istore_n (lv' := [(2, .int (0 : Int32)), (0, .ref (E.1 k)), (1, .int p0)]) hx hb dX10_worksToday_12 rfl hl (by decide) rfl (fun ls hl => ?_)
  exact w_X10_worksToday_13 X hL FU σ1 p0 (0 : Int32) _ _ _ z hG (lv_sub hl [1, 2, 0] rfl) hM
