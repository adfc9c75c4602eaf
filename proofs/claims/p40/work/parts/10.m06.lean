def M_J0_checkIndex_df160 (σ : St)  (p0 p1 : Int32) : Option (St × Int32) := bcall (M_J3_checkIndex_8e157 σ p0 p1) fun σ1 r2 => some (σ1, 0)
set_option maxRecDepth 20000 in
set_option maxHeartbeats 4000000 in
theorem C_J0_checkIndex_df160 (l : Launch) (E : Ev) {σ σ' : St} {p0 : Int32} {p1 : Int32} {r : Int32} (h : M_J0_checkIndex_df160 σ p0 p1 = some (σ', r)) : Mv l E yJ0_checkIndex_df160 cJ0_checkIndex_df160 2 2 [.int p0, .int p1] σ σ' := by
  refine Mv_of (C := RJ0) rfl (by decide) (Nat.le_of_ble_eq_true rfl) (z := (σ', r)) (fun p e s m below meth c ls X hG hl => ?_)
  have hx := X.1.1.1
  have hb := X.1.1.2.1
  have hM := h
  unfold M_J0_checkIndex_df160 at hM
  generalize (σ', r) = z at hM ⊢
  have hl : lv_has ls 2 [(0, .int p0), (1, .int p1)] := hl
  refine lv_iload_n hx hb dJ0_checkIndex_df160_0 rfl (lv_at hl 0 rfl) ?_
  refine lv_iload_n hx hb dJ0_checkIndex_df160_1 rfl (lv_at hl 1 rfl) ?_
  refine g_stF X.1 hG mw790 dJ0_checkIndex_df160_2 ?_ (fun t => ?_)
  · refine g_callS_i (nA := 3) (o := M_J3_checkIndex_8e157 σ p0 p1) (As := [.int p0, .int p1, .null]) X.1 hG (fun _ _ h => C_J3_checkIndex_8e157_n l E h ) mw792 mw793 mw27 (gw_ok mw794 rfl) (by decide +kernel) rfl ⟨Nat.le_of_ble_eq_true rfl, Nat.le_of_ble_eq_true rfl⟩ hl.1 rfl (Nat.le_of_ble_eq_true rfl) ⟨Nat.le_refl _, Nat.le_refl _⟩ dJ0_checkIndex_df160_5 hM (fun σ1 r2 H locs hG hM => ?_)
    refine lv_pop hx hb dJ0_checkIndex_df160_8 rfl ?_
    exact e_vret X hG dJ0_checkIndex_df160_9 hM
  · refine g_callS_i (nA := 3) (o := M_J3_checkIndex_8e157 σ p0 p1) (As := [.int p0, .int p1, .ref t]) X.1 hG (fun _ _ h => C_J3_checkIndex_8e157 l E t h ) mw792 mw793 mw27 (gw_ok mw794 rfl) (by decide +kernel) rfl ⟨Nat.le_of_ble_eq_true rfl, Nat.le_of_ble_eq_true rfl⟩ hl.1 rfl (Nat.le_of_ble_eq_true rfl) ⟨Nat.le_refl _, Nat.le_refl _⟩ dJ0_checkIndex_df160_5 hM (fun σ1 r2 H locs hG hM => ?_)
    refine lv_pop hx hb dJ0_checkIndex_df160_8 rfl ?_
    exact e_vret X hG dJ0_checkIndex_df160_9 hM
def M_J1_charAt_3b067 (σ : St) (a0 : Nat) (p1 : Int32) : Option (St × Int32) := bcall (M_J0_checkIndex_df160 σ p1 (Int32.ofNat (lnS a0))) fun σ1 r2 => bbld a0 p1 fun q3 => blet (((q3 &&& (255 : Int32)).toUInt32 % 65536).toInt32) fun v4 => bchk (okC v4) (some (σ1, v4))
set_option maxRecDepth 20000 in
set_option maxHeartbeats 4000000 in
theorem C_J1_charAt_3b067 (l : Launch) (E : Ev) {σ σ' : St} {a0 : Nat} {p1 : Int32} {r : Int32} (h : M_J1_charAt_3b067 σ a0 p1 = some (σ', r)) (hA0 : okS E a0) : Mi l E yJ1_charAt_3b067 cJ1_charAt_3b067 2 (some .char) 3 [.ref (eV E a0), .int p1] σ σ' r := by
  refine Mi_of (C := RJ1) rfl (by decide) (Nat.le_of_ble_eq_true rfl) (z := (σ', r)) (fun p e s m below meth c ls X hG hl => ?_)
  have hx := X.1.1.1
  have hb := X.1.1.2.1
  have hM := h
  unfold M_J1_charAt_3b067 at hM
  generalize (σ', r) = z at hM ⊢
  have hl : lv_has ls 2 [(0, .ref (eV E a0)), (1, .int p1)] := hl
  refine lv_iload_n hx hb dJ1_charAt_3b067_0 rfl (lv_at hl 1 rfl) ?_
  refine lv_aload_n hx hb dJ1_charAt_3b067_1 rfl (lv_at hl 0 rfl) ?_
  refine g_slen X.1 hG hA0 dJ1_charAt_3b067_2 ?_
  refine g_callS_v (nA := 2) (o := M_J0_checkIndex_df160 σ p1 (Int32.ofNat (lnS a0))) (As := [.int p1, .int (Int32.ofNat (lnS a0))]) X.1 hG (fun _ _ h => C_J0_checkIndex_df160 l E h ) mw787 mw788 mw25 (gw_ok mw789 rfl) (by decide +kernel) rfl ⟨Nat.le_of_ble_eq_true rfl, Nat.le_of_ble_eq_true rfl⟩ hl.1 rfl (Nat.le_of_ble_eq_true rfl) ⟨Nat.le_refl _, Nat.le_refl _⟩ dJ1_charAt_3b067_3 hM (fun σ1 r2 H locs hG hM => ?_)
  refine lv_aload_n hx hb dJ1_charAt_3b067_6 rfl (lv_at hl 0 rfl) ?_
  refine lv_iload_n hx hb dJ1_charAt_3b067_7 rfl (lv_at hl 1 rfl) ?_
  refine g_sbld X.1 hG hA0 dJ1_charAt_3b067_8 hM (fun q3 hM => ?_)
  refine lv_sipush (v := (255 : Int32)) hx hb dJ1_charAt_3b067_9 (by decide) ?_
  refine lv_iand hx hb dJ1_charAt_3b067_12 ?_
  refine lv_i2c hx hb dJ1_charAt_3b067_13 rfl ?_
  refine g_name hM (fun v4 hM => ?_)
  obtain ⟨c5, hM⟩ := b_chk hM
  exact e_zret X hG (okC_n c5).1 dJ1_charAt_3b067_14 hM
def M_X6_refuse (σ : St) (k : Nat) (p0 p1 : Int32) : Option (St × Int32) := bput σ k 2 (0 : Int32) fun σ1 => bcall (M_X6_putBehind σ1 k p0 p1) fun σ2 r3 => some (σ2, (-3 : Int32))
set_option maxRecDepth 20000 in
set_option maxHeartbeats 4000000 in
theorem C_X6_refuse (l : Launch) (E : Ev) {σ σ' : St} {k : Nat} {p0 : Int32} {p1 : Int32} {r : Int32} (h : M_X6_refuse σ k p0 p1 = some (σ', r)) (hL : lay 6 k) : Mi l E yX6_refuse cX6_refuse 3 (some .int) 3 [.ref (E.1 k), .int p0, .int p1] σ σ' r := by
  refine Mi_of (C := RX6) rfl (by decide) (Nat.le_of_ble_eq_true rfl) (z := (σ', r)) (fun p e s m below meth c ls X hG hl => ?_)
  have hx := X.1.1.1
  have hb := X.1.1.2.1
  have hM := h
  unfold M_X6_refuse at hM
  generalize (σ', r) = z at hM ⊢
  have hl : lv_has ls 3 [(0, .ref (E.1 k)), (1, .int p0), (2, .int p1)] := hl
  refine lv_aload_n hx hb dX6_refuse_0 rfl (lv_at hl 0 rfl) ?_
  refine lv_iconst (v := (0 : Int32)) hx hb dX6_refuse_1 (by decide) ?_
  refine pt_6_2 X.1 hG hL mw58 dX6_refuse_2 hM (fun σ1 H locs hG hM => ?_)
  refine lv_aload_n hx hb dX6_refuse_5 rfl (lv_at hl 0 rfl) ?_
  refine lv_iload_n hx hb dX6_refuse_6 rfl (lv_at hl 1 rfl) ?_
  refine lv_iload_n hx hb dX6_refuse_7 rfl (lv_at hl 2 rfl) ?_
  refine g_callV_v (nA := 2) (o := M_X6_putBehind σ1 k p0 p1) (As := [.int p0, .int p1]) X.1 hG hL rfl rfl (fun _ _ h => C_X6_putBehind l E h hL) mw426 mw428 mw0 mw14 (gw_ok mw429 rfl) (by decide +kernel) rfl ⟨Nat.le_of_ble_eq_true rfl, Nat.le_of_ble_eq_true rfl⟩ hl.1 rfl (Nat.le_of_ble_eq_true rfl) ⟨Nat.le_refl _, Nat.le_refl _⟩ dX6_refuse_8 hM (fun σ2 r3 H locs hG hM => ?_)
  refine lv_bipush (v := (-3 : Int32)) hx hb dX6_refuse_11 (by decide) ?_
  exact e_iret X hG dX6_refuse_13 hM
def M_X6_refuseShut (σ : St) (k : Nat) (p0 p1 : Int32) : Option (St × Int32) := bcall (M_X6_refuse σ k (6 : Int32) p0) fun σ1 r2 => bcall (M_X6_putBehind σ1 k (13 : Int32) p1) fun σ3 r4 => some (σ3, (-3 : Int32))
set_option maxRecDepth 20000 in
set_option maxHeartbeats 4000000 in
theorem C_X6_refuseShut (l : Launch) (E : Ev) {σ σ' : St} {k : Nat} {p0 : Int32} {p1 : Int32} {r : Int32} (h : M_X6_refuseShut σ k p0 p1 = some (σ', r)) (hL : lay 6 k) : Mi l E yX6_refuseShut cX6_refuseShut 3 (some .int) 4 [.ref (E.1 k), .int p0, .int p1] σ σ' r := by
  refine Mi_of (C := RX6) rfl (by decide) (Nat.le_of_ble_eq_true rfl) (z := (σ', r)) (fun p e s m below meth c ls X hG hl => ?_)
  have hx := X.1.1.1
  have hb := X.1.1.2.1
  have hM := h
  unfold M_X6_refuseShut at hM
  generalize (σ', r) = z at hM ⊢
  have hl : lv_has ls 3 [(0, .ref (E.1 k)), (1, .int p0), (2, .int p1)] := hl
  refine lv_aload_n hx hb dX6_refuseShut_0 rfl (lv_at hl 0 rfl) ?_
  refine lv_bipush (v := (6 : Int32)) hx hb dX6_refuseShut_1 (by decide) ?_
  refine lv_iload_n hx hb dX6_refuseShut_3 rfl (lv_at hl 1 rfl) ?_
  refine g_callV_i (nA := 2) (o := M_X6_refuse σ k (6 : Int32) p0) (As := [.int (6 : Int32), .int p0]) X.1 hG hL rfl rfl (fun _ _ h => C_X6_refuse l E h hL) mw549 mw423 mw424 mw14 (gw_ok mw425 rfl) (by decide +kernel) rfl ⟨Nat.le_of_ble_eq_true rfl, Nat.le_of_ble_eq_true rfl⟩ hl.1 rfl (Nat.le_of_ble_eq_true rfl) ⟨Nat.le_refl _, Nat.le_refl _⟩ dX6_refuseShut_4 hM (fun σ1 r2 H locs hG hM => ?_)
  refine lv_pop hx hb dX6_refuseShut_7 rfl ?_
  refine lv_aload_n hx hb dX6_refuseShut_8 rfl (lv_at hl 0 rfl) ?_
  refine lv_bipush (v := (13 : Int32)) hx hb dX6_refuseShut_9 (by decide) ?_
  refine lv_iload_n hx hb dX6_refuseShut_11 rfl (lv_at hl 2 rfl) ?_
  refine g_callV_v (nA := 2) (o := M_X6_putBehind σ1 k (13 : Int32) p1) (As := [.int (13 : Int32), .int p1]) X.1 hG hL rfl rfl (fun _ _ h => C_X6_putBehind l E h hL) mw426 mw428 mw0 mw14 (gw_ok mw429 rfl) (by decide +kernel) rfl ⟨Nat.le_of_ble_eq_true rfl, Nat.le_of_ble_eq_true rfl⟩ hl.1 rfl (Nat.le_of_ble_eq_true rfl) ⟨Nat.le_refl _, Nat.le_refl _⟩ dX6_refuseShut_12 hM (fun σ3 r4 H locs hG hM => ?_)
  refine lv_bipush (v := (-3 : Int32)) hx hb dX6_refuseShut_15 (by decide) ?_
  exact e_iret X hG dX6_refuseShut_17 hM
def M_X7_wouldWork (σ : St) (k : Nat) (p0 : Int32) : Option (St × Int32) := bcall (M_X1_isUp σ (k + 11) p0) fun σ1 r2 => if r2 = 0 then some (σ1, (0 : Int32)) else (bcall (M_X1_placeOf σ1 (k + 11) p0) fun σ3 r4 => bcall (M_X9_lowestOldUpTo σ3 (k + 4) r4) fun σ5 r6 => if r6 = (-4 : Int32) then (bcall (M_X9_hoursOf σ5 (k + 4) r4) fun σ7 r8 => if r8 ≤ 0 then some (σ7, (0 : Int32)) else (bcall (M_X9_loadsOf σ7 (k + 4) r4) fun σ9 r10 => if r10 ≤ 0 then some (σ9, (0 : Int32)) else some (σ9, (1 : Int32)))) else some (σ5, (0 : Int32)))
set_option maxRecDepth 20000 in
set_option maxHeartbeats 4000000 in
theorem C_X7_wouldWork (l : Launch) (E : Ev) {σ σ' : St} {k : Nat} {p0 : Int32} {r : Int32} (h : M_X7_wouldWork σ k p0 = some (σ', r)) (hL : lay 7 k) : Mi l E yX7_wouldWork cX7_wouldWork 3 (some .boolean) 3 [.ref (E.1 k), .int p0] σ σ' r := by
  refine Mi_of (C := RX7) rfl (by decide) (Nat.le_of_ble_eq_true rfl) (z := (σ', r)) (fun p e s m below meth c ls X hG hl => ?_)
  have hx := X.1.1.1
  have hb := X.1.1.2.1
  have hM := h
  unfold M_X7_wouldWork at hM
  generalize (σ', r) = z at hM ⊢
  have hl : lv_has ls 3 [(0, .ref (E.1 k)), (1, .int p0)] := hl
  refine lv_aload_n hx hb dX7_wouldWork_0 rfl (lv_at hl 0 rfl) ?_
  refine gt_7_2 X.1 hG hL mw168 dX7_wouldWork_1 ?_
  refine lv_iload_n hx hb dX7_wouldWork_4 rfl (lv_at hl 1 rfl) ?_
  refine g_callV_i (nA := 1) (o := M_X1_isUp σ (k + 11) p0) (As := [.int p0]) X.1 hG (lf_7_2 hL) rfl rfl (fun _ _ h => C_X1_isUp l E h (lf_7_2 hL)) mw677 mw578 mw579 mw18 (gw_ok mw580 rfl) (by decide +kernel) rfl ⟨Nat.le_of_ble_eq_true rfl, Nat.le_of_ble_eq_true rfl⟩ hl.1 rfl (Nat.le_of_ble_eq_true rfl) ⟨Nat.le_refl _, Nat.le_refl _⟩ dX7_wouldWork_5 hM (fun σ1 r2 H locs hG hM => ?_)
  refine lv_if_ne (tgt := 13) hx hb dX7_wouldWork_8 (by decide) (fun c14 => ?_) (fun c14 => ?_)
  · have hM := b_else hM c14
    refine lv_aload_n hx hb dX7_wouldWork_13 rfl (lv_at hl 0 rfl) ?_
    refine gt_7_2 X.1 hG hL mw168 dX7_wouldWork_14 ?_
    refine lv_iload_n hx hb dX7_wouldWork_17 rfl (lv_at hl 1 rfl) ?_
    refine g_callV_i (nA := 1) (o := M_X1_placeOf σ1 (k + 11) p0) (As := [.int p0]) X.1 hG (lf_7_2 hL) rfl rfl (fun _ _ h => C_X1_placeOf l E h (lf_7_2 hL)) mw678 mw527 mw528 mw18 (gw_ok mw529 rfl) (by decide +kernel) rfl ⟨Nat.le_of_ble_eq_true rfl, Nat.le_of_ble_eq_true rfl⟩ hl.1 rfl (Nat.le_of_ble_eq_true rfl) ⟨Nat.le_refl _, Nat.le_refl _⟩ dX7_wouldWork_18 hM (fun σ3 r4 H locs hG hM => ?_)
    refine lv_istore_n (lv' := [(2, .int r4), (0, .ref (E.1 k)), (1, .int p0)]) hx hb dX7_wouldWork_21 rfl hl (by decide) rfl (fun ls hl => ?_)
    refine lv_aload_n hx hb dX7_wouldWork_22 rfl (lv_at hl 1 rfl) ?_
    refine gt_7_1 X.1 hG hL mw165 dX7_wouldWork_23 ?_
    refine lv_iload_n hx hb dX7_wouldWork_26 rfl (lv_at hl 0 rfl) ?_
    refine g_callV_i (nA := 1) (o := M_X9_lowestOldUpTo σ3 (k + 4) r4) (As := [.int r4]) X.1 hG (lf_7_1 hL) rfl rfl (fun _ _ h => C_X9_lowestOldUpTo l E h (lf_7_1 hL)) mw679 mw532 mw533 mw17 (gw_ok mw534 rfl) (by decide +kernel) rfl ⟨Nat.le_of_ble_eq_true rfl, Nat.le_of_ble_eq_true rfl⟩ hl.1 rfl (Nat.le_of_ble_eq_true rfl) ⟨Nat.le_refl _, Nat.le_refl _⟩ dX7_wouldWork_27 hM (fun σ5 r6 H locs hG hM => ?_)
    refine lv_bipush (v := (-4 : Int32)) hx hb dX7_wouldWork_30 (by decide) ?_
    refine lv_icmp_ne (tgt := 61) hx hb dX7_wouldWork_32 (by decide) (fun c13 => ?_) (fun c13 => ?_)
    · have hM := b_else hM c13
      refine lv_iconst (v := (0 : Int32)) hx hb dX7_wouldWork_61 (by decide) ?_
      exact e_zret X hG (by decide) dX7_wouldWork_62 hM
    · have hM := b_if hM c13
      refine lv_aload_n hx hb dX7_wouldWork_35 rfl (lv_at hl 1 rfl) ?_
      refine gt_7_1 X.1 hG hL mw165 dX7_wouldWork_36 ?_
      refine lv_iload_n hx hb dX7_wouldWork_39 rfl (lv_at hl 0 rfl) ?_
      refine g_callV_i (nA := 1) (o := M_X9_hoursOf σ5 (k + 4) r4) (As := [.int r4]) X.1 hG (lf_7_1 hL) rfl rfl (fun _ _ h => C_X9_hoursOf l E h (lf_7_1 hL)) mw680 mw681 mw682 mw17 (gw_ok mw683 rfl) (by decide +kernel) rfl ⟨Nat.le_of_ble_eq_true rfl, Nat.le_of_ble_eq_true rfl⟩ hl.1 rfl (Nat.le_of_ble_eq_true rfl) ⟨Nat.le_refl _, Nat.le_refl _⟩ dX7_wouldWork_40 hM (fun σ7 r8 H locs hG hM => ?_)
      refine lv_if_le (tgt := 61) hx hb dX7_wouldWork_43 (by decide) (fun c12 => ?_) (fun c12 => ?_)
      · have hM := b_if hM c12
        refine lv_iconst (v := (0 : Int32)) hx hb dX7_wouldWork_61 (by decide) ?_
        exact e_zret X hG (by decide) dX7_wouldWork_62 hM
      · have hM := b_else hM c12
        refine lv_aload_n hx hb dX7_wouldWork_46 rfl (lv_at hl 1 rfl) ?_
        refine gt_7_1 X.1 hG hL mw165 dX7_wouldWork_47 ?_
        refine lv_iload_n hx hb dX7_wouldWork_50 rfl (lv_at hl 0 rfl) ?_
        refine g_callV_i (nA := 1) (o := M_X9_loadsOf σ7 (k + 4) r4) (As := [.int r4]) X.1 hG (lf_7_1 hL) rfl rfl (fun _ _ h => C_X9_loadsOf l E h (lf_7_1 hL)) mw684 mw590 mw591 mw17 (gw_ok mw592 rfl) (by decide +kernel) rfl ⟨Nat.le_of_ble_eq_true rfl, Nat.le_of_ble_eq_true rfl⟩ hl.1 rfl (Nat.le_of_ble_eq_true rfl) ⟨Nat.le_refl _, Nat.le_refl _⟩ dX7_wouldWork_51 hM (fun σ9 r10 H locs hG hM => ?_)
        refine lv_if_le (tgt := 61) hx hb dX7_wouldWork_54 (by decide) (fun c11 => ?_) (fun c11 => ?_)
        · have hM := b_if hM c11
          refine lv_iconst (v := (0 : Int32)) hx hb dX7_wouldWork_61 (by decide) ?_
          exact e_zret X hG (by decide) dX7_wouldWork_62 hM
        · have hM := b_else hM c11
          refine lv_iconst (v := (1 : Int32)) hx hb dX7_wouldWork_57 (by decide) ?_
          refine lv_goto (tgt := 62) hx hb dX7_wouldWork_58 (by decide) ?_
          exact e_zret X hG (by decide) dX7_wouldWork_62 hM
  · have hM := b_if hM c14
    refine lv_iconst (v := (0 : Int32)) hx hb dX7_wouldWork_11 (by decide) ?_
    exact e_zret X hG (by decide) dX7_wouldWork_12 hM
def M_X7_letWork (σ : St) (k : Nat) (p0 : Int32) : Option (St × Int32) := bcall (M_X1_placeOf σ (k + 11) p0) fun σ1 r2 => bcall (M_X1_skillOf σ1 (k + 11) p0) fun σ3 r4 => bcall (M_X9_hoursOf σ3 (k + 4) r2) fun σ5 r6 => blet (imin r4 r6) fun v7 => bcall (M_X9_workOff σ5 (k + 4) r2 v7) fun σ8 r9 => bcall (M_X1_addHours σ8 (k + 11) p0 v7) fun σ10 r11 => bput σ10 k 10 ((σ10 k 10) + v7) fun σ12 => some (σ12, 0)
set_option maxRecDepth 20000 in
set_option maxHeartbeats 4000000 in
theorem C_X7_letWork (l : Launch) (E : Ev) {σ σ' : St} {k : Nat} {p0 : Int32} {r : Int32} (h : M_X7_letWork σ k p0 = some (σ', r)) (hL : lay 7 k) : Mv l E yX7_letWork cX7_letWork 4 3 [.ref (E.1 k), .int p0] σ σ' := by
  refine Mv_of (C := RX7) rfl (by decide) (Nat.le_of_ble_eq_true rfl) (z := (σ', r)) (fun p e s m below meth c ls X hG hl => ?_)
  have hx := X.1.1.1
  have hb := X.1.1.2.1
  have hM := h
  unfold M_X7_letWork at hM
  generalize (σ', r) = z at hM ⊢
  have hl : lv_has ls 4 [(0, .ref (E.1 k)), (1, .int p0)] := hl
  refine lv_aload_n hx hb dX7_letWork_0 rfl (lv_at hl 0 rfl) ?_
  refine gt_7_2 X.1 hG hL mw168 dX7_letWork_1 ?_
  refine lv_iload_n hx hb dX7_letWork_4 rfl (lv_at hl 1 rfl) ?_
  refine g_callV_i (nA := 1) (o := M_X1_placeOf σ (k + 11) p0) (As := [.int p0]) X.1 hG (lf_7_2 hL) rfl rfl (fun _ _ h => C_X1_placeOf l E h (lf_7_2 hL)) mw678 mw527 mw528 mw18 (gw_ok mw529 rfl) (by decide +kernel) rfl ⟨Nat.le_of_ble_eq_true rfl, Nat.le_of_ble_eq_true rfl⟩ hl.1 rfl (Nat.le_of_ble_eq_true rfl) ⟨Nat.le_refl _, Nat.le_refl _⟩ dX7_letWork_5 hM (fun σ1 r2 H locs hG hM => ?_)
  refine lv_istore_n (lv' := [(2, .int r2), (0, .ref (E.1 k)), (1, .int p0)]) hx hb dX7_letWork_8 rfl hl (by decide) rfl (fun ls hl => ?_)
  refine lv_aload_n hx hb dX7_letWork_9 rfl (lv_at hl 1 rfl) ?_
  refine gt_7_2 X.1 hG hL mw168 dX7_letWork_10 ?_
  refine lv_iload_n hx hb dX7_letWork_13 rfl (lv_at hl 2 rfl) ?_
  refine g_callV_i (nA := 1) (o := M_X1_skillOf σ1 (k + 11) p0) (As := [.int p0]) X.1 hG (lf_7_2 hL) rfl rfl (fun _ _ h => C_X1_skillOf l E h (lf_7_2 hL)) mw689 mw690 mw691 mw18 (gw_ok mw692 rfl) (by decide +kernel) rfl ⟨Nat.le_of_ble_eq_true rfl, Nat.le_of_ble_eq_true rfl⟩ hl.1 rfl (Nat.le_of_ble_eq_true rfl) ⟨Nat.le_refl _, Nat.le_refl _⟩ dX7_letWork_14 hM (fun σ3 r4 H locs hG hM => ?_)
  refine lv_aload_n hx hb dX7_letWork_17 rfl (lv_at hl 1 rfl) ?_
  refine gt_7_1 X.1 hG hL mw165 dX7_letWork_18 ?_
  refine lv_iload_n hx hb dX7_letWork_21 rfl (lv_at hl 0 rfl) ?_
  refine g_callV_i (nA := 1) (o := M_X9_hoursOf σ3 (k + 4) r2) (As := [.int r2]) X.1 hG (lf_7_1 hL) rfl rfl (fun _ _ h => C_X9_hoursOf l E h (lf_7_1 hL)) mw680 mw681 mw682 mw17 (gw_ok mw683 rfl) (by decide +kernel) rfl ⟨Nat.le_of_ble_eq_true rfl, Nat.le_of_ble_eq_true rfl⟩ hl.1 rfl (Nat.le_of_ble_eq_true rfl) ⟨Nat.le_refl _, Nat.le_refl _⟩ dX7_letWork_22 hM (fun σ5 r6 H locs hG hM => ?_)
  refine g_min X.1 hl.1 mw693 (Nat.le_of_ble_eq_true rfl) (Nat.le_of_ble_eq_true rfl) (Nat.le_of_ble_eq_true rfl) (Nat.le_of_ble_eq_true rfl) dX7_letWork_25 hM (fun v7 hM => ?_)
  refine lv_istore_n (lv' := [(3, .int v7), (2, .int r2), (0, .ref (E.1 k)), (1, .int p0)]) hx hb dX7_letWork_28 rfl hl (by decide) rfl (fun ls hl => ?_)
  refine lv_aload_n hx hb dX7_letWork_29 rfl (lv_at hl 2 rfl) ?_
  refine gt_7_1 X.1 hG hL mw165 dX7_letWork_30 ?_
  refine lv_iload_n hx hb dX7_letWork_33 rfl (lv_at hl 1 rfl) ?_
  refine lv_iload_n hx hb dX7_letWork_34 rfl (lv_at hl 0 rfl) ?_
  refine g_callV_v (nA := 2) (o := M_X9_workOff σ5 (k + 4) r2 v7) (As := [.int r2, .int v7]) X.1 hG (lf_7_1 hL) rfl rfl (fun _ _ h => C_X9_workOff l E h (lf_7_1 hL)) mw694 mw695 mw696 mw17 (gw_ok mw697 rfl) (by decide +kernel) rfl ⟨Nat.le_of_ble_eq_true rfl, Nat.le_of_ble_eq_true rfl⟩ hl.1 rfl (Nat.le_of_ble_eq_true rfl) ⟨Nat.le_refl _, Nat.le_refl _⟩ dX7_letWork_35 hM (fun σ8 r9 H locs hG hM => ?_)
  refine lv_aload_n hx hb dX7_letWork_38 rfl (lv_at hl 2 rfl) ?_
  refine gt_7_2 X.1 hG hL mw168 dX7_letWork_39 ?_
  refine lv_iload_n hx hb dX7_letWork_42 rfl (lv_at hl 3 rfl) ?_
  refine lv_iload_n hx hb dX7_letWork_43 rfl (lv_at hl 0 rfl) ?_
  refine g_callV_v (nA := 2) (o := M_X1_addHours σ8 (k + 11) p0 v7) (As := [.int p0, .int v7]) X.1 hG (lf_7_2 hL) rfl rfl (fun _ _ h => C_X1_addHours l E h (lf_7_2 hL)) mw698 mw699 mw700 mw18 (gw_ok mw701 rfl) (by decide +kernel) rfl ⟨Nat.le_of_ble_eq_true rfl, Nat.le_of_ble_eq_true rfl⟩ hl.1 rfl (Nat.le_of_ble_eq_true rfl) ⟨Nat.le_refl _, Nat.le_refl _⟩ dX7_letWork_44 hM (fun σ10 r11 H locs hG hM => ?_)
  refine lv_aload_n hx hb dX7_letWork_47 rfl (lv_at hl 2 rfl) ?_
  refine lv_dup hx hb dX7_letWork_48 rfl ?_
  refine gt_7_10 X.1 hG hL mw191 dX7_letWork_49 ?_
  refine lv_iload_n hx hb dX7_letWork_52 rfl (lv_at hl 0 rfl) ?_
  refine lv_iadd hx hb dX7_letWork_53 ?_
  refine pt_7_10 X.1 hG hL mw191 dX7_letWork_54 hM (fun σ12 H locs hG hM => ?_)
  exact e_vret X hG dX7_letWork_57 hM
def B_X7_letFallFrom_9  : Nat → St → Nat → Int32 → Int32 → Option (St × Int32)
  | 0, _, _, _, _ => none
  | n + 1, σ, k, x1, x2 => if (σ (k + 4) 6) ≤ x2 then (bcall (M_X9_cutTo σ (k + 4) x1) fun σ1 r2 => some (σ1, 0)) else (bput σ k 12 ((σ k 12) + (1 : Int32)) fun σ3 => bcall (M_X9_polesOf σ3 (k + 4) x2) fun σ4 r5 => bput σ4 k 13 ((σ3 k 13) + r5) fun σ6 => bcall (M_X9_hoursOf σ6 (k + 4) x2) fun σ7 r8 => bput σ7 k 11 ((σ6 k 11) + r8) fun σ9 => blet (x2 + (1 : Int32)) fun v10 => B_X7_letFallFrom_9 n σ9 k x1 v10)
def M_X7_letFallFrom (σ : St) (k : Nat) (p0 : Int32) : Option (St × Int32) := if p0 = (-4 : Int32) then some (σ, 0) else (B_X7_letFallFrom_9 FU σ k p0 p0)
set_option maxRecDepth 20000 in
set_option maxHeartbeats 4000000 in
theorem w_X7_letFallFrom_9 {p : Program} {l : Launch} {e : Env} {s : State} {m : MethodId} {below : List Frame} {meth : Method} {c : Code} {args : Array Value} {E : Ev} {k : Nat} (X : Bx E p m meth c cX7_letFallFrom 3 none s args RX7) (hL : lay 7 k) : ∀ (n : Nat) (σ : St) (x1 x2 : Int32) (H : Heap) (locs : List Loc) (ls : Array Slot) (z : St × Int32), GS E σ s.heap H locs → lv_has ls 3 [(0, .ref (E.1 k)), (1, .int x1), (2, .int x2)] → B_X7_letFallFrom_9 n σ k x1 x2 = some z → W p l e (rmd 3) s m args below meth c H locs 0 0 (QV E z below args s) (F0 m 9 ls []) := by
  have hx := X.1.1.1
  have hb := X.1.1.2.1
  intro n
  induction n with
  | zero => intro σ x1 x2 H locs ls z  hG hl hM; cases hM
  | succ n ih =>
    intro σ x1 x2 H locs ls z  hG hl hM
    unfold B_X7_letFallFrom_9 at hM
    refine lv_iload_n hx hb dX7_letFallFrom_9 rfl (lv_at hl 2 rfl) ?_
    refine lv_aload_n hx hb dX7_letFallFrom_10 rfl (lv_at hl 0 rfl) ?_
    refine gt_7_1 X.1 hG hL mw165 dX7_letFallFrom_11 ?_
    refine gtN_9_6 X.1 hG (lf_7_1 hL) mw105 dX7_letFallFrom_14 ?_
    refine lv_icmp_ge (tgt := 70) hx hb dX7_letFallFrom_17 (by decide) (fun c11 => ?_) (fun c11 => ?_)
    · have hM := b_if hM c11
      refine lv_aload_n hx hb dX7_letFallFrom_70 rfl (lv_at hl 0 rfl) ?_
      refine gt_7_1 X.1 hG hL mw165 dX7_letFallFrom_71 ?_
      refine lv_iload_n hx hb dX7_letFallFrom_74 rfl (lv_at hl 1 rfl) ?_
      refine g_callV_v (nA := 1) (o := M_X9_cutTo σ (k + 4) x1) (As := [.int x1]) X.1 hG (lf_7_1 hL) rfl rfl (fun _ _ h => C_X9_cutTo l E h (lf_7_1 hL)) mw342 mw343 mw344 mw17 (gw_ok mw345 rfl) (by decide +kernel) rfl ⟨Nat.le_of_ble_eq_true rfl, Nat.le_of_ble_eq_true rfl⟩ hl.1 rfl (Nat.le_of_ble_eq_true rfl) ⟨Nat.le_refl _, Nat.le_refl _⟩ dX7_letFallFrom_75 hM (fun σ1 r2 H locs hG hM => ?_)
      exact e_vret X hG dX7_letFallFrom_78 hM
    · have hM := b_else hM c11
      refine lv_aload_n hx hb dX7_letFallFrom_20 rfl (lv_at hl 0 rfl) ?_
      refine lv_dup hx hb dX7_letFallFrom_21 rfl ?_
      refine gt_7_12 X.1 hG hL mw195 dX7_letFallFrom_22 ?_
      refine lv_iconst (v := (1 : Int32)) hx hb dX7_letFallFrom_25 (by decide) ?_
      refine lv_iadd hx hb dX7_letFallFrom_26 ?_
      refine pt_7_12 X.1 hG hL mw195 dX7_letFallFrom_27 hM (fun σ3 H locs hG hM => ?_)
      refine lv_aload_n hx hb dX7_letFallFrom_30 rfl (lv_at hl 0 rfl) ?_
      refine lv_dup hx hb dX7_letFallFrom_31 rfl ?_
      refine gt_7_13 X.1 hG hL mw198 dX7_letFallFrom_32 ?_
      refine lv_aload_n hx hb dX7_letFallFrom_35 rfl (lv_at hl 0 rfl) ?_
      refine gt_7_1 X.1 hG hL mw165 dX7_letFallFrom_36 ?_
      refine lv_iload_n hx hb dX7_letFallFrom_39 rfl (lv_at hl 2 rfl) ?_
      refine g_callV_i (nA := 1) (o := M_X9_polesOf σ3 (k + 4) x2) (As := [.int x2]) X.1 hG (lf_7_1 hL) rfl rfl (fun _ _ h => C_X9_polesOf l E h (lf_7_1 hL)) mw723 mw724 mw725 mw17 (gw_ok mw726 rfl) (by decide +kernel) rfl ⟨Nat.le_of_ble_eq_true rfl, Nat.le_of_ble_eq_true rfl⟩ hl.1 rfl (Nat.le_of_ble_eq_true rfl) ⟨Nat.le_refl _, Nat.le_refl _⟩ dX7_letFallFrom_40 hM (fun σ4 r5 H locs hG hM => ?_)
      refine lv_iadd hx hb dX7_letFallFrom_43 ?_
      refine pt_7_13 X.1 hG hL mw198 dX7_letFallFrom_44 hM (fun σ6 H locs hG hM => ?_)
      refine lv_aload_n hx hb dX7_letFallFrom_47 rfl (lv_at hl 0 rfl) ?_
      refine lv_dup hx hb dX7_letFallFrom_48 rfl ?_
      refine gt_7_11 X.1 hG hL mw193 dX7_letFallFrom_49 ?_
      refine lv_aload_n hx hb dX7_letFallFrom_52 rfl (lv_at hl 0 rfl) ?_
      refine gt_7_1 X.1 hG hL mw165 dX7_letFallFrom_53 ?_
      refine lv_iload_n hx hb dX7_letFallFrom_56 rfl (lv_at hl 2 rfl) ?_
      refine g_callV_i (nA := 1) (o := M_X9_hoursOf σ6 (k + 4) x2) (As := [.int x2]) X.1 hG (lf_7_1 hL) rfl rfl (fun _ _ h => C_X9_hoursOf l E h (lf_7_1 hL)) mw680 mw681 mw682 mw17 (gw_ok mw683 rfl) (by decide +kernel) rfl ⟨Nat.le_of_ble_eq_true rfl, Nat.le_of_ble_eq_true rfl⟩ hl.1 rfl (Nat.le_of_ble_eq_true rfl) ⟨Nat.le_refl _, Nat.le_refl _⟩ dX7_letFallFrom_57 hM (fun σ7 r8 H locs hG hM => ?_)
      refine lv_iadd hx hb dX7_letFallFrom_60 ?_
      refine pt_7_11 X.1 hG hL mw193 dX7_letFallFrom_61 hM (fun σ9 H locs hG hM => ?_)
      obtain ⟨v10, ev10, hM⟩ := g_nm hM
      refine lv_iinc (v := v10) (lv' := [(2, .int v10), (0, .ref (E.1 k)), (1, .int x1)]) hx hb dX7_letFallFrom_64 hl (k := 2) rfl (by rw [ev10]; rfl) (by decide) rfl (fun ls hl => ?_)
      refine lv_goto (tgt := 9) hx hb dX7_letFallFrom_67 (by decide) ?_
      exact ih σ9 x1 v10 _ _ _ z hG (lv_sub hl [1, 2, 0] rfl) hM
set_option maxRecDepth 20000 in
set_option maxHeartbeats 4000000 in
theorem C_X7_letFallFrom (l : Launch) (E : Ev) {σ σ' : St} {k : Nat} {p0 : Int32} {r : Int32} (h : M_X7_letFallFrom σ k p0 = some (σ', r)) (hL : lay 7 k) : Mv l E yX7_letFallFrom cX7_letFallFrom 3 3 [.ref (E.1 k), .int p0] σ σ' := by
  refine Mv_of (C := RX7) rfl (by decide) (Nat.le_of_ble_eq_true rfl) (z := (σ', r)) (fun p e s m below meth c ls X hG hl => ?_)
  have hx := X.1.1.1
  have hb := X.1.1.2.1
  have hM := h
  unfold M_X7_letFallFrom at hM
  generalize (σ', r) = z at hM ⊢
  have hl : lv_has ls 3 [(0, .ref (E.1 k)), (1, .int p0)] := hl
  refine lv_iload_n hx hb dX7_letFallFrom_0 rfl (lv_at hl 1 rfl) ?_
  refine lv_bipush (v := (-4 : Int32)) hx hb dX7_letFallFrom_1 (by decide) ?_
  refine lv_icmp_ne (tgt := 7) hx hb dX7_letFallFrom_3 (by decide) (fun c12 => ?_) (fun c12 => ?_)
  · have hM := b_else hM c12
    refine lv_iload_n hx hb dX7_letFallFrom_7 rfl (lv_at hl 1 rfl) ?_
    refine lv_istore_n (lv' := [(2, .int p0), (0, .ref (E.1 k)), (1, .int p0)]) hx hb dX7_letFallFrom_8 rfl hl (by decide) rfl (fun ls hl => ?_)
    exact w_X7_letFallFrom_9 X hL FU σ p0 p0 _ _ _ z hG (lv_sub hl [1, 2, 0] rfl) hM
  · have hM := b_if hM c12
    exact e_vret X hG dX7_letFallFrom_6 hM
def M_X7_take (σ : St) (k a0 : Nat)  : Option (St × Int32) := bcall (M_X0_take σ (k + 1) (a0 + 1)) fun σ1 r2 => bcall (M_X9_take σ1 (k + 4) (a0 + 4)) fun σ3 r4 => bcall (M_X1_take σ3 (k + 11) (a0 + 11)) fun σ5 r6 => bcall (M_X3_take σ5 (k + 15) (a0 + 15)) fun σ7 r8 => bput σ7 k 4 (σ7 a0 4) fun σ9 => bput σ9 k 5 (σ9 a0 5) fun σ10 => bput σ10 k 6 (σ10 a0 6) fun σ11 => bput σ11 k 7 (σ11 a0 7) fun σ12 => bput σ12 k 8 (σ12 a0 8) fun σ13 => bput σ13 k 9 (σ13 a0 9) fun σ14 => bput σ14 k 10 (σ14 a0 10) fun σ15 => bput σ15 k 11 (σ15 a0 11) fun σ16 => bput σ16 k 12 (σ16 a0 12) fun σ17 => bput σ17 k 13 (σ17 a0 13) fun σ18 => some (σ18, 0)
set_option maxRecDepth 20000 in
set_option maxHeartbeats 4000000 in
theorem C_X7_take (l : Launch) (E : Ev) {σ σ' : St} {k : Nat} {a0 : Nat} {r : Int32} (h : M_X7_take σ k a0 = some (σ', r)) (hL : lay 7 k) (hA0 : lay 7 a0) : Mv l E yX7_take cX7_take 2 3 [.ref (E.1 k), .ref (E.1 a0)] σ σ' := by
  refine Mv_of (C := RX7) rfl (by decide) (Nat.le_of_ble_eq_true rfl) (z := (σ', r)) (fun p e s m below meth c ls X hG hl => ?_)
  have hx := X.1.1.1
  have hb := X.1.1.2.1
  have hM := h
  unfold M_X7_take at hM
  generalize (σ', r) = z at hM ⊢
  have hl : lv_has ls 2 [(0, .ref (E.1 k)), (1, .ref (E.1 a0))] := hl
  refine lv_aload_n hx hb dX7_take_0 rfl (lv_at hl 0 rfl) ?_
  refine gt_7_0 X.1 hG hL mw162 dX7_take_1 ?_
  refine lv_aload_n hx hb dX7_take_4 rfl (lv_at hl 1 rfl) ?_
  refine gt_7_0 X.1 hG hA0 mw162 dX7_take_5 ?_
  refine g_callV_v (nA := 1) (o := M_X0_take σ (k + 1) (a0 + 1)) (As := [.ref (E.1 (a0 + 1))]) X.1 hG (lf_7_0 hL) rfl rfl (fun _ _ h => C_X0_take l E h (lf_7_0 hL) (lf_7_0 hA0)) mw391 mw392 mw393 mw16 (gw_ok mw394 rfl) (by decide +kernel) rfl ⟨Nat.le_of_ble_eq_true rfl, Nat.le_of_ble_eq_true rfl⟩ hl.1 rfl (Nat.le_of_ble_eq_true rfl) ⟨Nat.le_refl _, Nat.le_refl _⟩ dX7_take_8 hM (fun σ1 r2 H locs hG hM => ?_)
  refine lv_aload_n hx hb dX7_take_11 rfl (lv_at hl 0 rfl) ?_
  refine gt_7_1 X.1 hG hL mw165 dX7_take_12 ?_
  refine lv_aload_n hx hb dX7_take_15 rfl (lv_at hl 1 rfl) ?_
  refine gt_7_1 X.1 hG hA0 mw165 dX7_take_16 ?_
  refine g_callV_v (nA := 1) (o := M_X9_take σ1 (k + 4) (a0 + 4)) (As := [.ref (E.1 (a0 + 4))]) X.1 hG (lf_7_1 hL) rfl rfl (fun _ _ h => C_X9_take l E h (lf_7_1 hL) (lf_7_1 hA0)) mw402 mw403 mw404 mw17 (gw_ok mw405 rfl) (by decide +kernel) rfl ⟨Nat.le_of_ble_eq_true rfl, Nat.le_of_ble_eq_true rfl⟩ hl.1 rfl (Nat.le_of_ble_eq_true rfl) ⟨Nat.le_refl _, Nat.le_refl _⟩ dX7_take_19 hM (fun σ3 r4 H locs hG hM => ?_)
  refine lv_aload_n hx hb dX7_take_22 rfl (lv_at hl 0 rfl) ?_
  refine gt_7_2 X.1 hG hL mw168 dX7_take_23 ?_
  refine lv_aload_n hx hb dX7_take_26 rfl (lv_at hl 1 rfl) ?_
  refine gt_7_2 X.1 hG hA0 mw168 dX7_take_27 ?_
  refine g_callV_v (nA := 1) (o := M_X1_take σ3 (k + 11) (a0 + 11)) (As := [.ref (E.1 (a0 + 11))]) X.1 hG (lf_7_2 hL) rfl rfl (fun _ _ h => C_X1_take l E h (lf_7_2 hL) (lf_7_2 hA0)) mw407 mw408 mw409 mw18 (gw_ok mw410 rfl) (by decide +kernel) rfl ⟨Nat.le_of_ble_eq_true rfl, Nat.le_of_ble_eq_true rfl⟩ hl.1 rfl (Nat.le_of_ble_eq_true rfl) ⟨Nat.le_refl _, Nat.le_refl _⟩ dX7_take_30 hM (fun σ5 r6 H locs hG hM => ?_)
  refine lv_aload_n hx hb dX7_take_33 rfl (lv_at hl 0 rfl) ?_
  refine gt_7_3 X.1 hG hL mw171 dX7_take_34 ?_
  refine lv_aload_n hx hb dX7_take_37 rfl (lv_at hl 1 rfl) ?_
  refine gt_7_3 X.1 hG hA0 mw171 dX7_take_38 ?_
  refine g_callV_v (nA := 1) (o := M_X3_take σ5 (k + 15) (a0 + 15)) (As := [.ref (E.1 (a0 + 15))]) X.1 hG (lf_7_3 hL) rfl rfl (fun _ _ h => C_X3_take l E h (lf_7_3 hL) (lf_7_3 hA0)) mw412 mw413 mw414 mw19 (gw_ok mw415 rfl) (by decide +kernel) rfl ⟨Nat.le_of_ble_eq_true rfl, Nat.le_of_ble_eq_true rfl⟩ hl.1 rfl (Nat.le_of_ble_eq_true rfl) ⟨Nat.le_refl _, Nat.le_refl _⟩ dX7_take_41 hM (fun σ7 r8 H locs hG hM => ?_)
  refine lv_aload_n hx hb dX7_take_44 rfl (lv_at hl 0 rfl) ?_
  refine lv_aload_n hx hb dX7_take_45 rfl (lv_at hl 1 rfl) ?_
  refine gt_7_4 X.1 hG hA0 mw174 dX7_take_46 ?_
  refine pt_7_4 X.1 hG hL mw174 dX7_take_49 hM (fun σ9 H locs hG hM => ?_)
  refine lv_aload_n hx hb dX7_take_52 rfl (lv_at hl 0 rfl) ?_
  refine lv_aload_n hx hb dX7_take_53 rfl (lv_at hl 1 rfl) ?_
  refine gt_7_5 X.1 hG hA0 mw176 dX7_take_54 ?_
  refine pt_7_5 X.1 hG hL mw176 dX7_take_57 hM (fun σ10 H locs hG hM => ?_)
  refine lv_aload_n hx hb dX7_take_60 rfl (lv_at hl 0 rfl) ?_
  refine lv_aload_n hx hb dX7_take_61 rfl (lv_at hl 1 rfl) ?_
  refine gt_7_6 X.1 hG hA0 mw179 dX7_take_62 ?_
  refine pt_7_6 X.1 hG hL mw179 dX7_take_65 hM (fun σ11 H locs hG hM => ?_)
  refine lv_aload_n hx hb dX7_take_68 rfl (lv_at hl 0 rfl) ?_
  refine lv_aload_n hx hb dX7_take_69 rfl (lv_at hl 1 rfl) ?_
  refine gt_7_7 X.1 hG hA0 mw182 dX7_take_70 ?_
  refine pt_7_7 X.1 hG hL mw182 dX7_take_73 hM (fun σ12 H locs hG hM => ?_)
  refine lv_aload_n hx hb dX7_take_76 rfl (lv_at hl 0 rfl) ?_
  refine lv_aload_n hx hb dX7_take_77 rfl (lv_at hl 1 rfl) ?_
  refine gt_7_8 X.1 hG hA0 mw185 dX7_take_78 ?_
  refine pt_7_8 X.1 hG hL mw185 dX7_take_81 hM (fun σ13 H locs hG hM => ?_)
  refine lv_aload_n hx hb dX7_take_84 rfl (lv_at hl 0 rfl) ?_
  refine lv_aload_n hx hb dX7_take_85 rfl (lv_at hl 1 rfl) ?_
  refine gt_7_9 X.1 hG hA0 mw188 dX7_take_86 ?_
  refine pt_7_9 X.1 hG hL mw188 dX7_take_89 hM (fun σ14 H locs hG hM => ?_)
  refine lv_aload_n hx hb dX7_take_92 rfl (lv_at hl 0 rfl) ?_
  refine lv_aload_n hx hb dX7_take_93 rfl (lv_at hl 1 rfl) ?_
  refine gt_7_10 X.1 hG hA0 mw191 dX7_take_94 ?_
  refine pt_7_10 X.1 hG hL mw191 dX7_take_97 hM (fun σ15 H locs hG hM => ?_)
  refine lv_aload_n hx hb dX7_take_100 rfl (lv_at hl 0 rfl) ?_
  refine lv_aload_n hx hb dX7_take_101 rfl (lv_at hl 1 rfl) ?_
  refine gt_7_11 X.1 hG hA0 mw193 dX7_take_102 ?_
  refine pt_7_11 X.1 hG hL mw193 dX7_take_105 hM (fun σ16 H locs hG hM => ?_)
  refine lv_aload_n hx hb dX7_take_108 rfl (lv_at hl 0 rfl) ?_
  refine lv_aload_n hx hb dX7_take_109 rfl (lv_at hl 1 rfl) ?_
  refine gt_7_12 X.1 hG hA0 mw195 dX7_take_110 ?_
  refine pt_7_12 X.1 hG hL mw195 dX7_take_113 hM (fun σ17 H locs hG hM => ?_)
  refine lv_aload_n hx hb dX7_take_116 rfl (lv_at hl 0 rfl) ?_
  refine lv_aload_n hx hb dX7_take_117 rfl (lv_at hl 1 rfl) ?_
  refine gt_7_13 X.1 hG hA0 mw198 dX7_take_118 ?_
  refine pt_7_13 X.1 hG hL mw198 dX7_take_121 hM (fun σ18 H locs hG hM => ?_)
  exact e_vret X hG dX7_take_124 hM
def M_X8_addBundle (σ : St) (k : Nat) (p0 p1 : Int32) : Option (St × Int32) := bcall (M_X10_isWithin σ p0 (1 : Int32) (30 : Int32)) fun σ1 r2 => if r2 = 0 then some (σ1, (-2 : Int32)) else (bcall (M_X10_isWithin σ1 p1 (0 : Int32) (60 : Int32)) fun σ3 r4 => if r4 = 0 then some (σ3, (-2 : Int32)) else (if (σ3 ((k + 4) + 1) 2) < (8 : Int32) then (bcall (M_X0_add σ3 ((k + 4) + 1) p0 p1) fun σ5 r6 => some (σ5, r6)) else (bcall (M_X6_refuse σ3 (k + 1) (1 : Int32) (8 : Int32)) fun σ7 r8 => some (σ7, r8))))
set_option maxRecDepth 20000 in
set_option maxHeartbeats 4000000 in
theorem C_X8_addBundle (l : Launch) (E : Ev) {σ σ' : St} {k : Nat} {p0 : Int32} {p1 : Int32} {r : Int32} (h : M_X8_addBundle σ k p0 p1 = some (σ', r)) (hL : lay 8 k) : Mi l E yX8_addBundle cX8_addBundle 3 (some .int) 4 [.ref (E.1 k), .int p0, .int p1] σ σ' r := by
  refine Mi_of (C := RX8) rfl (by decide) (Nat.le_of_ble_eq_true rfl) (z := (σ', r)) (fun p e s m below meth c ls X hG hl => ?_)
  have hx := X.1.1.1
  have hb := X.1.1.2.1
  have hM := h
  unfold M_X8_addBundle at hM
  generalize (σ', r) = z at hM ⊢
  have hl : lv_has ls 3 [(0, .ref (E.1 k)), (1, .int p0), (2, .int p1)] := hl
  refine lv_iload_n hx hb dX8_addBundle_0 rfl (lv_at hl 1 rfl) ?_
  refine lv_iconst (v := (1 : Int32)) hx hb dX8_addBundle_1 (by decide) ?_
  refine lv_bipush (v := (30 : Int32)) hx hb dX8_addBundle_2 (by decide) ?_
  refine g_callSN_i (nA := 3) (o := M_X10_isWithin σ p0 (1 : Int32) (30 : Int32)) (As := [.int p0, .int (1 : Int32), .int (30 : Int32)]) X.1 hG (fun _ _ h => C_X10_isWithin l E h ) mw421 mw369 mw12 (gw_ok mw370 rfl) (by decide +kernel) rfl ⟨Nat.le_of_ble_eq_true rfl, Nat.le_of_ble_eq_true rfl⟩ hl.1 rfl (Nat.le_of_ble_eq_true rfl) ⟨Nat.le_refl _, Nat.le_refl _⟩ dX8_addBundle_4 hM (fun σ1 r2 H locs hG hM => ?_)
  refine lv_if_eq (tgt := 20) hx hb dX8_addBundle_7 (by decide) (fun c11 => ?_) (fun c11 => ?_)
  · have hM := b_if hM c11
    refine lv_bipush (v := (-2 : Int32)) hx hb dX8_addBundle_20 (by decide) ?_
    exact e_iret X hG dX8_addBundle_22 hM
  · have hM := b_else hM c11
    refine lv_iload_n hx hb dX8_addBundle_10 rfl (lv_at hl 2 rfl) ?_
    refine lv_iconst (v := (0 : Int32)) hx hb dX8_addBundle_11 (by decide) ?_
    refine lv_bipush (v := (60 : Int32)) hx hb dX8_addBundle_12 (by decide) ?_
    refine g_callSN_i (nA := 3) (o := M_X10_isWithin σ1 p1 (0 : Int32) (60 : Int32)) (As := [.int p1, .int (0 : Int32), .int (60 : Int32)]) X.1 hG (fun _ _ h => C_X10_isWithin l E h ) mw421 mw369 mw12 (gw_ok mw370 rfl) (by decide +kernel) rfl ⟨Nat.le_of_ble_eq_true rfl, Nat.le_of_ble_eq_true rfl⟩ hl.1 rfl (Nat.le_of_ble_eq_true rfl) ⟨Nat.le_refl _, Nat.le_refl _⟩ dX8_addBundle_14 hM (fun σ3 r4 H locs hG hM => ?_)
    refine lv_if_ne (tgt := 23) hx hb dX8_addBundle_17 (by decide) (fun c10 => ?_) (fun c10 => ?_)
    · have hM := b_else hM c10
      refine lv_aload_n hx hb dX8_addBundle_23 rfl (lv_at hl 0 rfl) ?_
      refine gt_8_1 X.1 hG hL mw232 dX8_addBundle_24 ?_
      refine gtN_7_0 X.1 hG (lf_8_1 hL) mw163 dX8_addBundle_27 ?_
      refine gtN_0_2 X.1 hG (lf_7_0 (lf_8_1 hL)) mw82 dX8_addBundle_30 ?_
      refine lv_bipush (v := (8 : Int32)) hx hb dX8_addBundle_33 (by decide) ?_
      refine lv_icmp_lt (tgt := 49) hx hb dX8_addBundle_35 (by decide) (fun c9 => ?_) (fun c9 => ?_)
      · have hM := b_if hM c9
        refine lv_aload_n hx hb dX8_addBundle_49 rfl (lv_at hl 0 rfl) ?_
        refine gt_8_1 X.1 hG hL mw232 dX8_addBundle_50 ?_
        refine gtN_7_0 X.1 hG (lf_8_1 hL) mw163 dX8_addBundle_53 ?_
        refine lv_iload_n hx hb dX8_addBundle_56 rfl (lv_at hl 1 rfl) ?_
        refine lv_iload_n hx hb dX8_addBundle_57 rfl (lv_at hl 2 rfl) ?_
        refine g_callV_i (nA := 2) (o := M_X0_add σ3 ((k + 4) + 1) p0 p1) (As := [.int p0, .int p1]) X.1 hG (lf_7_0 (lf_8_1 hL)) rfl rfl (fun _ _ h => C_X0_add l E h (lf_7_0 (lf_8_1 hL))) mw433 mw434 mw435 mw16 (gw_ok mw436 rfl) (by decide +kernel) rfl ⟨Nat.le_of_ble_eq_true rfl, Nat.le_of_ble_eq_true rfl⟩ hl.1 rfl (Nat.le_of_ble_eq_true rfl) ⟨Nat.le_refl _, Nat.le_refl _⟩ dX8_addBundle_58 hM (fun σ5 r6 H locs hG hM => ?_)
        exact e_iret X hG dX8_addBundle_61 hM
      · have hM := b_else hM c9
        refine lv_aload_n hx hb dX8_addBundle_38 rfl (lv_at hl 0 rfl) ?_
        refine gt_8_0 X.1 hG hL mw229 dX8_addBundle_39 ?_
        refine lv_iconst (v := (1 : Int32)) hx hb dX8_addBundle_42 (by decide) ?_
        refine lv_bipush (v := (8 : Int32)) hx hb dX8_addBundle_43 (by decide) ?_
        refine g_callV_i (nA := 2) (o := M_X6_refuse σ3 (k + 1) (1 : Int32) (8 : Int32)) (As := [.int (1 : Int32), .int (8 : Int32)]) X.1 hG (lf_8_0 hL) rfl rfl (fun _ _ h => C_X6_refuse l E h (lf_8_0 hL)) mw422 mw423 mw424 mw14 (gw_ok mw425 rfl) (by decide +kernel) rfl ⟨Nat.le_of_ble_eq_true rfl, Nat.le_of_ble_eq_true rfl⟩ hl.1 rfl (Nat.le_of_ble_eq_true rfl) ⟨Nat.le_refl _, Nat.le_refl _⟩ dX8_addBundle_45 hM (fun σ7 r8 H locs hG hM => ?_)
        exact e_iret X hG dX8_addBundle_48 hM
    · have hM := b_if hM c10
      refine lv_bipush (v := (-2 : Int32)) hx hb dX8_addBundle_20 (by decide) ?_
      exact e_iret X hG dX8_addBundle_22 hM
def M_X8_tieAnew (σ : St) (k : Nat) (p0 : Int32) : Option (St × Int32) := bcall (M_X9_has σ ((k + 4) + 4) p0) fun σ1 r2 => if r2 = 0 then some (σ1, (-1 : Int32)) else (bcall (M_X7_isWarned σ1 (k + 4)) fun σ3 r4 => if r4 = 0 then (bcall (M_X9_tieOf σ3 ((k + 4) + 4) p0) fun σ5 r6 => if r6 = 0 then (bcall (M_X6_refuse σ5 (k + 1) (10 : Int32) p0) fun σ15 r16 => some (σ15, r16)) else (bcall (M_X9_stripsFor σ5 ((k + 4) + 4) p0) fun σ7 r8 => if r8 ≤ (σ7 (k + 4) 6) then (bput σ7 (k + 4) 6 ((σ7 (k + 4) 6) - r8) fun σ9 => bcall (M_X9_bind σ9 ((k + 4) + 4) p0) fun σ10 r11 => some (σ10, r6)) else (bcall (M_X6_refuse σ7 (k + 1) (3 : Int32) (r8 - (σ7 (k + 4) 6))) fun σ12 r13 => some (σ12, r13)))) else (bcall (M_X6_refuse σ3 (k + 1) (4 : Int32) (σ3 (k + 4) 5)) fun σ18 r19 => some (σ18, r19)))
set_option maxRecDepth 20000 in
set_option maxHeartbeats 4000000 in
theorem C_X8_tieAnew (l : Launch) (E : Ev) {σ σ' : St} {k : Nat} {p0 : Int32} {r : Int32} (h : M_X8_tieAnew σ k p0 = some (σ', r)) (hL : lay 8 k) : Mi l E yX8_tieAnew cX8_tieAnew 4 (some .int) 4 [.ref (E.1 k), .int p0] σ σ' r := by
  refine Mi_of (C := RX8) rfl (by decide) (Nat.le_of_ble_eq_true rfl) (z := (σ', r)) (fun p e s m below meth c ls X hG hl => ?_)
  have hx := X.1.1.1
  have hb := X.1.1.2.1
  have hM := h
  unfold M_X8_tieAnew at hM
  generalize (σ', r) = z at hM ⊢
  have hl : lv_has ls 4 [(0, .ref (E.1 k)), (1, .int p0)] := hl
  refine lv_aload_n hx hb dX8_tieAnew_0 rfl (lv_at hl 0 rfl) ?_
  refine gt_8_1 X.1 hG hL mw232 dX8_tieAnew_1 ?_
  refine gtN_7_1 X.1 hG (lf_8_1 hL) mw166 dX8_tieAnew_4 ?_
  refine lv_iload_n hx hb dX8_tieAnew_7 rfl (lv_at hl 1 rfl) ?_
  refine g_callV_i (nA := 1) (o := M_X9_has σ ((k + 4) + 4) p0) (As := [.int p0]) X.1 hG (lf_7_1 (lf_8_1 hL)) rfl rfl (fun _ _ h => C_X9_has l E h (lf_7_1 (lf_8_1 hL))) mw522 mw523 mw524 mw17 (gw_ok mw525 rfl) (by decide +kernel) rfl ⟨Nat.le_of_ble_eq_true rfl, Nat.le_of_ble_eq_true rfl⟩ hl.1 rfl (Nat.le_of_ble_eq_true rfl) ⟨Nat.le_refl _, Nat.le_refl _⟩ dX8_tieAnew_8 hM (fun σ1 r2 H locs hG hM => ?_)
  refine lv_if_ne (tgt := 16) hx hb dX8_tieAnew_11 (by decide) (fun c21 => ?_) (fun c21 => ?_)
  · have hM := b_else hM c21
    refine lv_aload_n hx hb dX8_tieAnew_16 rfl (lv_at hl 0 rfl) ?_
    refine gt_8_1 X.1 hG hL mw232 dX8_tieAnew_17 ?_
    refine g_callV_i (nA := 0) (o := M_X7_isWarned σ1 (k + 4)) (As := []) X.1 hG (lf_8_1 hL) rfl rfl (fun _ _ h => C_X7_isWarned l E h (lf_8_1 hL)) mw468 mw469 mw470 mw15 (gw_ok mw471 rfl) (by decide +kernel) rfl ⟨Nat.le_of_ble_eq_true rfl, Nat.le_of_ble_eq_true rfl⟩ hl.1 rfl (Nat.le_of_ble_eq_true rfl) ⟨Nat.le_refl _, Nat.le_refl _⟩ dX8_tieAnew_20 hM (fun σ3 r4 H locs hG hM => ?_)
    refine lv_if_eq (tgt := 42) hx hb dX8_tieAnew_23 (by decide) (fun c20 => ?_) (fun c20 => ?_)
    · have hM := b_if hM c20
      refine lv_aload_n hx hb dX8_tieAnew_42 rfl (lv_at hl 0 rfl) ?_
      refine gt_8_1 X.1 hG hL mw232 dX8_tieAnew_43 ?_
      refine gtN_7_1 X.1 hG (lf_8_1 hL) mw166 dX8_tieAnew_46 ?_
      refine lv_iload_n hx hb dX8_tieAnew_49 rfl (lv_at hl 1 rfl) ?_
      refine g_callV_i (nA := 1) (o := M_X9_tieOf σ3 ((k + 4) + 4) p0) (As := [.int p0]) X.1 hG (lf_7_1 (lf_8_1 hL)) rfl rfl (fun _ _ h => C_X9_tieOf l E h (lf_7_1 (lf_8_1 hL))) mw641 mw642 mw643 mw17 (gw_ok mw644 rfl) (by decide +kernel) rfl ⟨Nat.le_of_ble_eq_true rfl, Nat.le_of_ble_eq_true rfl⟩ hl.1 rfl (Nat.le_of_ble_eq_true rfl) ⟨Nat.le_refl _, Nat.le_refl _⟩ dX8_tieAnew_50 hM (fun σ5 r6 H locs hG hM => ?_)
      refine lv_istore_n (lv' := [(2, .int r6), (0, .ref (E.1 k)), (1, .int p0)]) hx hb dX8_tieAnew_53 rfl hl (by decide) rfl (fun ls hl => ?_)
      refine lv_iload_n hx hb dX8_tieAnew_54 rfl (lv_at hl 0 rfl) ?_
      refine lv_if_ne (tgt := 69) hx hb dX8_tieAnew_55 (by decide) (fun c17 => ?_) (fun c17 => ?_)
      · have hM := b_else hM c17
        refine lv_aload_n hx hb dX8_tieAnew_69 rfl (lv_at hl 1 rfl) ?_
        refine gt_8_1 X.1 hG hL mw232 dX8_tieAnew_70 ?_
        refine gtN_7_1 X.1 hG (lf_8_1 hL) mw166 dX8_tieAnew_73 ?_
        refine lv_iload_n hx hb dX8_tieAnew_76 rfl (lv_at hl 2 rfl) ?_
        refine g_callV_i (nA := 1) (o := M_X9_stripsFor σ5 ((k + 4) + 4) p0) (As := [.int p0]) X.1 hG (lf_7_1 (lf_8_1 hL)) rfl rfl (fun _ _ h => C_X9_stripsFor l E h (lf_7_1 (lf_8_1 hL))) mw846 mw847 mw848 mw17 (gw_ok mw849 rfl) (by decide +kernel) rfl ⟨Nat.le_of_ble_eq_true rfl, Nat.le_of_ble_eq_true rfl⟩ hl.1 rfl (Nat.le_of_ble_eq_true rfl) ⟨Nat.le_refl _, Nat.le_refl _⟩ dX8_tieAnew_77 hM (fun σ7 r8 H locs hG hM => ?_)
        refine lv_istore_n (lv' := [(3, .int r8), (2, .int r6), (0, .ref (E.1 k)), (1, .int p0)]) hx hb dX8_tieAnew_80 rfl hl (by decide) rfl (fun ls hl => ?_)
        refine lv_aload_n hx hb dX8_tieAnew_81 rfl (lv_at hl 2 rfl) ?_
        refine gt_8_1 X.1 hG hL mw232 dX8_tieAnew_82 ?_
        refine gtN_7_6 X.1 hG (lf_8_1 hL) mw180 dX8_tieAnew_85 ?_
        refine lv_iload_n hx hb dX8_tieAnew_88 rfl (lv_at hl 0 rfl) ?_
        refine lv_icmp_ge (tgt := 110) hx hb dX8_tieAnew_89 (by decide) (fun c14 => ?_) (fun c14 => ?_)
        · have hM := b_if hM c14
          refine lv_aload_n hx hb dX8_tieAnew_110 rfl (lv_at hl 2 rfl) ?_
          refine gt_8_1 X.1 hG hL mw232 dX8_tieAnew_111 ?_
          refine lv_dup hx hb dX8_tieAnew_114 rfl ?_
          refine gtN_7_6 X.1 hG (lf_8_1 hL) mw180 dX8_tieAnew_115 ?_
          refine lv_iload_n hx hb dX8_tieAnew_118 rfl (lv_at hl 0 rfl) ?_
          refine lv_isub hx hb dX8_tieAnew_119 ?_
          refine ptN_7_6 X.1 hG (lf_8_1 hL) mw180 dX8_tieAnew_120 hM (fun σ9 H locs hG hM => ?_)
          refine lv_aload_n hx hb dX8_tieAnew_123 rfl (lv_at hl 2 rfl) ?_
          refine gt_8_1 X.1 hG hL mw232 dX8_tieAnew_124 ?_
          refine gtN_7_1 X.1 hG (lf_8_1 hL) mw166 dX8_tieAnew_127 ?_
          refine lv_iload_n hx hb dX8_tieAnew_130 rfl (lv_at hl 3 rfl) ?_
          refine g_callV_v (nA := 1) (o := M_X9_bind σ9 ((k + 4) + 4) p0) (As := [.int p0]) X.1 hG (lf_7_1 (lf_8_1 hL)) rfl rfl (fun _ _ h => C_X9_bind l E h (lf_7_1 (lf_8_1 hL))) mw851 mw494 mw495 mw17 (gw_ok mw496 rfl) (by decide +kernel) rfl ⟨Nat.le_of_ble_eq_true rfl, Nat.le_of_ble_eq_true rfl⟩ hl.1 rfl (Nat.le_of_ble_eq_true rfl) ⟨Nat.le_refl _, Nat.le_refl _⟩ dX8_tieAnew_131 hM (fun σ10 r11 H locs hG hM => ?_)
          refine lv_iload_n hx hb dX8_tieAnew_134 rfl (lv_at hl 1 rfl) ?_
          exact e_iret X hG dX8_tieAnew_135 hM
        · have hM := b_else hM c14
          refine lv_aload_n hx hb dX8_tieAnew_92 rfl (lv_at hl 2 rfl) ?_
          refine gt_8_0 X.1 hG hL mw229 dX8_tieAnew_93 ?_
          refine lv_iconst (v := (3 : Int32)) hx hb dX8_tieAnew_96 (by decide) ?_
          refine lv_iload_n hx hb dX8_tieAnew_97 rfl (lv_at hl 0 rfl) ?_
          refine lv_aload_n hx hb dX8_tieAnew_98 rfl (lv_at hl 2 rfl) ?_
          refine gt_8_1 X.1 hG hL mw232 dX8_tieAnew_99 ?_
          refine gtN_7_6 X.1 hG (lf_8_1 hL) mw180 dX8_tieAnew_102 ?_
          refine lv_isub hx hb dX8_tieAnew_105 ?_
          refine g_callV_i (nA := 2) (o := M_X6_refuse σ7 (k + 1) (3 : Int32) (r8 - (σ7 (k + 4) 6))) (As := [.int (3 : Int32), .int (r8 - (σ7 (k + 4) 6))]) X.1 hG (lf_8_0 hL) rfl rfl (fun _ _ h => C_X6_refuse l E h (lf_8_0 hL)) mw422 mw423 mw424 mw14 (gw_ok mw425 rfl) (by decide +kernel) rfl ⟨Nat.le_of_ble_eq_true rfl, Nat.le_of_ble_eq_true rfl⟩ hl.1 rfl (Nat.le_of_ble_eq_true rfl) ⟨Nat.le_refl _, Nat.le_refl _⟩ dX8_tieAnew_106 hM (fun σ12 r13 H locs hG hM => ?_)
          exact e_iret X hG dX8_tieAnew_109 hM
      · have hM := b_if hM c17
        refine lv_aload_n hx hb dX8_tieAnew_58 rfl (lv_at hl 1 rfl) ?_
        refine gt_8_0 X.1 hG hL mw229 dX8_tieAnew_59 ?_
        refine lv_bipush (v := (10 : Int32)) hx hb dX8_tieAnew_62 (by decide) ?_
        refine lv_iload_n hx hb dX8_tieAnew_64 rfl (lv_at hl 2 rfl) ?_
        refine g_callV_i (nA := 2) (o := M_X6_refuse σ5 (k + 1) (10 : Int32) p0) (As := [.int (10 : Int32), .int p0]) X.1 hG (lf_8_0 hL) rfl rfl (fun _ _ h => C_X6_refuse l E h (lf_8_0 hL)) mw422 mw423 mw424 mw14 (gw_ok mw425 rfl) (by decide +kernel) rfl ⟨Nat.le_of_ble_eq_true rfl, Nat.le_of_ble_eq_true rfl⟩ hl.1 rfl (Nat.le_of_ble_eq_true rfl) ⟨Nat.le_refl _, Nat.le_refl _⟩ dX8_tieAnew_65 hM (fun σ15 r16 H locs hG hM => ?_)
        exact e_iret X hG dX8_tieAnew_68 hM
    · have hM := b_else hM c20
      refine lv_aload_n hx hb dX8_tieAnew_26 rfl (lv_at hl 0 rfl) ?_
      refine gt_8_0 X.1 hG hL mw229 dX8_tieAnew_27 ?_
      refine lv_iconst (v := (4 : Int32)) hx hb dX8_tieAnew_30 (by decide) ?_
      refine lv_aload_n hx hb dX8_tieAnew_31 rfl (lv_at hl 0 rfl) ?_
      refine gt_8_1 X.1 hG hL mw232 dX8_tieAnew_32 ?_
      refine gtN_7_5 X.1 hG (lf_8_1 hL) mw177 dX8_tieAnew_35 ?_
      refine g_callV_i (nA := 2) (o := M_X6_refuse σ3 (k + 1) (4 : Int32) (σ3 (k + 4) 5)) (As := [.int (4 : Int32), .int (σ3 (k + 4) 5)]) X.1 hG (lf_8_0 hL) rfl rfl (fun _ _ h => C_X6_refuse l E h (lf_8_0 hL)) mw422 mw423 mw424 mw14 (gw_ok mw425 rfl) (by decide +kernel) rfl ⟨Nat.le_of_ble_eq_true rfl, Nat.le_of_ble_eq_true rfl⟩ hl.1 rfl (Nat.le_of_ble_eq_true rfl) ⟨Nat.le_refl _, Nat.le_refl _⟩ dX8_tieAnew_38 hM (fun σ18 r19 H locs hG hM => ?_)
      exact e_iret X hG dX8_tieAnew_41 hM
  · have hM := b_if hM c21
    refine lv_iconst (v := (-1 : Int32)) hx hb dX8_tieAnew_14 (by decide) ?_
    exact e_iret X hG dX8_tieAnew_15 hM
def M_X8_addCrew (σ : St) (k : Nat) (p0 : Int32) : Option (St × Int32) := bcall (M_X10_isWithin σ p0 (1 : Int32) (4 : Int32)) fun σ1 r2 => if r2 = 0 then some (σ1, (-2 : Int32)) else (if (σ1 ((k + 4) + 11) 3) < (5 : Int32) then (bcall (M_X1_add σ1 ((k + 4) + 11) p0) fun σ3 r4 => some (σ3, r4)) else (bcall (M_X6_refuse σ1 (k + 1) (1 : Int32) (5 : Int32)) fun σ5 r6 => some (σ5, r6)))
set_option maxRecDepth 20000 in
set_option maxHeartbeats 4000000 in
theorem C_X8_addCrew (l : Launch) (E : Ev) {σ σ' : St} {k : Nat} {p0 : Int32} {r : Int32} (h : M_X8_addCrew σ k p0 = some (σ', r)) (hL : lay 8 k) : Mi l E yX8_addCrew cX8_addCrew 2 (some .int) 4 [.ref (E.1 k), .int p0] σ σ' r := by
  refine Mi_of (C := RX8) rfl (by decide) (Nat.le_of_ble_eq_true rfl) (z := (σ', r)) (fun p e s m below meth c ls X hG hl => ?_)
  have hx := X.1.1.1
  have hb := X.1.1.2.1
  have hM := h
  unfold M_X8_addCrew at hM
  generalize (σ', r) = z at hM ⊢
  have hl : lv_has ls 2 [(0, .ref (E.1 k)), (1, .int p0)] := hl
  refine lv_iload_n hx hb dX8_addCrew_0 rfl (lv_at hl 1 rfl) ?_
  refine lv_iconst (v := (1 : Int32)) hx hb dX8_addCrew_1 (by decide) ?_
  refine lv_iconst (v := (4 : Int32)) hx hb dX8_addCrew_2 (by decide) ?_
  refine g_callSN_i (nA := 3) (o := M_X10_isWithin σ p0 (1 : Int32) (4 : Int32)) (As := [.int p0, .int (1 : Int32), .int (4 : Int32)]) X.1 hG (fun _ _ h => C_X10_isWithin l E h ) mw421 mw369 mw12 (gw_ok mw370 rfl) (by decide +kernel) rfl ⟨Nat.le_of_ble_eq_true rfl, Nat.le_of_ble_eq_true rfl⟩ hl.1 rfl (Nat.le_of_ble_eq_true rfl) ⟨Nat.le_refl _, Nat.le_refl _⟩ dX8_addCrew_3 hM (fun σ1 r2 H locs hG hM => ?_)
  refine lv_if_ne (tgt := 12) hx hb dX8_addCrew_6 (by decide) (fun c8 => ?_) (fun c8 => ?_)
  · have hM := b_else hM c8
    refine lv_aload_n hx hb dX8_addCrew_12 rfl (lv_at hl 0 rfl) ?_
    refine gt_8_1 X.1 hG hL mw232 dX8_addCrew_13 ?_
    refine gtN_7_2 X.1 hG (lf_8_1 hL) mw169 dX8_addCrew_16 ?_
    refine gtN_1_3 X.1 hG (lf_7_2 (lf_8_1 hL)) mw133 dX8_addCrew_19 ?_
    refine lv_iconst (v := (5 : Int32)) hx hb dX8_addCrew_22 (by decide) ?_
    refine lv_icmp_lt (tgt := 36) hx hb dX8_addCrew_23 (by decide) (fun c7 => ?_) (fun c7 => ?_)
    · have hM := b_if hM c7
      refine lv_aload_n hx hb dX8_addCrew_36 rfl (lv_at hl 0 rfl) ?_
      refine gt_8_1 X.1 hG hL mw232 dX8_addCrew_37 ?_
      refine gtN_7_2 X.1 hG (lf_8_1 hL) mw169 dX8_addCrew_40 ?_
      refine lv_iload_n hx hb dX8_addCrew_43 rfl (lv_at hl 1 rfl) ?_
      refine g_callV_i (nA := 1) (o := M_X1_add σ1 ((k + 4) + 11) p0) (As := [.int p0]) X.1 hG (lf_7_2 (lf_8_1 hL)) rfl rfl (fun _ _ h => C_X1_add l E h (lf_7_2 (lf_8_1 hL))) mw505 mw506 mw507 mw18 (gw_ok mw508 rfl) (by decide +kernel) rfl ⟨Nat.le_of_ble_eq_true rfl, Nat.le_of_ble_eq_true rfl⟩ hl.1 rfl (Nat.le_of_ble_eq_true rfl) ⟨Nat.le_refl _, Nat.le_refl _⟩ dX8_addCrew_44 hM (fun σ3 r4 H locs hG hM => ?_)
      exact e_iret X hG dX8_addCrew_47 hM
    · have hM := b_else hM c7
      refine lv_aload_n hx hb dX8_addCrew_26 rfl (lv_at hl 0 rfl) ?_
      refine gt_8_0 X.1 hG hL mw229 dX8_addCrew_27 ?_
      refine lv_iconst (v := (1 : Int32)) hx hb dX8_addCrew_30 (by decide) ?_
      refine lv_iconst (v := (5 : Int32)) hx hb dX8_addCrew_31 (by decide) ?_
      refine g_callV_i (nA := 2) (o := M_X6_refuse σ1 (k + 1) (1 : Int32) (5 : Int32)) (As := [.int (1 : Int32), .int (5 : Int32)]) X.1 hG (lf_8_0 hL) rfl rfl (fun _ _ h => C_X6_refuse l E h (lf_8_0 hL)) mw422 mw423 mw424 mw14 (gw_ok mw425 rfl) (by decide +kernel) rfl ⟨Nat.le_of_ble_eq_true rfl, Nat.le_of_ble_eq_true rfl⟩ hl.1 rfl (Nat.le_of_ble_eq_true rfl) ⟨Nat.le_refl _, Nat.le_refl _⟩ dX8_addCrew_32 hM (fun σ5 r6 H locs hG hM => ?_)
      exact e_iret X hG dX8_addCrew_35 hM
  · have hM := b_if hM c8
    refine lv_bipush (v := (-2 : Int32)) hx hb dX8_addCrew_9 (by decide) ?_
    exact e_iret X hG dX8_addCrew_11 hM
def M_X8_sendUp (σ : St) (k : Nat) (p0 p1 : Int32) : Option (St × Int32) := bcall (M_X1_has σ ((k + 4) + 11) p0) fun σ1 r2 => if r2 = 0 then some (σ1, (-1 : Int32)) else (bcall (M_X9_has σ1 ((k + 4) + 4) p1) fun σ3 r4 => if r4 = 0 then some (σ3, (-1 : Int32)) else (bcall (M_X1_placeOf σ3 ((k + 4) + 11) p0) fun σ5 r6 => if r6 = p1 then (bcall (M_X6_refuse σ5 (k + 1) (7 : Int32) p1) fun σ28 r29 => some (σ28, r29)) else (bcall (M_X7_isWarned σ5 (k + 4)) fun σ7 r8 => if r8 = 0 then (bcall (M_X9_lowestOldUpTo σ7 ((k + 4) + 4) p1) fun σ9 r10 => if r10 = (-4 : Int32) then (bcall (M_X9_isShut σ9 ((k + 4) + 4) p1) fun σ11 r12 => if r12 = 0 then (bcall (M_X1_moveTo σ11 ((k + 4) + 11) p0 p1) fun σ13 r14 => bcall (M_X1_howManyOn σ13 ((k + 4) + 11) p1) fun σ15 r16 => some (σ15, r16)) else (bcall (M_X9_shutterOf σ11 ((k + 4) + 4) p1) fun σ17 r18 => bcall (M_X6_refuseShut σ17 (k + 1) p1 r18) fun σ19 r20 => some (σ19, r20))) else (bcall (M_X6_refuse σ9 (k + 1) (5 : Int32) r10) fun σ22 r23 => some (σ22, r23))) else (bcall (M_X6_refuse σ7 (k + 1) (4 : Int32) (σ7 (k + 4) 5)) fun σ25 r26 => some (σ25, r26)))))
set_option maxRecDepth 20000 in
set_option maxHeartbeats 4000000 in
theorem C_X8_sendUp (l : Launch) (E : Ev) {σ σ' : St} {k : Nat} {p0 : Int32} {p1 : Int32} {r : Int32} (h : M_X8_sendUp σ k p0 p1 = some (σ', r)) (hL : lay 8 k) : Mi l E yX8_sendUp cX8_sendUp 4 (some .int) 5 [.ref (E.1 k), .int p0, .int p1] σ σ' r := by
  refine Mi_of (C := RX8) rfl (by decide) (Nat.le_of_ble_eq_true rfl) (z := (σ', r)) (fun p e s m below meth c ls X hG hl => ?_)
  have hx := X.1.1.1
  have hb := X.1.1.2.1
  have hM := h
  unfold M_X8_sendUp at hM
  generalize (σ', r) = z at hM ⊢
  have hl : lv_has ls 4 [(0, .ref (E.1 k)), (1, .int p0), (2, .int p1)] := hl
  refine lv_aload_n hx hb dX8_sendUp_0 rfl (lv_at hl 0 rfl) ?_
  refine gt_8_1 X.1 hG hL mw232 dX8_sendUp_1 ?_
  refine gtN_7_2 X.1 hG (lf_8_1 hL) mw169 dX8_sendUp_4 ?_
  refine lv_iload_n hx hb dX8_sendUp_7 rfl (lv_at hl 1 rfl) ?_
  refine g_callV_i (nA := 1) (o := M_X1_has σ ((k + 4) + 11) p0) (As := [.int p0]) X.1 hG (lf_7_2 (lf_8_1 hL)) rfl rfl (fun _ _ h => C_X1_has l E h (lf_7_2 (lf_8_1 hL))) mw518 mw519 mw520 mw18 (gw_ok mw521 rfl) (by decide +kernel) rfl ⟨Nat.le_of_ble_eq_true rfl, Nat.le_of_ble_eq_true rfl⟩ hl.1 rfl (Nat.le_of_ble_eq_true rfl) ⟨Nat.le_refl _, Nat.le_refl _⟩ dX8_sendUp_8 hM (fun σ1 r2 H locs hG hM => ?_)
  refine lv_if_eq (tgt := 28) hx hb dX8_sendUp_11 (by decide) (fun c32 => ?_) (fun c32 => ?_)
  · have hM := b_if hM c32
    refine lv_iconst (v := (-1 : Int32)) hx hb dX8_sendUp_28 (by decide) ?_
    exact e_iret X hG dX8_sendUp_29 hM
  · have hM := b_else hM c32
    refine lv_aload_n hx hb dX8_sendUp_14 rfl (lv_at hl 0 rfl) ?_
    refine gt_8_1 X.1 hG hL mw232 dX8_sendUp_15 ?_
    refine gtN_7_1 X.1 hG (lf_8_1 hL) mw166 dX8_sendUp_18 ?_
    refine lv_iload_n hx hb dX8_sendUp_21 rfl (lv_at hl 2 rfl) ?_
    refine g_callV_i (nA := 1) (o := M_X9_has σ1 ((k + 4) + 4) p1) (As := [.int p1]) X.1 hG (lf_7_1 (lf_8_1 hL)) rfl rfl (fun _ _ h => C_X9_has l E h (lf_7_1 (lf_8_1 hL))) mw522 mw523 mw524 mw17 (gw_ok mw525 rfl) (by decide +kernel) rfl ⟨Nat.le_of_ble_eq_true rfl, Nat.le_of_ble_eq_true rfl⟩ hl.1 rfl (Nat.le_of_ble_eq_true rfl) ⟨Nat.le_refl _, Nat.le_refl _⟩ dX8_sendUp_22 hM (fun σ3 r4 H locs hG hM => ?_)
    refine lv_if_ne (tgt := 30) hx hb dX8_sendUp_25 (by decide) (fun c31 => ?_) (fun c31 => ?_)
    · have hM := b_else hM c31
      refine lv_aload_n hx hb dX8_sendUp_30 rfl (lv_at hl 0 rfl) ?_
      refine gt_8_1 X.1 hG hL mw232 dX8_sendUp_31 ?_
      refine gtN_7_2 X.1 hG (lf_8_1 hL) mw169 dX8_sendUp_34 ?_
      refine lv_iload_n hx hb dX8_sendUp_37 rfl (lv_at hl 1 rfl) ?_
      refine g_callV_i (nA := 1) (o := M_X1_placeOf σ3 ((k + 4) + 11) p0) (As := [.int p0]) X.1 hG (lf_7_2 (lf_8_1 hL)) rfl rfl (fun _ _ h => C_X1_placeOf l E h (lf_7_2 (lf_8_1 hL))) mw526 mw527 mw528 mw18 (gw_ok mw529 rfl) (by decide +kernel) rfl ⟨Nat.le_of_ble_eq_true rfl, Nat.le_of_ble_eq_true rfl⟩ hl.1 rfl (Nat.le_of_ble_eq_true rfl) ⟨Nat.le_refl _, Nat.le_refl _⟩ dX8_sendUp_38 hM (fun σ5 r6 H locs hG hM => ?_)
      refine lv_iload_n hx hb dX8_sendUp_41 rfl (lv_at hl 2 rfl) ?_
      refine lv_icmp_ne (tgt := 56) hx hb dX8_sendUp_42 (by decide) (fun c30 => ?_) (fun c30 => ?_)
      · have hM := b_else hM c30
        refine lv_aload_n hx hb dX8_sendUp_56 rfl (lv_at hl 0 rfl) ?_
        refine gt_8_1 X.1 hG hL mw232 dX8_sendUp_57 ?_
        refine g_callV_i (nA := 0) (o := M_X7_isWarned σ5 (k + 4)) (As := []) X.1 hG (lf_8_1 hL) rfl rfl (fun _ _ h => C_X7_isWarned l E h (lf_8_1 hL)) mw468 mw469 mw470 mw15 (gw_ok mw471 rfl) (by decide +kernel) rfl ⟨Nat.le_of_ble_eq_true rfl, Nat.le_of_ble_eq_true rfl⟩ hl.1 rfl (Nat.le_of_ble_eq_true rfl) ⟨Nat.le_refl _, Nat.le_refl _⟩ dX8_sendUp_60 hM (fun σ7 r8 H locs hG hM => ?_)
        refine lv_if_eq (tgt := 82) hx hb dX8_sendUp_63 (by decide) (fun c27 => ?_) (fun c27 => ?_)
        · have hM := b_if hM c27
          refine lv_aload_n hx hb dX8_sendUp_82 rfl (lv_at hl 0 rfl) ?_
          refine gt_8_1 X.1 hG hL mw232 dX8_sendUp_83 ?_
          refine gtN_7_1 X.1 hG (lf_8_1 hL) mw166 dX8_sendUp_86 ?_
          refine lv_iload_n hx hb dX8_sendUp_89 rfl (lv_at hl 2 rfl) ?_
          refine g_callV_i (nA := 1) (o := M_X9_lowestOldUpTo σ7 ((k + 4) + 4) p1) (As := [.int p1]) X.1 hG (lf_7_1 (lf_8_1 hL)) rfl rfl (fun _ _ h => C_X9_lowestOldUpTo l E h (lf_7_1 (lf_8_1 hL))) mw531 mw532 mw533 mw17 (gw_ok mw534 rfl) (by decide +kernel) rfl ⟨Nat.le_of_ble_eq_true rfl, Nat.le_of_ble_eq_true rfl⟩ hl.1 rfl (Nat.le_of_ble_eq_true rfl) ⟨Nat.le_refl _, Nat.le_refl _⟩ dX8_sendUp_90 hM (fun σ9 r10 H locs hG hM => ?_)
          refine lv_istore_n (lv' := [(3, .int r10), (0, .ref (E.1 k)), (1, .int p0), (2, .int p1)]) hx hb dX8_sendUp_93 rfl hl (by decide) rfl (fun ls hl => ?_)
          refine lv_iload_n hx hb dX8_sendUp_94 rfl (lv_at hl 0 rfl) ?_
          refine lv_bipush (v := (-4 : Int32)) hx hb dX8_sendUp_95 (by decide) ?_
          refine lv_icmp_eq (tgt := 110) hx hb dX8_sendUp_97 (by decide) (fun c24 => ?_) (fun c24 => ?_)
          · have hM := b_if hM c24
            refine lv_aload_n hx hb dX8_sendUp_110 rfl (lv_at hl 1 rfl) ?_
            refine gt_8_1 X.1 hG hL mw232 dX8_sendUp_111 ?_
            refine gtN_7_1 X.1 hG (lf_8_1 hL) mw166 dX8_sendUp_114 ?_
            refine lv_iload_n hx hb dX8_sendUp_117 rfl (lv_at hl 3 rfl) ?_
            refine g_callV_i (nA := 1) (o := M_X9_isShut σ9 ((k + 4) + 4) p1) (As := [.int p1]) X.1 hG (lf_7_1 (lf_8_1 hL)) rfl rfl (fun _ _ h => C_X9_isShut l E h (lf_7_1 (lf_8_1 hL))) mw536 mw537 mw538 mw17 (gw_ok mw539 rfl) (by decide +kernel) rfl ⟨Nat.le_of_ble_eq_true rfl, Nat.le_of_ble_eq_true rfl⟩ hl.1 rfl (Nat.le_of_ble_eq_true rfl) ⟨Nat.le_refl _, Nat.le_refl _⟩ dX8_sendUp_118 hM (fun σ11 r12 H locs hG hM => ?_)
            refine lv_if_eq (tgt := 144) hx hb dX8_sendUp_121 (by decide) (fun c21 => ?_) (fun c21 => ?_)
            · have hM := b_if hM c21
              refine lv_aload_n hx hb dX8_sendUp_144 rfl (lv_at hl 1 rfl) ?_
              refine gt_8_1 X.1 hG hL mw232 dX8_sendUp_145 ?_
              refine gtN_7_2 X.1 hG (lf_8_1 hL) mw169 dX8_sendUp_148 ?_
              refine lv_iload_n hx hb dX8_sendUp_151 rfl (lv_at hl 2 rfl) ?_
              refine lv_iload_n hx hb dX8_sendUp_152 rfl (lv_at hl 3 rfl) ?_
              refine g_callV_v (nA := 2) (o := M_X1_moveTo σ11 ((k + 4) + 11) p0 p1) (As := [.int p0, .int p1]) X.1 hG (lf_7_2 (lf_8_1 hL)) rfl rfl (fun _ _ h => C_X1_moveTo l E h (lf_7_2 (lf_8_1 hL))) mw550 mw551 mw552 mw18 (gw_ok mw553 rfl) (by decide +kernel) rfl ⟨Nat.le_of_ble_eq_true rfl, Nat.le_of_ble_eq_true rfl⟩ hl.1 rfl (Nat.le_of_ble_eq_true rfl) ⟨Nat.le_refl _, Nat.le_refl _⟩ dX8_sendUp_153 hM (fun σ13 r14 H locs hG hM => ?_)
              refine lv_aload_n hx hb dX8_sendUp_156 rfl (lv_at hl 1 rfl) ?_
              refine gt_8_1 X.1 hG hL mw232 dX8_sendUp_157 ?_
              refine gtN_7_2 X.1 hG (lf_8_1 hL) mw169 dX8_sendUp_160 ?_
              refine lv_iload_n hx hb dX8_sendUp_163 rfl (lv_at hl 3 rfl) ?_
              refine g_callV_i (nA := 1) (o := M_X1_howManyOn σ13 ((k + 4) + 11) p1) (As := [.int p1]) X.1 hG (lf_7_2 (lf_8_1 hL)) rfl rfl (fun _ _ h => C_X1_howManyOn l E h (lf_7_2 (lf_8_1 hL))) mw554 mw555 mw556 mw18 (gw_ok mw557 rfl) (by decide +kernel) rfl ⟨Nat.le_of_ble_eq_true rfl, Nat.le_of_ble_eq_true rfl⟩ hl.1 rfl (Nat.le_of_ble_eq_true rfl) ⟨Nat.le_refl _, Nat.le_refl _⟩ dX8_sendUp_164 hM (fun σ15 r16 H locs hG hM => ?_)
              exact e_iret X hG dX8_sendUp_167 hM
            · have hM := b_else hM c21
              refine lv_aload_n hx hb dX8_sendUp_124 rfl (lv_at hl 1 rfl) ?_
              refine gt_8_0 X.1 hG hL mw229 dX8_sendUp_125 ?_
              refine lv_iload_n hx hb dX8_sendUp_128 rfl (lv_at hl 3 rfl) ?_
              refine lv_aload_n hx hb dX8_sendUp_129 rfl (lv_at hl 1 rfl) ?_
              refine gt_8_1 X.1 hG hL mw232 dX8_sendUp_130 ?_
              refine gtN_7_1 X.1 hG (lf_8_1 hL) mw166 dX8_sendUp_133 ?_
              refine lv_iload_n hx hb dX8_sendUp_136 rfl (lv_at hl 3 rfl) ?_
              refine g_callV_i (nA := 1) (o := M_X9_shutterOf σ11 ((k + 4) + 4) p1) (As := [.int p1]) X.1 hG (lf_7_1 (lf_8_1 hL)) rfl rfl (fun _ _ h => C_X9_shutterOf l E h (lf_7_1 (lf_8_1 hL))) mw544 mw541 mw542 mw17 (gw_ok mw543 rfl) (by decide +kernel) rfl ⟨Nat.le_of_ble_eq_true rfl, Nat.le_of_ble_eq_true rfl⟩ hl.1 rfl (Nat.le_of_ble_eq_true rfl) ⟨Nat.le_refl _, Nat.le_refl _⟩ dX8_sendUp_137 hM (fun σ17 r18 H locs hG hM => ?_)
              refine g_callV_i (nA := 2) (o := M_X6_refuseShut σ17 (k + 1) p1 r18) (As := [.int p1, .int r18]) X.1 hG (lf_8_0 hL) rfl rfl (fun _ _ h => C_X6_refuseShut l E h (lf_8_0 hL)) mw545 mw546 mw547 mw14 (gw_ok mw548 rfl) (by decide +kernel) rfl ⟨Nat.le_of_ble_eq_true rfl, Nat.le_of_ble_eq_true rfl⟩ hl.1 rfl (Nat.le_of_ble_eq_true rfl) ⟨Nat.le_refl _, Nat.le_refl _⟩ dX8_sendUp_140 hM (fun σ19 r20 H locs hG hM => ?_)
              exact e_iret X hG dX8_sendUp_143 hM
          · have hM := b_else hM c24
            refine lv_aload_n hx hb dX8_sendUp_100 rfl (lv_at hl 1 rfl) ?_
            refine gt_8_0 X.1 hG hL mw229 dX8_sendUp_101 ?_
            refine lv_iconst (v := (5 : Int32)) hx hb dX8_sendUp_104 (by decide) ?_
            refine lv_iload_n hx hb dX8_sendUp_105 rfl (lv_at hl 0 rfl) ?_
            refine g_callV_i (nA := 2) (o := M_X6_refuse σ9 (k + 1) (5 : Int32) r10) (As := [.int (5 : Int32), .int r10]) X.1 hG (lf_8_0 hL) rfl rfl (fun _ _ h => C_X6_refuse l E h (lf_8_0 hL)) mw422 mw423 mw424 mw14 (gw_ok mw425 rfl) (by decide +kernel) rfl ⟨Nat.le_of_ble_eq_true rfl, Nat.le_of_ble_eq_true rfl⟩ hl.1 rfl (Nat.le_of_ble_eq_true rfl) ⟨Nat.le_refl _, Nat.le_refl _⟩ dX8_sendUp_106 hM (fun σ22 r23 H locs hG hM => ?_)
            exact e_iret X hG dX8_sendUp_109 hM
        · have hM := b_else hM c27
          refine lv_aload_n hx hb dX8_sendUp_66 rfl (lv_at hl 0 rfl) ?_
          refine gt_8_0 X.1 hG hL mw229 dX8_sendUp_67 ?_
          refine lv_iconst (v := (4 : Int32)) hx hb dX8_sendUp_70 (by decide) ?_
          refine lv_aload_n hx hb dX8_sendUp_71 rfl (lv_at hl 0 rfl) ?_
          refine gt_8_1 X.1 hG hL mw232 dX8_sendUp_72 ?_
          refine gtN_7_5 X.1 hG (lf_8_1 hL) mw177 dX8_sendUp_75 ?_
          refine g_callV_i (nA := 2) (o := M_X6_refuse σ7 (k + 1) (4 : Int32) (σ7 (k + 4) 5)) (As := [.int (4 : Int32), .int (σ7 (k + 4) 5)]) X.1 hG (lf_8_0 hL) rfl rfl (fun _ _ h => C_X6_refuse l E h (lf_8_0 hL)) mw422 mw423 mw424 mw14 (gw_ok mw425 rfl) (by decide +kernel) rfl ⟨Nat.le_of_ble_eq_true rfl, Nat.le_of_ble_eq_true rfl⟩ hl.1 rfl (Nat.le_of_ble_eq_true rfl) ⟨Nat.le_refl _, Nat.le_refl _⟩ dX8_sendUp_78 hM (fun σ25 r26 H locs hG hM => ?_)
          exact e_iret X hG dX8_sendUp_81 hM
      · have hM := b_if hM c30
        refine lv_aload_n hx hb dX8_sendUp_45 rfl (lv_at hl 0 rfl) ?_
        refine gt_8_0 X.1 hG hL mw229 dX8_sendUp_46 ?_
        refine lv_bipush (v := (7 : Int32)) hx hb dX8_sendUp_49 (by decide) ?_
        refine lv_iload_n hx hb dX8_sendUp_51 rfl (lv_at hl 2 rfl) ?_
        refine g_callV_i (nA := 2) (o := M_X6_refuse σ5 (k + 1) (7 : Int32) p1) (As := [.int (7 : Int32), .int p1]) X.1 hG (lf_8_0 hL) rfl rfl (fun _ _ h => C_X6_refuse l E h (lf_8_0 hL)) mw422 mw423 mw424 mw14 (gw_ok mw425 rfl) (by decide +kernel) rfl ⟨Nat.le_of_ble_eq_true rfl, Nat.le_of_ble_eq_true rfl⟩ hl.1 rfl (Nat.le_of_ble_eq_true rfl) ⟨Nat.le_refl _, Nat.le_refl _⟩ dX8_sendUp_52 hM (fun σ28 r29 H locs hG hM => ?_)
        exact e_iret X hG dX8_sendUp_55 hM
    · have hM := b_if hM c31
      refine lv_iconst (v := (-1 : Int32)) hx hb dX8_sendUp_28 (by decide) ?_
      exact e_iret X hG dX8_sendUp_29 hM
