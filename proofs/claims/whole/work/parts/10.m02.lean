def M_X11_where (σ : St) (k : Nat) (p0 : Int32) : Option (St × Int32) := bald σ (k + 1) (((90 : Int32) + ((3 : Int32) * p0)) + (1 : Int32)) fun q1 => some (σ, q1 - (1 : Int32))
set_option maxRecDepth 20000 in
set_option maxHeartbeats 4000000 in
theorem C_X11_where (l : Launch) (E : Ev) {σ σ' : St} {k : Nat} {p0 : Int32} {r : Int32} (h : M_X11_where σ k p0 = some (σ', r)) (hL : lay 11 k) : Mi l E yX11_where cX11_where 2 (some .int) 1 [.ref (E.1 k), .int p0] σ σ' r := by
  refine Mi_of (C := RX11) rfl (by decide) (Nat.le_of_ble_eq_true rfl) (z := (σ', r)) (fun p e s m below meth c ls X hG hl => ?_)
  have hx := X.1.1.1
  have hb := X.1.1.2.1
  have hM := h
  unfold M_X11_where at hM
  generalize (σ', r) = z at hM ⊢
  have hl : lv_has ls 2 [(0, .ref (E.1 k)), (1, .int p0)] := hl
  refine lv_aload_n hx hb dX11_where_0 rfl (lv_at hl 0 rfl) ?_
  refine gt_11_0 X.1 hG hL mw1119 dX11_where_1 ?_
  refine lv_bipush (v := (90 : Int32)) hx hb dX11_where_4 (by decide) ?_
  refine lv_iconst (v := (3 : Int32)) hx hb dX11_where_6 (by decide) ?_
  refine lv_iload_n hx hb dX11_where_7 rfl (lv_at hl 1 rfl) ?_
  refine lv_imul hx hb dX11_where_8 ?_
  refine lv_iadd hx hb dX11_where_9 ?_
  refine lv_iconst (v := (1 : Int32)) hx hb dX11_where_10 (by decide) ?_
  refine lv_iadd hx hb dX11_where_11 ?_
  refine g_ald X.1 hG (lf_11_0 hL) dX11_where_12 hM (fun q1 hM => ?_)
  refine lv_iconst (v := (1 : Int32)) hx hb dX11_where_13 (by decide) ?_
  refine lv_isub hx hb dX11_where_14 ?_
  exact e_iret X hG dX11_where_15 hM
def M_X11_clear (σ : St) (k : Nat)  : Option (St × Int32) := bald σ (k + 1) (0 : Int32) fun q1 => bcall (M_X11_begins σ k) fun σ2 r3 => bput σ2 k 4 (0 : Int32) fun σ4 => some (σ4, q1)
set_option maxRecDepth 20000 in
set_option maxHeartbeats 4000000 in
theorem C_X11_clear (l : Launch) (E : Ev) {σ σ' : St} {k : Nat} {r : Int32} (h : M_X11_clear σ k = some (σ', r)) (hL : lay 11 k) : Mi l E yX11_clear cX11_clear 2 (some .int) 2 [.ref (E.1 k)] σ σ' r := by
  refine Mi_of (C := RX11) rfl (by decide) (Nat.le_of_ble_eq_true rfl) (z := (σ', r)) (fun p e s m below meth c ls X hG hl => ?_)
  have hx := X.1.1.1
  have hb := X.1.1.2.1
  have hM := h
  unfold M_X11_clear at hM
  generalize (σ', r) = z at hM ⊢
  have hl : lv_has ls 2 [(0, .ref (E.1 k))] := hl
  refine lv_aload_n hx hb dX11_clear_0 rfl (lv_at hl 0 rfl) ?_
  refine gt_11_0 X.1 hG hL mw1119 dX11_clear_1 ?_
  refine lv_iconst (v := (0 : Int32)) hx hb dX11_clear_4 (by decide) ?_
  refine g_ald X.1 hG (lf_11_0 hL) dX11_clear_5 hM (fun q1 hM => ?_)
  refine lv_istore_n (lv' := [(1, .int q1), (0, .ref (E.1 k))]) hx hb dX11_clear_6 rfl hl (by decide) rfl (fun ls hl => ?_)
  refine lv_aload_n hx hb dX11_clear_7 rfl (lv_at hl 1 rfl) ?_
  refine g_callV_v (nA := 0) (o := M_X11_begins σ k) (As := []) X.1 hG hL rfl rfl (fun _ _ h => C_X11_begins l E h hL) mw1115 mw1117 mw11 mw62 (gw_ok mw1118 rfl) (by decide +kernel) rfl ⟨Nat.le_of_ble_eq_true rfl, Nat.le_of_ble_eq_true rfl⟩ hl.1 rfl (Nat.le_of_ble_eq_true rfl) ⟨Nat.le_refl _, Nat.le_refl _⟩ dX11_clear_8 hM (fun σ2 r3 H locs hG hM => ?_)
  refine lv_aload_n hx hb dX11_clear_11 rfl (lv_at hl 1 rfl) ?_
  refine lv_iconst (v := (0 : Int32)) hx hb dX11_clear_12 (by decide) ?_
  refine pt_11_4 X.1 hG hL mw1123 dX11_clear_13 hM (fun σ4 H locs hG hM => ?_)
  refine lv_iload_n hx hb dX11_clear_16 rfl (lv_at hl 0 rfl) ?_
  exact e_iret X hG dX11_clear_17 hM
def M_X11_append (σ : St) (k : Nat) (p0 : Int32) : Option (St × Int32) := bcall (M_X11_in σ p0 (32 : Int32) (126 : Int32)) fun σ1 r2 => if r2 = 0 then some (σ1, (-2 : Int32)) else (if (σ1 k 10) = (60 : Int32) then some (σ1, (-2 : Int32)) else (blet (σ1 k 10) fun v3 => bput σ1 k 10 (v3 + (1 : Int32)) fun σ4 => bcast σ4 (k + 7) v3 p0 fun σ5 => some (σ5, σ5 k 10)))
set_option maxRecDepth 20000 in
set_option maxHeartbeats 4000000 in
theorem C_X11_append (l : Launch) (E : Ev) {σ σ' : St} {k : Nat} {p0 : Int32} {r : Int32} (h : M_X11_append σ k p0 = some (σ', r)) (hL : lay 11 k) : Mi l E yX11_append cX11_append 2 (some .int) 2 [.ref (E.1 k), .int p0] σ σ' r := by
  refine Mi_of (C := RX11) rfl (by decide) (Nat.le_of_ble_eq_true rfl) (z := (σ', r)) (fun p e s m below meth c ls X hG hl => ?_)
  have hx := X.1.1.1
  have hb := X.1.1.2.1
  have hM := h
  unfold M_X11_append at hM
  generalize (σ', r) = z at hM ⊢
  have hl : lv_has ls 2 [(0, .ref (E.1 k)), (1, .int p0)] := hl
  refine lv_iload_n hx hb dX11_append_0 rfl (lv_at hl 1 rfl) ?_
  refine lv_bipush (v := (32 : Int32)) hx hb dX11_append_1 (by decide) ?_
  refine lv_bipush (v := (126 : Int32)) hx hb dX11_append_3 (by decide) ?_
  refine g_callS_i (nA := 3) (o := M_X11_in σ p0 (32 : Int32) (126 : Int32)) (As := [.int p0, .int (32 : Int32), .int (126 : Int32)]) X.1 hG (fun _ _ h => C_X11_in l E h ) mw1182 mw1183 mw62 (gw_ok mw1184 rfl) (by decide +kernel) rfl ⟨Nat.le_of_ble_eq_true rfl, Nat.le_of_ble_eq_true rfl⟩ hl.1 rfl (Nat.le_of_ble_eq_true rfl) ⟨Nat.le_refl _, Nat.le_refl _⟩ dX11_append_5 hM (fun σ1 r2 H locs hG hM => ?_)
  refine lv_if_eq (tgt := 20) hx hb dX11_append_8 (by decide) (fun c7 => ?_) (fun c7 => ?_)
  · have hM := b_if hM c7
    refine lv_bipush (v := (-2 : Int32)) hx hb dX11_append_20 (by decide) ?_
    exact e_iret X hG dX11_append_22 hM
  · have hM := b_else hM c7
    refine lv_aload_n hx hb dX11_append_11 rfl (lv_at hl 0 rfl) ?_
    refine gt_11_10 X.1 hG hL mw1129 dX11_append_12 ?_
    refine lv_bipush (v := (60 : Int32)) hx hb dX11_append_15 (by decide) ?_
    refine lv_icmp_ne (tgt := 23) hx hb dX11_append_17 (by decide) (fun c6 => ?_) (fun c6 => ?_)
    · have hM := b_else hM c6
      refine lv_aload_n hx hb dX11_append_23 rfl (lv_at hl 0 rfl) ?_
      refine gt_11_9 X.1 hG hL mw1128 dX11_append_24 ?_
      refine lv_aload_n hx hb dX11_append_27 rfl (lv_at hl 0 rfl) ?_
      refine lv_dup hx hb dX11_append_28 rfl ?_
      refine gt_11_10 X.1 hG hL mw1129 dX11_append_29 ?_
      refine g_name hM (fun v3 hM => ?_)
      refine lv_dup_x1 hx hb dX11_append_32 rfl rfl ?_
      refine lv_iconst (v := (1 : Int32)) hx hb dX11_append_33 (by decide) ?_
      refine lv_iadd hx hb dX11_append_34 ?_
      refine pt_11_10 X.1 hG hL mw1129 dX11_append_35 hM (fun σ4 H locs hG hM => ?_)
      refine lv_iload_n hx hb dX11_append_38 rfl (lv_at hl 1 rfl) ?_
      refine g_cast X.1 hG (lf_11_9 hL) dX11_append_39 hM (fun σ5 H locs hG hM => ?_)
      refine lv_aload_n hx hb dX11_append_40 rfl (lv_at hl 0 rfl) ?_
      refine gt_11_10 X.1 hG hL mw1129 dX11_append_41 ?_
      exact e_iret X hG dX11_append_44 hM
    · have hM := b_if hM c6
      refine lv_bipush (v := (-2 : Int32)) hx hb dX11_append_20 (by decide) ?_
      exact e_iret X hG dX11_append_22 hM
def M_X11_bundle (σ : St) (k : Nat) (p0 p1 : Int32) : Option (St × Int32) := bcall (M_X11_tries σ k) fun σ1 r2 => bcall (M_X11_in σ1 p0 (1 : Int32) (30 : Int32)) fun σ3 r4 => if r4 = 0 then some (σ3, (-2 : Int32)) else (bcall (M_X11_in σ3 p1 (0 : Int32) (60 : Int32)) fun σ5 r6 => if r6 = 0 then some (σ5, (-2 : Int32)) else (bald σ5 (k + 1) (2 : Int32) fun q7 => if q7 = (8 : Int32) then (bcall (M_X11_refuses σ5 k (1 : Int32) (8 : Int32)) fun σ14 r15 => some (σ14, r15)) else (bald σ5 (k + 1) (2 : Int32) fun q8 => bast σ5 (k + 1) (2 : Int32) (q8 + (1 : Int32)) fun σ9 => bast σ9 (k + 1) ((14 : Int32) + ((2 : Int32) * q7)) p0 fun σ10 => bast σ10 (k + 1) (((14 : Int32) + ((2 : Int32) * q7)) + (1 : Int32)) p1 fun σ11 => bcall (M_X11_keeps σ11 k q7) fun σ12 r13 => some (σ12, r13))))
set_option maxRecDepth 20000 in
set_option maxHeartbeats 4000000 in
theorem C_X11_bundle (l : Launch) (E : Ev) {σ σ' : St} {k : Nat} {p0 : Int32} {p1 : Int32} {r : Int32} (h : M_X11_bundle σ k p0 p1 = some (σ', r)) (hL : lay 11 k) : Mi l E yX11_bundle cX11_bundle 4 (some .int) 2 [.ref (E.1 k), .int p0, .int p1] σ σ' r := by
  refine Mi_of (C := RX11) rfl (by decide) (Nat.le_of_ble_eq_true rfl) (z := (σ', r)) (fun p e s m below meth c ls X hG hl => ?_)
  have hx := X.1.1.1
  have hb := X.1.1.2.1
  have hM := h
  unfold M_X11_bundle at hM
  generalize (σ', r) = z at hM ⊢
  have hl : lv_has ls 4 [(0, .ref (E.1 k)), (1, .int p0), (2, .int p1)] := hl
  refine lv_aload_n hx hb dX11_bundle_0 rfl (lv_at hl 0 rfl) ?_
  refine g_callV_v (nA := 0) (o := M_X11_tries σ k) (As := []) X.1 hG hL rfl rfl (fun _ _ h => C_X11_tries l E h hL) mw1189 mw1191 mw12 mw62 (gw_ok mw1192 rfl) (by decide +kernel) rfl ⟨Nat.le_of_ble_eq_true rfl, Nat.le_of_ble_eq_true rfl⟩ hl.1 rfl (Nat.le_of_ble_eq_true rfl) ⟨Nat.le_refl _, Nat.le_refl _⟩ dX11_bundle_1 hM (fun σ1 r2 H locs hG hM => ?_)
  refine lv_iload_n hx hb dX11_bundle_4 rfl (lv_at hl 1 rfl) ?_
  refine lv_iconst (v := (1 : Int32)) hx hb dX11_bundle_5 (by decide) ?_
  refine lv_bipush (v := (30 : Int32)) hx hb dX11_bundle_6 (by decide) ?_
  refine g_callS_i (nA := 3) (o := M_X11_in σ1 p0 (1 : Int32) (30 : Int32)) (As := [.int p0, .int (1 : Int32), .int (30 : Int32)]) X.1 hG (fun _ _ h => C_X11_in l E h ) mw1182 mw1183 mw62 (gw_ok mw1184 rfl) (by decide +kernel) rfl ⟨Nat.le_of_ble_eq_true rfl, Nat.le_of_ble_eq_true rfl⟩ hl.1 rfl (Nat.le_of_ble_eq_true rfl) ⟨Nat.le_refl _, Nat.le_refl _⟩ dX11_bundle_8 hM (fun σ3 r4 H locs hG hM => ?_)
  refine lv_if_eq (tgt := 24) hx hb dX11_bundle_11 (by decide) (fun c18 => ?_) (fun c18 => ?_)
  · have hM := b_if hM c18
    refine lv_bipush (v := (-2 : Int32)) hx hb dX11_bundle_24 (by decide) ?_
    exact e_iret X hG dX11_bundle_26 hM
  · have hM := b_else hM c18
    refine lv_iload_n hx hb dX11_bundle_14 rfl (lv_at hl 2 rfl) ?_
    refine lv_iconst (v := (0 : Int32)) hx hb dX11_bundle_15 (by decide) ?_
    refine lv_bipush (v := (60 : Int32)) hx hb dX11_bundle_16 (by decide) ?_
    refine g_callS_i (nA := 3) (o := M_X11_in σ3 p1 (0 : Int32) (60 : Int32)) (As := [.int p1, .int (0 : Int32), .int (60 : Int32)]) X.1 hG (fun _ _ h => C_X11_in l E h ) mw1182 mw1183 mw62 (gw_ok mw1184 rfl) (by decide +kernel) rfl ⟨Nat.le_of_ble_eq_true rfl, Nat.le_of_ble_eq_true rfl⟩ hl.1 rfl (Nat.le_of_ble_eq_true rfl) ⟨Nat.le_refl _, Nat.le_refl _⟩ dX11_bundle_18 hM (fun σ5 r6 H locs hG hM => ?_)
    refine lv_if_ne (tgt := 27) hx hb dX11_bundle_21 (by decide) (fun c17 => ?_) (fun c17 => ?_)
    · have hM := b_else hM c17
      refine lv_aload_n hx hb dX11_bundle_27 rfl (lv_at hl 0 rfl) ?_
      refine gt_11_0 X.1 hG hL mw1119 dX11_bundle_28 ?_
      refine lv_iconst (v := (2 : Int32)) hx hb dX11_bundle_31 (by decide) ?_
      refine g_ald X.1 hG (lf_11_0 hL) dX11_bundle_32 hM (fun q7 hM => ?_)
      refine lv_istore_n (lv' := [(3, .int q7), (0, .ref (E.1 k)), (1, .int p0), (2, .int p1)]) hx hb dX11_bundle_33 rfl hl (by decide) rfl (fun ls hl => ?_)
      refine lv_iload_n hx hb dX11_bundle_34 rfl (lv_at hl 0 rfl) ?_
      refine lv_bipush (v := (8 : Int32)) hx hb dX11_bundle_35 (by decide) ?_
      refine lv_icmp_ne (tgt := 48) hx hb dX11_bundle_37 (by decide) (fun c16 => ?_) (fun c16 => ?_)
      · have hM := b_else hM c16
        refine lv_aload_n hx hb dX11_bundle_48 rfl (lv_at hl 1 rfl) ?_
        refine gt_11_0 X.1 hG hL mw1119 dX11_bundle_49 ?_
        refine lv_iconst (v := (2 : Int32)) hx hb dX11_bundle_52 (by decide) ?_
        refine lv_dup2_11 hx hb dX11_bundle_53 rfl rfl ?_
        refine g_ald X.1 hG (lf_11_0 hL) dX11_bundle_54 hM (fun q8 hM => ?_)
        refine lv_iconst (v := (1 : Int32)) hx hb dX11_bundle_55 (by decide) ?_
        refine lv_iadd hx hb dX11_bundle_56 ?_
        refine g_ast X.1 hG (lf_11_0 hL) dX11_bundle_57 hM (fun σ9 H locs hG hM => ?_)
        refine lv_aload_n hx hb dX11_bundle_58 rfl (lv_at hl 1 rfl) ?_
        refine gt_11_0 X.1 hG hL mw1119 dX11_bundle_59 ?_
        refine lv_bipush (v := (14 : Int32)) hx hb dX11_bundle_62 (by decide) ?_
        refine lv_iconst (v := (2 : Int32)) hx hb dX11_bundle_64 (by decide) ?_
        refine lv_iload_n hx hb dX11_bundle_65 rfl (lv_at hl 0 rfl) ?_
        refine lv_imul hx hb dX11_bundle_66 ?_
        refine lv_iadd hx hb dX11_bundle_67 ?_
        refine lv_iload_n hx hb dX11_bundle_68 rfl (lv_at hl 2 rfl) ?_
        refine g_ast X.1 hG (lf_11_0 hL) dX11_bundle_69 hM (fun σ10 H locs hG hM => ?_)
        refine lv_aload_n hx hb dX11_bundle_70 rfl (lv_at hl 1 rfl) ?_
        refine gt_11_0 X.1 hG hL mw1119 dX11_bundle_71 ?_
        refine lv_bipush (v := (14 : Int32)) hx hb dX11_bundle_74 (by decide) ?_
        refine lv_iconst (v := (2 : Int32)) hx hb dX11_bundle_76 (by decide) ?_
        refine lv_iload_n hx hb dX11_bundle_77 rfl (lv_at hl 0 rfl) ?_
        refine lv_imul hx hb dX11_bundle_78 ?_
        refine lv_iadd hx hb dX11_bundle_79 ?_
        refine lv_iconst (v := (1 : Int32)) hx hb dX11_bundle_80 (by decide) ?_
        refine lv_iadd hx hb dX11_bundle_81 ?_
        refine lv_iload_n hx hb dX11_bundle_82 rfl (lv_at hl 3 rfl) ?_
        refine g_ast X.1 hG (lf_11_0 hL) dX11_bundle_83 hM (fun σ11 H locs hG hM => ?_)
        refine lv_aload_n hx hb dX11_bundle_84 rfl (lv_at hl 1 rfl) ?_
        refine lv_iload_n hx hb dX11_bundle_85 rfl (lv_at hl 0 rfl) ?_
        refine g_callV_i (nA := 1) (o := M_X11_keeps σ11 k q7) (As := [.int q7]) X.1 hG hL rfl rfl (fun _ _ h => C_X11_keeps l E h hL) mw1197 mw1199 mw14 mw62 (gw_ok mw1200 rfl) (by decide +kernel) rfl ⟨Nat.le_of_ble_eq_true rfl, Nat.le_of_ble_eq_true rfl⟩ hl.1 rfl (Nat.le_of_ble_eq_true rfl) ⟨Nat.le_refl _, Nat.le_refl _⟩ dX11_bundle_86 hM (fun σ12 r13 H locs hG hM => ?_)
        exact e_iret X hG dX11_bundle_89 hM
      · have hM := b_if hM c16
        refine lv_aload_n hx hb dX11_bundle_40 rfl (lv_at hl 1 rfl) ?_
        refine lv_iconst (v := (1 : Int32)) hx hb dX11_bundle_41 (by decide) ?_
        refine lv_bipush (v := (8 : Int32)) hx hb dX11_bundle_42 (by decide) ?_
        refine g_callV_i (nA := 2) (o := M_X11_refuses σ5 k (1 : Int32) (8 : Int32)) (As := [.int (1 : Int32), .int (8 : Int32)]) X.1 hG hL rfl rfl (fun _ _ h => C_X11_refuses l E h hL) mw1193 mw1195 mw13 mw62 (gw_ok mw1196 rfl) (by decide +kernel) rfl ⟨Nat.le_of_ble_eq_true rfl, Nat.le_of_ble_eq_true rfl⟩ hl.1 rfl (Nat.le_of_ble_eq_true rfl) ⟨Nat.le_refl _, Nat.le_refl _⟩ dX11_bundle_44 hM (fun σ14 r15 H locs hG hM => ?_)
        exact e_iret X hG dX11_bundle_47 hM
    · have hM := b_if hM c17
      refine lv_bipush (v := (-2 : Int32)) hx hb dX11_bundle_24 (by decide) ?_
      exact e_iret X hG dX11_bundle_26 hM
def M_X11_strips (σ : St) (k : Nat) (p0 : Int32) : Option (St × Int32) := bcall (M_X11_tries σ k) fun σ1 r2 => bcall (M_X11_in σ1 p0 (1 : Int32) (99 : Int32)) fun σ3 r4 => if r4 = 0 then some (σ3, (-2 : Int32)) else (bald σ3 (k + 1) (6 : Int32) fun q5 => blet (imin (200 : Int32) (q5 + p0)) fun v6 => bast σ3 (k + 1) (6 : Int32) v6 fun σ7 => bald σ7 (k + 1) (6 : Int32) fun q8 => bcall (M_X11_keeps σ7 k q8) fun σ9 r10 => some (σ9, r10))
set_option maxRecDepth 20000 in
set_option maxHeartbeats 4000000 in
theorem C_X11_strips (l : Launch) (E : Ev) {σ σ' : St} {k : Nat} {p0 : Int32} {r : Int32} (h : M_X11_strips σ k p0 = some (σ', r)) (hL : lay 11 k) : Mi l E yX11_strips cX11_strips 2 (some .int) 2 [.ref (E.1 k), .int p0] σ σ' r := by
  refine Mi_of (C := RX11) rfl (by decide) (Nat.le_of_ble_eq_true rfl) (z := (σ', r)) (fun p e s m below meth c ls X hG hl => ?_)
  have hx := X.1.1.1
  have hb := X.1.1.2.1
  have hM := h
  unfold M_X11_strips at hM
  generalize (σ', r) = z at hM ⊢
  have hl : lv_has ls 2 [(0, .ref (E.1 k)), (1, .int p0)] := hl
  refine lv_aload_n hx hb dX11_strips_0 rfl (lv_at hl 0 rfl) ?_
  refine g_callV_v (nA := 0) (o := M_X11_tries σ k) (As := []) X.1 hG hL rfl rfl (fun _ _ h => C_X11_tries l E h hL) mw1189 mw1191 mw12 mw62 (gw_ok mw1192 rfl) (by decide +kernel) rfl ⟨Nat.le_of_ble_eq_true rfl, Nat.le_of_ble_eq_true rfl⟩ hl.1 rfl (Nat.le_of_ble_eq_true rfl) ⟨Nat.le_refl _, Nat.le_refl _⟩ dX11_strips_1 hM (fun σ1 r2 H locs hG hM => ?_)
  refine lv_iload_n hx hb dX11_strips_4 rfl (lv_at hl 1 rfl) ?_
  refine lv_iconst (v := (1 : Int32)) hx hb dX11_strips_5 (by decide) ?_
  refine lv_bipush (v := (99 : Int32)) hx hb dX11_strips_6 (by decide) ?_
  refine g_callS_i (nA := 3) (o := M_X11_in σ1 p0 (1 : Int32) (99 : Int32)) (As := [.int p0, .int (1 : Int32), .int (99 : Int32)]) X.1 hG (fun _ _ h => C_X11_in l E h ) mw1182 mw1183 mw62 (gw_ok mw1184 rfl) (by decide +kernel) rfl ⟨Nat.le_of_ble_eq_true rfl, Nat.le_of_ble_eq_true rfl⟩ hl.1 rfl (Nat.le_of_ble_eq_true rfl) ⟨Nat.le_refl _, Nat.le_refl _⟩ dX11_strips_8 hM (fun σ3 r4 H locs hG hM => ?_)
  refine lv_if_ne (tgt := 17) hx hb dX11_strips_11 (by decide) (fun c11 => ?_) (fun c11 => ?_)
  · have hM := b_else hM c11
    refine lv_aload_n hx hb dX11_strips_17 rfl (lv_at hl 0 rfl) ?_
    refine gt_11_0 X.1 hG hL mw1119 dX11_strips_18 ?_
    refine lv_bipush (v := (6 : Int32)) hx hb dX11_strips_21 (by decide) ?_
    refine lv_sipush (v := (200 : Int32)) hx hb dX11_strips_23 (by decide) ?_
    refine lv_aload_n hx hb dX11_strips_26 rfl (lv_at hl 0 rfl) ?_
    refine gt_11_0 X.1 hG hL mw1119 dX11_strips_27 ?_
    refine lv_bipush (v := (6 : Int32)) hx hb dX11_strips_30 (by decide) ?_
    refine g_ald X.1 hG (lf_11_0 hL) dX11_strips_32 hM (fun q5 hM => ?_)
    refine lv_iload_n hx hb dX11_strips_33 rfl (lv_at hl 1 rfl) ?_
    refine lv_iadd hx hb dX11_strips_34 ?_
    refine g_min X.1 hl.1 mw1205 (Nat.le_of_ble_eq_true rfl) (Nat.le_of_ble_eq_true rfl) (Nat.le_of_ble_eq_true rfl) (Nat.le_of_ble_eq_true rfl) dX11_strips_35 hM (fun v6 hM => ?_)
    refine g_ast X.1 hG (lf_11_0 hL) dX11_strips_38 hM (fun σ7 H locs hG hM => ?_)
    refine lv_aload_n hx hb dX11_strips_39 rfl (lv_at hl 0 rfl) ?_
    refine lv_aload_n hx hb dX11_strips_40 rfl (lv_at hl 0 rfl) ?_
    refine gt_11_0 X.1 hG hL mw1119 dX11_strips_41 ?_
    refine lv_bipush (v := (6 : Int32)) hx hb dX11_strips_44 (by decide) ?_
    refine g_ald X.1 hG (lf_11_0 hL) dX11_strips_46 hM (fun q8 hM => ?_)
    refine g_callV_i (nA := 1) (o := M_X11_keeps σ7 k q8) (As := [.int q8]) X.1 hG hL rfl rfl (fun _ _ h => C_X11_keeps l E h hL) mw1197 mw1199 mw14 mw62 (gw_ok mw1200 rfl) (by decide +kernel) rfl ⟨Nat.le_of_ble_eq_true rfl, Nat.le_of_ble_eq_true rfl⟩ hl.1 rfl (Nat.le_of_ble_eq_true rfl) ⟨Nat.le_refl _, Nat.le_refl _⟩ dX11_strips_47 hM (fun σ9 r10 H locs hG hM => ?_)
    exact e_iret X hG dX11_strips_50 hM
  · have hM := b_if hM c11
    refine lv_bipush (v := (-2 : Int32)) hx hb dX11_strips_14 (by decide) ?_
    exact e_iret X hG dX11_strips_16 hM
def B_X11_builds_192  : Nat → St → Nat → Int32 → Int32 → Int32 → Int32 → Int32 → Option (St × Int32)
  | 0, _, _, _, _, _, _, _ => none
  | n + 1, σ, k, x1, x2, x3, x4, x5 => if (6 : Int32) ≤ x5 then (bcall (M_X11_sets σ k x4 (0 : Int32) x2) fun σ19 r20 => bald σ19 (k + 1) (((14 : Int32) + ((2 : Int32) * x1)) + (1 : Int32)) fun q21 => bcall (M_X11_sets σ19 k x4 (1 : Int32) q21) fun σ22 r23 => bcall (M_X11_sets σ22 k x4 (3 : Int32) x3) fun σ24 r25 => bcall (M_X11_does σ24 k x4) fun σ26 r27 => some (σ26, r27)) else (bcall (M_X11_sets σ k x4 x5 (0 : Int32)) fun σ28 r29 => blet (x5 + (1 : Int32)) fun v30 => B_X11_builds_192 n σ28 k x1 x2 x3 x4 v30)
def M_X11_builds (σ : St) (k : Nat) (p0 p1 p2 : Int32) : Option (St × Int32) := bcall (M_X11_isBundle σ k p0) fun σ1 r2 => if r2 = 0 then some (σ1, (-1 : Int32)) else (bcall (M_X11_in σ1 p1 (4 : Int32) (8 : Int32)) fun σ3 r4 => if r4 = 0 then some (σ3, (-2 : Int32)) else (bcall (M_X11_in σ3 p2 (0 : Int32) (40 : Int32)) fun σ5 r6 => if r6 = 0 then some (σ5, (-2 : Int32)) else (bald σ5 (k + 1) (3 : Int32) fun q7 => if q7 = (10 : Int32) then (bcall (M_X11_refuses σ5 k (1 : Int32) (10 : Int32)) fun σ44 r45 => some (σ44, r45)) else (bald σ5 (k + 1) (1 : Int32) fun q8 => if q8 < (3 : Int32) then (bald σ5 (k + 1) ((14 : Int32) + ((2 : Int32) * p0)) fun q9 => if p1 ≤ q9 then (bald σ5 (k + 1) (6 : Int32) fun q10 => if ((2 : Int32) * p1) ≤ q10 then (bald σ5 (k + 1) ((14 : Int32) + ((2 : Int32) * p0)) fun q11 => bast σ5 (k + 1) ((14 : Int32) + ((2 : Int32) * p0)) (q11 - p1) fun σ12 => bald σ12 (k + 1) (6 : Int32) fun q13 => bast σ12 (k + 1) (6 : Int32) (q13 - ((2 : Int32) * p1)) fun σ14 => bald σ14 (k + 1) (12 : Int32) fun q15 => bast σ14 (k + 1) (12 : Int32) (q15 + p2) fun σ16 => bald σ16 (k + 1) (3 : Int32) fun q17 => bast σ16 (k + 1) (3 : Int32) (q17 + (1 : Int32)) fun σ18 => B_X11_builds_192 FU σ18 k p0 p1 p2 q7 (0 : Int32)) else (bald σ5 (k + 1) (6 : Int32) fun q32 => bcall (M_X11_refuses σ5 k (3 : Int32) (((2 : Int32) * p1) - q32)) fun σ33 r34 => some (σ33, r34))) else (bald σ5 (k + 1) ((14 : Int32) + ((2 : Int32) * p0)) fun q36 => bcall (M_X11_refuses σ5 k (2 : Int32) q36) fun σ37 r38 => some (σ37, r38))) else (bald σ5 (k + 1) (1 : Int32) fun q40 => bcall (M_X11_refuses σ5 k (4 : Int32) q40) fun σ41 r42 => some (σ41, r42))))))
set_option maxRecDepth 20000 in
set_option maxHeartbeats 4000000 in
theorem w_X11_builds_192 {p : Program} {l : Launch} {e : Env} {s : State} {m : MethodId} {below : List Frame} {meth : Method} {c : Code} {args : Array Value} {E : Ev} {k : Nat} (X : Bx E p m meth c cX11_builds 6 (some .int) s args RX11) (hL : lay 11 k) : ∀ (n : Nat) (σ : St) (x1 x2 x3 x4 x5 : Int32) (H : Heap) (locs : List Loc) (ls : Array Slot) (z : St × Int32), GS E σ s.heap H locs → lv_has ls 6 [(0, .ref (E.1 k)), (1, .int x1), (2, .int x2), (3, .int x3), (4, .int x4), (5, .int x5)] → B_X11_builds_192 n σ k x1 x2 x3 x4 x5 = some z → W p l e (rmd 3) s m args below meth c H locs 0 0 (QI E z below args s) (F0 m 192 ls []) := by
  have hx := X.1.1.1
  have hb := X.1.1.2.1
  intro n
  induction n with
  | zero => intro σ x1 x2 x3 x4 x5 H locs ls z  hG hl hM; cases hM
  | succ n ih =>
    intro σ x1 x2 x3 x4 x5 H locs ls z  hG hl hM
    unfold B_X11_builds_192 at hM
    refine lv_iload hx hb dX11_builds_192 (lv_at hl 5 rfl) ?_
    refine lv_bipush (v := (6 : Int32)) hx hb dX11_builds_194 (by decide) ?_
    refine lv_icmp_ge (tgt := 214) hx hb dX11_builds_196 (by decide) (fun c31 => ?_) (fun c31 => ?_)
    · have hM := b_if hM c31
      refine lv_aload_n hx hb dX11_builds_214 rfl (lv_at hl 0 rfl) ?_
      refine lv_iload hx hb dX11_builds_215 (lv_at hl 4 rfl) ?_
      refine lv_iconst (v := (0 : Int32)) hx hb dX11_builds_217 (by decide) ?_
      refine lv_iload_n hx hb dX11_builds_218 rfl (lv_at hl 2 rfl) ?_
      refine g_callV_v (nA := 3) (o := M_X11_sets σ k x4 (0 : Int32) x2) (As := [.int x4, .int (0 : Int32), .int x2]) X.1 hG hL rfl rfl (fun _ _ h => C_X11_sets l E h hL) mw1218 mw1220 mw17 mw62 (gw_ok mw1221 rfl) (by decide +kernel) rfl ⟨Nat.le_of_ble_eq_true rfl, Nat.le_of_ble_eq_true rfl⟩ hl.1 rfl (Nat.le_of_ble_eq_true rfl) ⟨Nat.le_refl _, Nat.le_refl _⟩ dX11_builds_219 hM (fun σ19 r20 H locs hG hM => ?_)
      refine lv_aload_n hx hb dX11_builds_222 rfl (lv_at hl 0 rfl) ?_
      refine lv_iload hx hb dX11_builds_223 (lv_at hl 4 rfl) ?_
      refine lv_iconst (v := (1 : Int32)) hx hb dX11_builds_225 (by decide) ?_
      refine lv_aload_n hx hb dX11_builds_226 rfl (lv_at hl 0 rfl) ?_
      refine gt_11_0 X.1 hG hL mw1119 dX11_builds_227 ?_
      refine lv_bipush (v := (14 : Int32)) hx hb dX11_builds_230 (by decide) ?_
      refine lv_iconst (v := (2 : Int32)) hx hb dX11_builds_232 (by decide) ?_
      refine lv_iload_n hx hb dX11_builds_233 rfl (lv_at hl 1 rfl) ?_
      refine lv_imul hx hb dX11_builds_234 ?_
      refine lv_iadd hx hb dX11_builds_235 ?_
      refine lv_iconst (v := (1 : Int32)) hx hb dX11_builds_236 (by decide) ?_
      refine lv_iadd hx hb dX11_builds_237 ?_
      refine g_ald X.1 hG (lf_11_0 hL) dX11_builds_238 hM (fun q21 hM => ?_)
      refine g_callV_v (nA := 3) (o := M_X11_sets σ19 k x4 (1 : Int32) q21) (As := [.int x4, .int (1 : Int32), .int q21]) X.1 hG hL rfl rfl (fun _ _ h => C_X11_sets l E h hL) mw1218 mw1220 mw17 mw62 (gw_ok mw1221 rfl) (by decide +kernel) rfl ⟨Nat.le_of_ble_eq_true rfl, Nat.le_of_ble_eq_true rfl⟩ hl.1 rfl (Nat.le_of_ble_eq_true rfl) ⟨Nat.le_refl _, Nat.le_refl _⟩ dX11_builds_239 hM (fun σ22 r23 H locs hG hM => ?_)
      refine lv_aload_n hx hb dX11_builds_242 rfl (lv_at hl 0 rfl) ?_
      refine lv_iload hx hb dX11_builds_243 (lv_at hl 4 rfl) ?_
      refine lv_iconst (v := (3 : Int32)) hx hb dX11_builds_245 (by decide) ?_
      refine lv_iload_n hx hb dX11_builds_246 rfl (lv_at hl 3 rfl) ?_
      refine g_callV_v (nA := 3) (o := M_X11_sets σ22 k x4 (3 : Int32) x3) (As := [.int x4, .int (3 : Int32), .int x3]) X.1 hG hL rfl rfl (fun _ _ h => C_X11_sets l E h hL) mw1218 mw1220 mw17 mw62 (gw_ok mw1221 rfl) (by decide +kernel) rfl ⟨Nat.le_of_ble_eq_true rfl, Nat.le_of_ble_eq_true rfl⟩ hl.1 rfl (Nat.le_of_ble_eq_true rfl) ⟨Nat.le_refl _, Nat.le_refl _⟩ dX11_builds_247 hM (fun σ24 r25 H locs hG hM => ?_)
      refine lv_aload_n hx hb dX11_builds_250 rfl (lv_at hl 0 rfl) ?_
      refine lv_iload hx hb dX11_builds_251 (lv_at hl 4 rfl) ?_
      refine g_callV_i (nA := 1) (o := M_X11_does σ24 k x4) (As := [.int x4]) X.1 hG hL rfl rfl (fun _ _ h => C_X11_does l E h hL) mw1222 mw1224 mw18 mw62 (gw_ok mw1225 rfl) (by decide +kernel) rfl ⟨Nat.le_of_ble_eq_true rfl, Nat.le_of_ble_eq_true rfl⟩ hl.1 rfl (Nat.le_of_ble_eq_true rfl) ⟨Nat.le_refl _, Nat.le_refl _⟩ dX11_builds_253 hM (fun σ26 r27 H locs hG hM => ?_)
      exact e_iret X hG dX11_builds_256 hM
    · have hM := b_else hM c31
      refine lv_aload_n hx hb dX11_builds_199 rfl (lv_at hl 0 rfl) ?_
      refine lv_iload hx hb dX11_builds_200 (lv_at hl 4 rfl) ?_
      refine lv_iload hx hb dX11_builds_202 (lv_at hl 5 rfl) ?_
      refine lv_iconst (v := (0 : Int32)) hx hb dX11_builds_204 (by decide) ?_
      refine g_callV_v (nA := 3) (o := M_X11_sets σ k x4 x5 (0 : Int32)) (As := [.int x4, .int x5, .int (0 : Int32)]) X.1 hG hL rfl rfl (fun _ _ h => C_X11_sets l E h hL) mw1218 mw1220 mw17 mw62 (gw_ok mw1221 rfl) (by decide +kernel) rfl ⟨Nat.le_of_ble_eq_true rfl, Nat.le_of_ble_eq_true rfl⟩ hl.1 rfl (Nat.le_of_ble_eq_true rfl) ⟨Nat.le_refl _, Nat.le_refl _⟩ dX11_builds_205 hM (fun σ28 r29 H locs hG hM => ?_)
      obtain ⟨v30, ev30, hM⟩ := g_nm hM
      refine lv_iinc (v := v30) (lv' := [(5, .int v30), (0, .ref (E.1 k)), (1, .int x1), (2, .int x2), (3, .int x3), (4, .int x4)]) hx hb dX11_builds_208 hl (k := 5) rfl (by rw [ev30]; rfl) (by decide) rfl (fun ls hl => ?_)
      refine lv_goto (tgt := 192) hx hb dX11_builds_211 (by decide) ?_
      exact ih σ28 x1 x2 x3 x4 v30 _ _ _ z hG (lv_sub hl [1, 2, 3, 4, 5, 0] rfl) hM
set_option maxRecDepth 20000 in
set_option maxHeartbeats 4000000 in
theorem C_X11_builds (l : Launch) (E : Ev) {σ σ' : St} {k : Nat} {p0 : Int32} {p1 : Int32} {p2 : Int32} {r : Int32} (h : M_X11_builds σ k p0 p1 p2 = some (σ', r)) (hL : lay 11 k) : Mi l E yX11_builds cX11_builds 6 (some .int) 3 [.ref (E.1 k), .int p0, .int p1, .int p2] σ σ' r := by
  refine Mi_of (C := RX11) rfl (by decide) (Nat.le_of_ble_eq_true rfl) (z := (σ', r)) (fun p e s m below meth c ls X hG hl => ?_)
  have hx := X.1.1.1
  have hb := X.1.1.2.1
  have hM := h
  unfold M_X11_builds at hM
  generalize (σ', r) = z at hM ⊢
  have hl : lv_has ls 6 [(0, .ref (E.1 k)), (1, .int p0), (2, .int p1), (3, .int p2)] := hl
  refine lv_aload_n hx hb dX11_builds_0 rfl (lv_at hl 0 rfl) ?_
  refine lv_iload_n hx hb dX11_builds_1 rfl (lv_at hl 1 rfl) ?_
  refine g_callV_i (nA := 1) (o := M_X11_isBundle σ k p0) (As := [.int p0]) X.1 hG hL rfl rfl (fun _ _ h => C_X11_isBundle l E h hL) mw1214 mw1216 mw16 mw62 (gw_ok mw1217 rfl) (by decide +kernel) rfl ⟨Nat.le_of_ble_eq_true rfl, Nat.le_of_ble_eq_true rfl⟩ hl.1 rfl (Nat.le_of_ble_eq_true rfl) ⟨Nat.le_refl _, Nat.le_refl _⟩ dX11_builds_2 hM (fun σ1 r2 H locs hG hM => ?_)
  refine lv_if_ne (tgt := 10) hx hb dX11_builds_5 (by decide) (fun c49 => ?_) (fun c49 => ?_)
  · have hM := b_else hM c49
    refine lv_iload_n hx hb dX11_builds_10 rfl (lv_at hl 2 rfl) ?_
    refine lv_iconst (v := (4 : Int32)) hx hb dX11_builds_11 (by decide) ?_
    refine lv_bipush (v := (8 : Int32)) hx hb dX11_builds_12 (by decide) ?_
    refine g_callS_i (nA := 3) (o := M_X11_in σ1 p1 (4 : Int32) (8 : Int32)) (As := [.int p1, .int (4 : Int32), .int (8 : Int32)]) X.1 hG (fun _ _ h => C_X11_in l E h ) mw1182 mw1183 mw62 (gw_ok mw1184 rfl) (by decide +kernel) rfl ⟨Nat.le_of_ble_eq_true rfl, Nat.le_of_ble_eq_true rfl⟩ hl.1 rfl (Nat.le_of_ble_eq_true rfl) ⟨Nat.le_refl _, Nat.le_refl _⟩ dX11_builds_14 hM (fun σ3 r4 H locs hG hM => ?_)
    refine lv_if_eq (tgt := 30) hx hb dX11_builds_17 (by decide) (fun c48 => ?_) (fun c48 => ?_)
    · have hM := b_if hM c48
      refine lv_bipush (v := (-2 : Int32)) hx hb dX11_builds_30 (by decide) ?_
      exact e_iret X hG dX11_builds_32 hM
    · have hM := b_else hM c48
      refine lv_iload_n hx hb dX11_builds_20 rfl (lv_at hl 3 rfl) ?_
      refine lv_iconst (v := (0 : Int32)) hx hb dX11_builds_21 (by decide) ?_
      refine lv_bipush (v := (40 : Int32)) hx hb dX11_builds_22 (by decide) ?_
      refine g_callS_i (nA := 3) (o := M_X11_in σ3 p2 (0 : Int32) (40 : Int32)) (As := [.int p2, .int (0 : Int32), .int (40 : Int32)]) X.1 hG (fun _ _ h => C_X11_in l E h ) mw1182 mw1183 mw62 (gw_ok mw1184 rfl) (by decide +kernel) rfl ⟨Nat.le_of_ble_eq_true rfl, Nat.le_of_ble_eq_true rfl⟩ hl.1 rfl (Nat.le_of_ble_eq_true rfl) ⟨Nat.le_refl _, Nat.le_refl _⟩ dX11_builds_24 hM (fun σ5 r6 H locs hG hM => ?_)
      refine lv_if_ne (tgt := 33) hx hb dX11_builds_27 (by decide) (fun c47 => ?_) (fun c47 => ?_)
      · have hM := b_else hM c47
        refine lv_aload_n hx hb dX11_builds_33 rfl (lv_at hl 0 rfl) ?_
        refine gt_11_0 X.1 hG hL mw1119 dX11_builds_34 ?_
        refine lv_iconst (v := (3 : Int32)) hx hb dX11_builds_37 (by decide) ?_
        refine g_ald X.1 hG (lf_11_0 hL) dX11_builds_38 hM (fun q7 hM => ?_)
        refine lv_istore (lv' := [(4, .int q7), (0, .ref (E.1 k)), (1, .int p0), (2, .int p1), (3, .int p2)]) hx hb dX11_builds_39 hl (by decide) rfl (fun ls hl => ?_)
        refine lv_iload hx hb dX11_builds_41 (lv_at hl 0 rfl) ?_
        refine lv_bipush (v := (10 : Int32)) hx hb dX11_builds_43 (by decide) ?_
        refine lv_icmp_ne (tgt := 56) hx hb dX11_builds_45 (by decide) (fun c46 => ?_) (fun c46 => ?_)
        · have hM := b_else hM c46
          refine lv_aload_n hx hb dX11_builds_56 rfl (lv_at hl 1 rfl) ?_
          refine gt_11_0 X.1 hG hL mw1119 dX11_builds_57 ?_
          refine lv_iconst (v := (1 : Int32)) hx hb dX11_builds_60 (by decide) ?_
          refine g_ald X.1 hG (lf_11_0 hL) dX11_builds_61 hM (fun q8 hM => ?_)
          refine lv_iconst (v := (3 : Int32)) hx hb dX11_builds_62 (by decide) ?_
          refine lv_icmp_lt (tgt := 78) hx hb dX11_builds_63 (by decide) (fun c43 => ?_) (fun c43 => ?_)
          · have hM := b_if hM c43
            refine lv_aload_n hx hb dX11_builds_78 rfl (lv_at hl 1 rfl) ?_
            refine gt_11_0 X.1 hG hL mw1119 dX11_builds_79 ?_
            refine lv_bipush (v := (14 : Int32)) hx hb dX11_builds_82 (by decide) ?_
            refine lv_iconst (v := (2 : Int32)) hx hb dX11_builds_84 (by decide) ?_
            refine lv_iload_n hx hb dX11_builds_85 rfl (lv_at hl 2 rfl) ?_
            refine lv_imul hx hb dX11_builds_86 ?_
            refine lv_iadd hx hb dX11_builds_87 ?_
            refine g_ald X.1 hG (lf_11_0 hL) dX11_builds_88 hM (fun q9 hM => ?_)
            refine lv_iload_n hx hb dX11_builds_89 rfl (lv_at hl 3 rfl) ?_
            refine lv_icmp_ge (tgt := 110) hx hb dX11_builds_90 (by decide) (fun c39 => ?_) (fun c39 => ?_)
            · have hM := b_if hM c39
              refine lv_aload_n hx hb dX11_builds_110 rfl (lv_at hl 1 rfl) ?_
              refine gt_11_0 X.1 hG hL mw1119 dX11_builds_111 ?_
              refine lv_bipush (v := (6 : Int32)) hx hb dX11_builds_114 (by decide) ?_
              refine g_ald X.1 hG (lf_11_0 hL) dX11_builds_116 hM (fun q10 hM => ?_)
              refine lv_iconst (v := (2 : Int32)) hx hb dX11_builds_117 (by decide) ?_
              refine lv_iload_n hx hb dX11_builds_118 rfl (lv_at hl 3 rfl) ?_
              refine lv_imul hx hb dX11_builds_119 ?_
              refine lv_icmp_ge (tgt := 140) hx hb dX11_builds_120 (by decide) (fun c35 => ?_) (fun c35 => ?_)
              · have hM := b_if hM c35
                refine lv_aload_n hx hb dX11_builds_140 rfl (lv_at hl 1 rfl) ?_
                refine gt_11_0 X.1 hG hL mw1119 dX11_builds_141 ?_
                refine lv_bipush (v := (14 : Int32)) hx hb dX11_builds_144 (by decide) ?_
                refine lv_iconst (v := (2 : Int32)) hx hb dX11_builds_146 (by decide) ?_
                refine lv_iload_n hx hb dX11_builds_147 rfl (lv_at hl 2 rfl) ?_
                refine lv_imul hx hb dX11_builds_148 ?_
                refine lv_iadd hx hb dX11_builds_149 ?_
                refine lv_dup2_11 hx hb dX11_builds_150 rfl rfl ?_
                refine g_ald X.1 hG (lf_11_0 hL) dX11_builds_151 hM (fun q11 hM => ?_)
                refine lv_iload_n hx hb dX11_builds_152 rfl (lv_at hl 3 rfl) ?_
                refine lv_isub hx hb dX11_builds_153 ?_
                refine g_ast X.1 hG (lf_11_0 hL) dX11_builds_154 hM (fun σ12 H locs hG hM => ?_)
                refine lv_aload_n hx hb dX11_builds_155 rfl (lv_at hl 1 rfl) ?_
                refine gt_11_0 X.1 hG hL mw1119 dX11_builds_156 ?_
                refine lv_bipush (v := (6 : Int32)) hx hb dX11_builds_159 (by decide) ?_
                refine lv_dup2_11 hx hb dX11_builds_161 rfl rfl ?_
                refine g_ald X.1 hG (lf_11_0 hL) dX11_builds_162 hM (fun q13 hM => ?_)
                refine lv_iconst (v := (2 : Int32)) hx hb dX11_builds_163 (by decide) ?_
                refine lv_iload_n hx hb dX11_builds_164 rfl (lv_at hl 3 rfl) ?_
                refine lv_imul hx hb dX11_builds_165 ?_
                refine lv_isub hx hb dX11_builds_166 ?_
                refine g_ast X.1 hG (lf_11_0 hL) dX11_builds_167 hM (fun σ14 H locs hG hM => ?_)
                refine lv_aload_n hx hb dX11_builds_168 rfl (lv_at hl 1 rfl) ?_
                refine gt_11_0 X.1 hG hL mw1119 dX11_builds_169 ?_
                refine lv_bipush (v := (12 : Int32)) hx hb dX11_builds_172 (by decide) ?_
                refine lv_dup2_11 hx hb dX11_builds_174 rfl rfl ?_
                refine g_ald X.1 hG (lf_11_0 hL) dX11_builds_175 hM (fun q15 hM => ?_)
                refine lv_iload_n hx hb dX11_builds_176 rfl (lv_at hl 4 rfl) ?_
                refine lv_iadd hx hb dX11_builds_177 ?_
                refine g_ast X.1 hG (lf_11_0 hL) dX11_builds_178 hM (fun σ16 H locs hG hM => ?_)
                refine lv_aload_n hx hb dX11_builds_179 rfl (lv_at hl 1 rfl) ?_
                refine gt_11_0 X.1 hG hL mw1119 dX11_builds_180 ?_
                refine lv_iconst (v := (3 : Int32)) hx hb dX11_builds_183 (by decide) ?_
                refine lv_dup2_11 hx hb dX11_builds_184 rfl rfl ?_
                refine g_ald X.1 hG (lf_11_0 hL) dX11_builds_185 hM (fun q17 hM => ?_)
                refine lv_iconst (v := (1 : Int32)) hx hb dX11_builds_186 (by decide) ?_
                refine lv_iadd hx hb dX11_builds_187 ?_
                refine g_ast X.1 hG (lf_11_0 hL) dX11_builds_188 hM (fun σ18 H locs hG hM => ?_)
                refine lv_iconst (v := (0 : Int32)) hx hb dX11_builds_189 (by decide) ?_
                refine lv_istore (lv' := [(5, .int (0 : Int32)), (4, .int q7), (0, .ref (E.1 k)), (1, .int p0), (2, .int p1), (3, .int p2)]) hx hb dX11_builds_190 hl (by decide) rfl (fun ls hl => ?_)
                exact w_X11_builds_192 X hL FU σ18 p0 p1 p2 q7 (0 : Int32) _ _ _ z hG (lv_sub hl [2, 3, 4, 5, 1, 0] rfl) hM
              · have hM := b_else hM c35
                refine lv_aload_n hx hb dX11_builds_123 rfl (lv_at hl 1 rfl) ?_
                refine lv_iconst (v := (3 : Int32)) hx hb dX11_builds_124 (by decide) ?_
                refine lv_iconst (v := (2 : Int32)) hx hb dX11_builds_125 (by decide) ?_
                refine lv_iload_n hx hb dX11_builds_126 rfl (lv_at hl 3 rfl) ?_
                refine lv_imul hx hb dX11_builds_127 ?_
                refine lv_aload_n hx hb dX11_builds_128 rfl (lv_at hl 1 rfl) ?_
                refine gt_11_0 X.1 hG hL mw1119 dX11_builds_129 ?_
                refine lv_bipush (v := (6 : Int32)) hx hb dX11_builds_132 (by decide) ?_
                refine g_ald X.1 hG (lf_11_0 hL) dX11_builds_134 hM (fun q32 hM => ?_)
                refine lv_isub hx hb dX11_builds_135 ?_
                refine g_callV_i (nA := 2) (o := M_X11_refuses σ5 k (3 : Int32) (((2 : Int32) * p1) - q32)) (As := [.int (3 : Int32), .int (((2 : Int32) * p1) - q32)]) X.1 hG hL rfl rfl (fun _ _ h => C_X11_refuses l E h hL) mw1193 mw1195 mw13 mw62 (gw_ok mw1196 rfl) (by decide +kernel) rfl ⟨Nat.le_of_ble_eq_true rfl, Nat.le_of_ble_eq_true rfl⟩ hl.1 rfl (Nat.le_of_ble_eq_true rfl) ⟨Nat.le_refl _, Nat.le_refl _⟩ dX11_builds_136 hM (fun σ33 r34 H locs hG hM => ?_)
                exact e_iret X hG dX11_builds_139 hM
            · have hM := b_else hM c39
              refine lv_aload_n hx hb dX11_builds_93 rfl (lv_at hl 1 rfl) ?_
              refine lv_iconst (v := (2 : Int32)) hx hb dX11_builds_94 (by decide) ?_
              refine lv_aload_n hx hb dX11_builds_95 rfl (lv_at hl 1 rfl) ?_
              refine gt_11_0 X.1 hG hL mw1119 dX11_builds_96 ?_
              refine lv_bipush (v := (14 : Int32)) hx hb dX11_builds_99 (by decide) ?_
              refine lv_iconst (v := (2 : Int32)) hx hb dX11_builds_101 (by decide) ?_
              refine lv_iload_n hx hb dX11_builds_102 rfl (lv_at hl 2 rfl) ?_
              refine lv_imul hx hb dX11_builds_103 ?_
              refine lv_iadd hx hb dX11_builds_104 ?_
              refine g_ald X.1 hG (lf_11_0 hL) dX11_builds_105 hM (fun q36 hM => ?_)
              refine g_callV_i (nA := 2) (o := M_X11_refuses σ5 k (2 : Int32) q36) (As := [.int (2 : Int32), .int q36]) X.1 hG hL rfl rfl (fun _ _ h => C_X11_refuses l E h hL) mw1193 mw1195 mw13 mw62 (gw_ok mw1196 rfl) (by decide +kernel) rfl ⟨Nat.le_of_ble_eq_true rfl, Nat.le_of_ble_eq_true rfl⟩ hl.1 rfl (Nat.le_of_ble_eq_true rfl) ⟨Nat.le_refl _, Nat.le_refl _⟩ dX11_builds_106 hM (fun σ37 r38 H locs hG hM => ?_)
              exact e_iret X hG dX11_builds_109 hM
          · have hM := b_else hM c43
            refine lv_aload_n hx hb dX11_builds_66 rfl (lv_at hl 1 rfl) ?_
            refine lv_iconst (v := (4 : Int32)) hx hb dX11_builds_67 (by decide) ?_
            refine lv_aload_n hx hb dX11_builds_68 rfl (lv_at hl 1 rfl) ?_
            refine gt_11_0 X.1 hG hL mw1119 dX11_builds_69 ?_
            refine lv_iconst (v := (1 : Int32)) hx hb dX11_builds_72 (by decide) ?_
            refine g_ald X.1 hG (lf_11_0 hL) dX11_builds_73 hM (fun q40 hM => ?_)
            refine g_callV_i (nA := 2) (o := M_X11_refuses σ5 k (4 : Int32) q40) (As := [.int (4 : Int32), .int q40]) X.1 hG hL rfl rfl (fun _ _ h => C_X11_refuses l E h hL) mw1193 mw1195 mw13 mw62 (gw_ok mw1196 rfl) (by decide +kernel) rfl ⟨Nat.le_of_ble_eq_true rfl, Nat.le_of_ble_eq_true rfl⟩ hl.1 rfl (Nat.le_of_ble_eq_true rfl) ⟨Nat.le_refl _, Nat.le_refl _⟩ dX11_builds_74 hM (fun σ41 r42 H locs hG hM => ?_)
            exact e_iret X hG dX11_builds_77 hM
        · have hM := b_if hM c46
          refine lv_aload_n hx hb dX11_builds_48 rfl (lv_at hl 1 rfl) ?_
          refine lv_iconst (v := (1 : Int32)) hx hb dX11_builds_49 (by decide) ?_
          refine lv_bipush (v := (10 : Int32)) hx hb dX11_builds_50 (by decide) ?_
          refine g_callV_i (nA := 2) (o := M_X11_refuses σ5 k (1 : Int32) (10 : Int32)) (As := [.int (1 : Int32), .int (10 : Int32)]) X.1 hG hL rfl rfl (fun _ _ h => C_X11_refuses l E h hL) mw1193 mw1195 mw13 mw62 (gw_ok mw1196 rfl) (by decide +kernel) rfl ⟨Nat.le_of_ble_eq_true rfl, Nat.le_of_ble_eq_true rfl⟩ hl.1 rfl (Nat.le_of_ble_eq_true rfl) ⟨Nat.le_refl _, Nat.le_refl _⟩ dX11_builds_52 hM (fun σ44 r45 H locs hG hM => ?_)
          exact e_iret X hG dX11_builds_55 hM
      · have hM := b_if hM c47
        refine lv_bipush (v := (-2 : Int32)) hx hb dX11_builds_30 (by decide) ?_
        exact e_iret X hG dX11_builds_32 hM
  · have hM := b_if hM c49
    refine lv_iconst (v := (-1 : Int32)) hx hb dX11_builds_8 (by decide) ?_
    exact e_iret X hG dX11_builds_9 hM
def M_X11_build (σ : St) (k : Nat) (p0 p1 p2 : Int32) : Option (St × Int32) := bcall (M_X11_tries σ k) fun σ1 r2 => bcall (M_X11_builds σ1 k p0 p1 p2) fun σ3 r4 => bcall (M_X11_ends σ3 k r4) fun σ5 r6 => some (σ5, r6)
set_option maxRecDepth 20000 in
set_option maxHeartbeats 4000000 in
theorem C_X11_build (l : Launch) (E : Ev) {σ σ' : St} {k : Nat} {p0 : Int32} {p1 : Int32} {p2 : Int32} {r : Int32} (h : M_X11_build σ k p0 p1 p2 = some (σ', r)) (hL : lay 11 k) : Mi l E yX11_build cX11_build 4 (some .int) 4 [.ref (E.1 k), .int p0, .int p1, .int p2] σ σ' r := by
  refine Mi_of (C := RX11) rfl (by decide) (Nat.le_of_ble_eq_true rfl) (z := (σ', r)) (fun p e s m below meth c ls X hG hl => ?_)
  have hx := X.1.1.1
  have hb := X.1.1.2.1
  have hM := h
  unfold M_X11_build at hM
  generalize (σ', r) = z at hM ⊢
  have hl : lv_has ls 4 [(0, .ref (E.1 k)), (1, .int p0), (2, .int p1), (3, .int p2)] := hl
  refine lv_aload_n hx hb dX11_build_0 rfl (lv_at hl 0 rfl) ?_
  refine g_callV_v (nA := 0) (o := M_X11_tries σ k) (As := []) X.1 hG hL rfl rfl (fun _ _ h => C_X11_tries l E h hL) mw1189 mw1191 mw12 mw62 (gw_ok mw1192 rfl) (by decide +kernel) rfl ⟨Nat.le_of_ble_eq_true rfl, Nat.le_of_ble_eq_true rfl⟩ hl.1 rfl (Nat.le_of_ble_eq_true rfl) ⟨Nat.le_refl _, Nat.le_refl _⟩ dX11_build_1 hM (fun σ1 r2 H locs hG hM => ?_)
  refine lv_aload_n hx hb dX11_build_4 rfl (lv_at hl 0 rfl) ?_
  refine lv_aload_n hx hb dX11_build_5 rfl (lv_at hl 0 rfl) ?_
  refine lv_iload_n hx hb dX11_build_6 rfl (lv_at hl 1 rfl) ?_
  refine lv_iload_n hx hb dX11_build_7 rfl (lv_at hl 2 rfl) ?_
  refine lv_iload_n hx hb dX11_build_8 rfl (lv_at hl 3 rfl) ?_
  refine g_callV_i (nA := 3) (o := M_X11_builds σ1 k p0 p1 p2) (As := [.int p0, .int p1, .int p2]) X.1 hG hL rfl rfl (fun _ _ h => C_X11_builds l E h hL) mw1210 mw1212 mw15 mw62 (gw_ok mw1213 rfl) (by decide +kernel) rfl ⟨Nat.le_of_ble_eq_true rfl, Nat.le_of_ble_eq_true rfl⟩ hl.1 rfl (Nat.le_of_ble_eq_true rfl) ⟨Nat.le_refl _, Nat.le_refl _⟩ dX11_build_9 hM (fun σ3 r4 H locs hG hM => ?_)
  refine g_callV_i (nA := 1) (o := M_X11_ends σ3 k r4) (As := [.int r4]) X.1 hG hL rfl rfl (fun _ _ h => C_X11_ends l E h hL) mw1226 mw1228 mw19 mw62 (gw_ok mw1229 rfl) (by decide +kernel) rfl ⟨Nat.le_of_ble_eq_true rfl, Nat.le_of_ble_eq_true rfl⟩ hl.1 rfl (Nat.le_of_ble_eq_true rfl) ⟨Nat.le_refl _, Nat.le_refl _⟩ dX11_build_12 hM (fun σ5 r6 H locs hG hM => ?_)
  exact e_iret X hG dX11_build_15 hM
def M_X11_ties (σ : St) (k : Nat) (p0 : Int32) : Option (St × Int32) := bcall (M_X11_isStorey σ k p0) fun σ1 r2 => if r2 = 0 then some (σ1, (-1 : Int32)) else (bald σ1 (k + 1) (1 : Int32) fun q3 => if q3 < (3 : Int32) then (bcall (M_X11_of σ1 k p0 (2 : Int32)) fun σ4 r5 => if r5 = 0 then (bcall (M_X11_refuses σ4 k (10 : Int32) p0) fun σ22 r23 => some (σ22, r23)) else (bcall (M_X11_of σ4 k p0 (0 : Int32)) fun σ6 r7 => blet ((2 : Int32) * r7) fun v8 => bald σ6 (k + 1) (6 : Int32) fun q9 => if v8 ≤ q9 then (bald σ6 (k + 1) (6 : Int32) fun q10 => bast σ6 (k + 1) (6 : Int32) (q10 - v8) fun σ11 => bcall (M_X11_sets σ11 k p0 (2 : Int32) (0 : Int32)) fun σ12 r13 => bcall (M_X11_sets σ12 k p0 (5 : Int32) (0 : Int32)) fun σ14 r15 => bcall (M_X11_does σ14 k r5) fun σ16 r17 => some (σ16, r17)) else (bald σ6 (k + 1) (6 : Int32) fun q18 => bcall (M_X11_refuses σ6 k (3 : Int32) (v8 - q18)) fun σ19 r20 => some (σ19, r20)))) else (bald σ1 (k + 1) (1 : Int32) fun q25 => bcall (M_X11_refuses σ1 k (4 : Int32) q25) fun σ26 r27 => some (σ26, r27)))
set_option maxRecDepth 20000 in
set_option maxHeartbeats 4000000 in
theorem C_X11_ties (l : Launch) (E : Ev) {σ σ' : St} {k : Nat} {p0 : Int32} {r : Int32} (h : M_X11_ties σ k p0 = some (σ', r)) (hL : lay 11 k) : Mi l E yX11_ties cX11_ties 4 (some .int) 3 [.ref (E.1 k), .int p0] σ σ' r := by
  refine Mi_of (C := RX11) rfl (by decide) (Nat.le_of_ble_eq_true rfl) (z := (σ', r)) (fun p e s m below meth c ls X hG hl => ?_)
  have hx := X.1.1.1
  have hb := X.1.1.2.1
  have hM := h
  unfold M_X11_ties at hM
  generalize (σ', r) = z at hM ⊢
  have hl : lv_has ls 4 [(0, .ref (E.1 k)), (1, .int p0)] := hl
  refine lv_aload_n hx hb dX11_ties_0 rfl (lv_at hl 0 rfl) ?_
  refine lv_iload_n hx hb dX11_ties_1 rfl (lv_at hl 1 rfl) ?_
  refine g_callV_i (nA := 1) (o := M_X11_isStorey σ k p0) (As := [.int p0]) X.1 hG hL rfl rfl (fun _ _ h => C_X11_isStorey l E h hL) mw1238 mw1240 mw21 mw62 (gw_ok mw1241 rfl) (by decide +kernel) rfl ⟨Nat.le_of_ble_eq_true rfl, Nat.le_of_ble_eq_true rfl⟩ hl.1 rfl (Nat.le_of_ble_eq_true rfl) ⟨Nat.le_refl _, Nat.le_refl _⟩ dX11_ties_2 hM (fun σ1 r2 H locs hG hM => ?_)
  refine lv_if_ne (tgt := 10) hx hb dX11_ties_5 (by decide) (fun c29 => ?_) (fun c29 => ?_)
  · have hM := b_else hM c29
    refine lv_aload_n hx hb dX11_ties_10 rfl (lv_at hl 0 rfl) ?_
    refine gt_11_0 X.1 hG hL mw1119 dX11_ties_11 ?_
    refine lv_iconst (v := (1 : Int32)) hx hb dX11_ties_14 (by decide) ?_
    refine g_ald X.1 hG (lf_11_0 hL) dX11_ties_15 hM (fun q3 hM => ?_)
    refine lv_iconst (v := (3 : Int32)) hx hb dX11_ties_16 (by decide) ?_
    refine lv_icmp_lt (tgt := 32) hx hb dX11_ties_17 (by decide) (fun c28 => ?_) (fun c28 => ?_)
    · have hM := b_if hM c28
      refine lv_aload_n hx hb dX11_ties_32 rfl (lv_at hl 0 rfl) ?_
      refine lv_iload_n hx hb dX11_ties_33 rfl (lv_at hl 1 rfl) ?_
      refine lv_iconst (v := (2 : Int32)) hx hb dX11_ties_34 (by decide) ?_
      refine g_callV_i (nA := 2) (o := M_X11_of σ1 k p0 (2 : Int32)) (As := [.int p0, .int (2 : Int32)]) X.1 hG hL rfl rfl (fun _ _ h => C_X11_of l E h hL) mw1242 mw1244 mw22 mw62 (gw_ok mw1245 rfl) (by decide +kernel) rfl ⟨Nat.le_of_ble_eq_true rfl, Nat.le_of_ble_eq_true rfl⟩ hl.1 rfl (Nat.le_of_ble_eq_true rfl) ⟨Nat.le_refl _, Nat.le_refl _⟩ dX11_ties_35 hM (fun σ4 r5 H locs hG hM => ?_)
      refine lv_istore_n (lv' := [(2, .int r5), (0, .ref (E.1 k)), (1, .int p0)]) hx hb dX11_ties_38 rfl hl (by decide) rfl (fun ls hl => ?_)
      refine lv_iload_n hx hb dX11_ties_39 rfl (lv_at hl 0 rfl) ?_
      refine lv_if_ne (tgt := 51) hx hb dX11_ties_40 (by decide) (fun c24 => ?_) (fun c24 => ?_)
      · have hM := b_else hM c24
        refine lv_iconst (v := (2 : Int32)) hx hb dX11_ties_51 (by decide) ?_
        refine lv_aload_n hx hb dX11_ties_52 rfl (lv_at hl 1 rfl) ?_
        refine lv_iload_n hx hb dX11_ties_53 rfl (lv_at hl 2 rfl) ?_
        refine lv_iconst (v := (0 : Int32)) hx hb dX11_ties_54 (by decide) ?_
        refine g_callV_i (nA := 2) (o := M_X11_of σ4 k p0 (0 : Int32)) (As := [.int p0, .int (0 : Int32)]) X.1 hG hL rfl rfl (fun _ _ h => C_X11_of l E h hL) mw1242 mw1244 mw22 mw62 (gw_ok mw1245 rfl) (by decide +kernel) rfl ⟨Nat.le_of_ble_eq_true rfl, Nat.le_of_ble_eq_true rfl⟩ hl.1 rfl (Nat.le_of_ble_eq_true rfl) ⟨Nat.le_refl _, Nat.le_refl _⟩ dX11_ties_55 hM (fun σ6 r7 H locs hG hM => ?_)
        refine lv_imul hx hb dX11_ties_58 ?_
        refine g_name hM (fun v8 hM => ?_)
        refine lv_istore_n (lv' := [(3, .int v8), (2, .int r5), (0, .ref (E.1 k)), (1, .int p0)]) hx hb dX11_ties_59 rfl hl (by decide) rfl (fun ls hl => ?_)
        refine lv_aload_n hx hb dX11_ties_60 rfl (lv_at hl 2 rfl) ?_
        refine gt_11_0 X.1 hG hL mw1119 dX11_ties_61 ?_
        refine lv_bipush (v := (6 : Int32)) hx hb dX11_ties_64 (by decide) ?_
        refine g_ald X.1 hG (lf_11_0 hL) dX11_ties_66 hM (fun q9 hM => ?_)
        refine lv_iload_n hx hb dX11_ties_67 rfl (lv_at hl 0 rfl) ?_
        refine lv_icmp_ge (tgt := 86) hx hb dX11_ties_68 (by decide) (fun c21 => ?_) (fun c21 => ?_)
        · have hM := b_if hM c21
          refine lv_aload_n hx hb dX11_ties_86 rfl (lv_at hl 2 rfl) ?_
          refine gt_11_0 X.1 hG hL mw1119 dX11_ties_87 ?_
          refine lv_bipush (v := (6 : Int32)) hx hb dX11_ties_90 (by decide) ?_
          refine lv_dup2_11 hx hb dX11_ties_92 rfl rfl ?_
          refine g_ald X.1 hG (lf_11_0 hL) dX11_ties_93 hM (fun q10 hM => ?_)
          refine lv_iload_n hx hb dX11_ties_94 rfl (lv_at hl 0 rfl) ?_
          refine lv_isub hx hb dX11_ties_95 ?_
          refine g_ast X.1 hG (lf_11_0 hL) dX11_ties_96 hM (fun σ11 H locs hG hM => ?_)
          refine lv_aload_n hx hb dX11_ties_97 rfl (lv_at hl 2 rfl) ?_
          refine lv_iload_n hx hb dX11_ties_98 rfl (lv_at hl 3 rfl) ?_
          refine lv_iconst (v := (2 : Int32)) hx hb dX11_ties_99 (by decide) ?_
          refine lv_iconst (v := (0 : Int32)) hx hb dX11_ties_100 (by decide) ?_
          refine g_callV_v (nA := 3) (o := M_X11_sets σ11 k p0 (2 : Int32) (0 : Int32)) (As := [.int p0, .int (2 : Int32), .int (0 : Int32)]) X.1 hG hL rfl rfl (fun _ _ h => C_X11_sets l E h hL) mw1218 mw1220 mw17 mw62 (gw_ok mw1221 rfl) (by decide +kernel) rfl ⟨Nat.le_of_ble_eq_true rfl, Nat.le_of_ble_eq_true rfl⟩ hl.1 rfl (Nat.le_of_ble_eq_true rfl) ⟨Nat.le_refl _, Nat.le_refl _⟩ dX11_ties_101 hM (fun σ12 r13 H locs hG hM => ?_)
          refine lv_aload_n hx hb dX11_ties_104 rfl (lv_at hl 2 rfl) ?_
          refine lv_iload_n hx hb dX11_ties_105 rfl (lv_at hl 3 rfl) ?_
          refine lv_iconst (v := (5 : Int32)) hx hb dX11_ties_106 (by decide) ?_
          refine lv_iconst (v := (0 : Int32)) hx hb dX11_ties_107 (by decide) ?_
          refine g_callV_v (nA := 3) (o := M_X11_sets σ12 k p0 (5 : Int32) (0 : Int32)) (As := [.int p0, .int (5 : Int32), .int (0 : Int32)]) X.1 hG hL rfl rfl (fun _ _ h => C_X11_sets l E h hL) mw1218 mw1220 mw17 mw62 (gw_ok mw1221 rfl) (by decide +kernel) rfl ⟨Nat.le_of_ble_eq_true rfl, Nat.le_of_ble_eq_true rfl⟩ hl.1 rfl (Nat.le_of_ble_eq_true rfl) ⟨Nat.le_refl _, Nat.le_refl _⟩ dX11_ties_108 hM (fun σ14 r15 H locs hG hM => ?_)
          refine lv_aload_n hx hb dX11_ties_111 rfl (lv_at hl 2 rfl) ?_
          refine lv_iload_n hx hb dX11_ties_112 rfl (lv_at hl 1 rfl) ?_
          refine g_callV_i (nA := 1) (o := M_X11_does σ14 k r5) (As := [.int r5]) X.1 hG hL rfl rfl (fun _ _ h => C_X11_does l E h hL) mw1222 mw1224 mw18 mw62 (gw_ok mw1225 rfl) (by decide +kernel) rfl ⟨Nat.le_of_ble_eq_true rfl, Nat.le_of_ble_eq_true rfl⟩ hl.1 rfl (Nat.le_of_ble_eq_true rfl) ⟨Nat.le_refl _, Nat.le_refl _⟩ dX11_ties_113 hM (fun σ16 r17 H locs hG hM => ?_)
          exact e_iret X hG dX11_ties_116 hM
        · have hM := b_else hM c21
          refine lv_aload_n hx hb dX11_ties_71 rfl (lv_at hl 2 rfl) ?_
          refine lv_iconst (v := (3 : Int32)) hx hb dX11_ties_72 (by decide) ?_
          refine lv_iload_n hx hb dX11_ties_73 rfl (lv_at hl 0 rfl) ?_
          refine lv_aload_n hx hb dX11_ties_74 rfl (lv_at hl 2 rfl) ?_
          refine gt_11_0 X.1 hG hL mw1119 dX11_ties_75 ?_
          refine lv_bipush (v := (6 : Int32)) hx hb dX11_ties_78 (by decide) ?_
          refine g_ald X.1 hG (lf_11_0 hL) dX11_ties_80 hM (fun q18 hM => ?_)
          refine lv_isub hx hb dX11_ties_81 ?_
          refine g_callV_i (nA := 2) (o := M_X11_refuses σ6 k (3 : Int32) (v8 - q18)) (As := [.int (3 : Int32), .int (v8 - q18)]) X.1 hG hL rfl rfl (fun _ _ h => C_X11_refuses l E h hL) mw1193 mw1195 mw13 mw62 (gw_ok mw1196 rfl) (by decide +kernel) rfl ⟨Nat.le_of_ble_eq_true rfl, Nat.le_of_ble_eq_true rfl⟩ hl.1 rfl (Nat.le_of_ble_eq_true rfl) ⟨Nat.le_refl _, Nat.le_refl _⟩ dX11_ties_82 hM (fun σ19 r20 H locs hG hM => ?_)
          exact e_iret X hG dX11_ties_85 hM
      · have hM := b_if hM c24
        refine lv_aload_n hx hb dX11_ties_43 rfl (lv_at hl 1 rfl) ?_
        refine lv_bipush (v := (10 : Int32)) hx hb dX11_ties_44 (by decide) ?_
        refine lv_iload_n hx hb dX11_ties_46 rfl (lv_at hl 2 rfl) ?_
        refine g_callV_i (nA := 2) (o := M_X11_refuses σ4 k (10 : Int32) p0) (As := [.int (10 : Int32), .int p0]) X.1 hG hL rfl rfl (fun _ _ h => C_X11_refuses l E h hL) mw1193 mw1195 mw13 mw62 (gw_ok mw1196 rfl) (by decide +kernel) rfl ⟨Nat.le_of_ble_eq_true rfl, Nat.le_of_ble_eq_true rfl⟩ hl.1 rfl (Nat.le_of_ble_eq_true rfl) ⟨Nat.le_refl _, Nat.le_refl _⟩ dX11_ties_47 hM (fun σ22 r23 H locs hG hM => ?_)
        exact e_iret X hG dX11_ties_50 hM
    · have hM := b_else hM c28
      refine lv_aload_n hx hb dX11_ties_20 rfl (lv_at hl 0 rfl) ?_
      refine lv_iconst (v := (4 : Int32)) hx hb dX11_ties_21 (by decide) ?_
      refine lv_aload_n hx hb dX11_ties_22 rfl (lv_at hl 0 rfl) ?_
      refine gt_11_0 X.1 hG hL mw1119 dX11_ties_23 ?_
      refine lv_iconst (v := (1 : Int32)) hx hb dX11_ties_26 (by decide) ?_
      refine g_ald X.1 hG (lf_11_0 hL) dX11_ties_27 hM (fun q25 hM => ?_)
      refine g_callV_i (nA := 2) (o := M_X11_refuses σ1 k (4 : Int32) q25) (As := [.int (4 : Int32), .int q25]) X.1 hG hL rfl rfl (fun _ _ h => C_X11_refuses l E h hL) mw1193 mw1195 mw13 mw62 (gw_ok mw1196 rfl) (by decide +kernel) rfl ⟨Nat.le_of_ble_eq_true rfl, Nat.le_of_ble_eq_true rfl⟩ hl.1 rfl (Nat.le_of_ble_eq_true rfl) ⟨Nat.le_refl _, Nat.le_refl _⟩ dX11_ties_28 hM (fun σ26 r27 H locs hG hM => ?_)
      exact e_iret X hG dX11_ties_31 hM
  · have hM := b_if hM c29
    refine lv_iconst (v := (-1 : Int32)) hx hb dX11_ties_8 (by decide) ?_
    exact e_iret X hG dX11_ties_9 hM
def M_X11_tie (σ : St) (k : Nat) (p0 : Int32) : Option (St × Int32) := bcall (M_X11_tries σ k) fun σ1 r2 => bcall (M_X11_ties σ1 k p0) fun σ3 r4 => bcall (M_X11_ends σ3 k r4) fun σ5 r6 => some (σ5, r6)
set_option maxRecDepth 20000 in
set_option maxHeartbeats 4000000 in
theorem C_X11_tie (l : Launch) (E : Ev) {σ σ' : St} {k : Nat} {p0 : Int32} {r : Int32} (h : M_X11_tie σ k p0 = some (σ', r)) (hL : lay 11 k) : Mi l E yX11_tie cX11_tie 2 (some .int) 4 [.ref (E.1 k), .int p0] σ σ' r := by
  refine Mi_of (C := RX11) rfl (by decide) (Nat.le_of_ble_eq_true rfl) (z := (σ', r)) (fun p e s m below meth c ls X hG hl => ?_)
  have hx := X.1.1.1
  have hb := X.1.1.2.1
  have hM := h
  unfold M_X11_tie at hM
  generalize (σ', r) = z at hM ⊢
  have hl : lv_has ls 2 [(0, .ref (E.1 k)), (1, .int p0)] := hl
  refine lv_aload_n hx hb dX11_tie_0 rfl (lv_at hl 0 rfl) ?_
  refine g_callV_v (nA := 0) (o := M_X11_tries σ k) (As := []) X.1 hG hL rfl rfl (fun _ _ h => C_X11_tries l E h hL) mw1189 mw1191 mw12 mw62 (gw_ok mw1192 rfl) (by decide +kernel) rfl ⟨Nat.le_of_ble_eq_true rfl, Nat.le_of_ble_eq_true rfl⟩ hl.1 rfl (Nat.le_of_ble_eq_true rfl) ⟨Nat.le_refl _, Nat.le_refl _⟩ dX11_tie_1 hM (fun σ1 r2 H locs hG hM => ?_)
  refine lv_aload_n hx hb dX11_tie_4 rfl (lv_at hl 0 rfl) ?_
  refine lv_aload_n hx hb dX11_tie_5 rfl (lv_at hl 0 rfl) ?_
  refine lv_iload_n hx hb dX11_tie_6 rfl (lv_at hl 1 rfl) ?_
  refine g_callV_i (nA := 1) (o := M_X11_ties σ1 k p0) (As := [.int p0]) X.1 hG hL rfl rfl (fun _ _ h => C_X11_ties l E h hL) mw1234 mw1236 mw20 mw62 (gw_ok mw1237 rfl) (by decide +kernel) rfl ⟨Nat.le_of_ble_eq_true rfl, Nat.le_of_ble_eq_true rfl⟩ hl.1 rfl (Nat.le_of_ble_eq_true rfl) ⟨Nat.le_refl _, Nat.le_refl _⟩ dX11_tie_7 hM (fun σ3 r4 H locs hG hM => ?_)
  refine g_callV_i (nA := 1) (o := M_X11_ends σ3 k r4) (As := [.int r4]) X.1 hG hL rfl rfl (fun _ _ h => C_X11_ends l E h hL) mw1226 mw1228 mw19 mw62 (gw_ok mw1229 rfl) (by decide +kernel) rfl ⟨Nat.le_of_ble_eq_true rfl, Nat.le_of_ble_eq_true rfl⟩ hl.1 rfl (Nat.le_of_ble_eq_true rfl) ⟨Nat.le_refl _, Nat.le_refl _⟩ dX11_tie_10 hM (fun σ5 r6 H locs hG hM => ?_)
  exact e_iret X hG dX11_tie_13 hM
def M_X11_crew (σ : St) (k : Nat) (p0 : Int32) : Option (St × Int32) := bcall (M_X11_tries σ k) fun σ1 r2 => bcall (M_X11_in σ1 p0 (1 : Int32) (4 : Int32)) fun σ3 r4 => if r4 = 0 then some (σ3, (-2 : Int32)) else (bald σ3 (k + 1) (4 : Int32) fun q5 => if q5 = (5 : Int32) then (bcall (M_X11_refuses σ3 k (1 : Int32) (5 : Int32)) fun σ13 r14 => some (σ13, r14)) else (bald σ3 (k + 1) (4 : Int32) fun q6 => bast σ3 (k + 1) (4 : Int32) (q6 + (1 : Int32)) fun σ7 => bast σ7 (k + 1) ((90 : Int32) + ((3 : Int32) * q5)) p0 fun σ8 => bast σ8 (k + 1) (((90 : Int32) + ((3 : Int32) * q5)) + (1 : Int32)) (0 : Int32) fun σ9 => bast σ9 (k + 1) (((90 : Int32) + ((3 : Int32) * q5)) + (2 : Int32)) (0 : Int32) fun σ10 => bcall (M_X11_keeps σ10 k q5) fun σ11 r12 => some (σ11, r12)))
set_option maxRecDepth 20000 in
set_option maxHeartbeats 4000000 in
theorem C_X11_crew (l : Launch) (E : Ev) {σ σ' : St} {k : Nat} {p0 : Int32} {r : Int32} (h : M_X11_crew σ k p0 = some (σ', r)) (hL : lay 11 k) : Mi l E yX11_crew cX11_crew 3 (some .int) 2 [.ref (E.1 k), .int p0] σ σ' r := by
  refine Mi_of (C := RX11) rfl (by decide) (Nat.le_of_ble_eq_true rfl) (z := (σ', r)) (fun p e s m below meth c ls X hG hl => ?_)
  have hx := X.1.1.1
  have hb := X.1.1.2.1
  have hM := h
  unfold M_X11_crew at hM
  generalize (σ', r) = z at hM ⊢
  have hl : lv_has ls 3 [(0, .ref (E.1 k)), (1, .int p0)] := hl
  refine lv_aload_n hx hb dX11_crew_0 rfl (lv_at hl 0 rfl) ?_
  refine g_callV_v (nA := 0) (o := M_X11_tries σ k) (As := []) X.1 hG hL rfl rfl (fun _ _ h => C_X11_tries l E h hL) mw1189 mw1191 mw12 mw62 (gw_ok mw1192 rfl) (by decide +kernel) rfl ⟨Nat.le_of_ble_eq_true rfl, Nat.le_of_ble_eq_true rfl⟩ hl.1 rfl (Nat.le_of_ble_eq_true rfl) ⟨Nat.le_refl _, Nat.le_refl _⟩ dX11_crew_1 hM (fun σ1 r2 H locs hG hM => ?_)
  refine lv_iload_n hx hb dX11_crew_4 rfl (lv_at hl 1 rfl) ?_
  refine lv_iconst (v := (1 : Int32)) hx hb dX11_crew_5 (by decide) ?_
  refine lv_iconst (v := (4 : Int32)) hx hb dX11_crew_6 (by decide) ?_
  refine g_callS_i (nA := 3) (o := M_X11_in σ1 p0 (1 : Int32) (4 : Int32)) (As := [.int p0, .int (1 : Int32), .int (4 : Int32)]) X.1 hG (fun _ _ h => C_X11_in l E h ) mw1182 mw1183 mw62 (gw_ok mw1184 rfl) (by decide +kernel) rfl ⟨Nat.le_of_ble_eq_true rfl, Nat.le_of_ble_eq_true rfl⟩ hl.1 rfl (Nat.le_of_ble_eq_true rfl) ⟨Nat.le_refl _, Nat.le_refl _⟩ dX11_crew_7 hM (fun σ3 r4 H locs hG hM => ?_)
  refine lv_if_ne (tgt := 16) hx hb dX11_crew_10 (by decide) (fun c16 => ?_) (fun c16 => ?_)
  · have hM := b_else hM c16
    refine lv_aload_n hx hb dX11_crew_16 rfl (lv_at hl 0 rfl) ?_
    refine gt_11_0 X.1 hG hL mw1119 dX11_crew_17 ?_
    refine lv_iconst (v := (4 : Int32)) hx hb dX11_crew_20 (by decide) ?_
    refine g_ald X.1 hG (lf_11_0 hL) dX11_crew_21 hM (fun q5 hM => ?_)
    refine lv_istore_n (lv' := [(2, .int q5), (0, .ref (E.1 k)), (1, .int p0)]) hx hb dX11_crew_22 rfl hl (by decide) rfl (fun ls hl => ?_)
    refine lv_iload_n hx hb dX11_crew_23 rfl (lv_at hl 0 rfl) ?_
    refine lv_iconst (v := (5 : Int32)) hx hb dX11_crew_24 (by decide) ?_
    refine lv_icmp_ne (tgt := 35) hx hb dX11_crew_25 (by decide) (fun c15 => ?_) (fun c15 => ?_)
    · have hM := b_else hM c15
      refine lv_aload_n hx hb dX11_crew_35 rfl (lv_at hl 1 rfl) ?_
      refine gt_11_0 X.1 hG hL mw1119 dX11_crew_36 ?_
      refine lv_iconst (v := (4 : Int32)) hx hb dX11_crew_39 (by decide) ?_
      refine lv_dup2_11 hx hb dX11_crew_40 rfl rfl ?_
      refine g_ald X.1 hG (lf_11_0 hL) dX11_crew_41 hM (fun q6 hM => ?_)
      refine lv_iconst (v := (1 : Int32)) hx hb dX11_crew_42 (by decide) ?_
      refine lv_iadd hx hb dX11_crew_43 ?_
      refine g_ast X.1 hG (lf_11_0 hL) dX11_crew_44 hM (fun σ7 H locs hG hM => ?_)
      refine lv_aload_n hx hb dX11_crew_45 rfl (lv_at hl 1 rfl) ?_
      refine gt_11_0 X.1 hG hL mw1119 dX11_crew_46 ?_
      refine lv_bipush (v := (90 : Int32)) hx hb dX11_crew_49 (by decide) ?_
      refine lv_iconst (v := (3 : Int32)) hx hb dX11_crew_51 (by decide) ?_
      refine lv_iload_n hx hb dX11_crew_52 rfl (lv_at hl 0 rfl) ?_
      refine lv_imul hx hb dX11_crew_53 ?_
      refine lv_iadd hx hb dX11_crew_54 ?_
      refine lv_iload_n hx hb dX11_crew_55 rfl (lv_at hl 2 rfl) ?_
      refine g_ast X.1 hG (lf_11_0 hL) dX11_crew_56 hM (fun σ8 H locs hG hM => ?_)
      refine lv_aload_n hx hb dX11_crew_57 rfl (lv_at hl 1 rfl) ?_
      refine gt_11_0 X.1 hG hL mw1119 dX11_crew_58 ?_
      refine lv_bipush (v := (90 : Int32)) hx hb dX11_crew_61 (by decide) ?_
      refine lv_iconst (v := (3 : Int32)) hx hb dX11_crew_63 (by decide) ?_
      refine lv_iload_n hx hb dX11_crew_64 rfl (lv_at hl 0 rfl) ?_
      refine lv_imul hx hb dX11_crew_65 ?_
      refine lv_iadd hx hb dX11_crew_66 ?_
      refine lv_iconst (v := (1 : Int32)) hx hb dX11_crew_67 (by decide) ?_
      refine lv_iadd hx hb dX11_crew_68 ?_
      refine lv_iconst (v := (0 : Int32)) hx hb dX11_crew_69 (by decide) ?_
      refine g_ast X.1 hG (lf_11_0 hL) dX11_crew_70 hM (fun σ9 H locs hG hM => ?_)
      refine lv_aload_n hx hb dX11_crew_71 rfl (lv_at hl 1 rfl) ?_
      refine gt_11_0 X.1 hG hL mw1119 dX11_crew_72 ?_
      refine lv_bipush (v := (90 : Int32)) hx hb dX11_crew_75 (by decide) ?_
      refine lv_iconst (v := (3 : Int32)) hx hb dX11_crew_77 (by decide) ?_
      refine lv_iload_n hx hb dX11_crew_78 rfl (lv_at hl 0 rfl) ?_
      refine lv_imul hx hb dX11_crew_79 ?_
      refine lv_iadd hx hb dX11_crew_80 ?_
      refine lv_iconst (v := (2 : Int32)) hx hb dX11_crew_81 (by decide) ?_
      refine lv_iadd hx hb dX11_crew_82 ?_
      refine lv_iconst (v := (0 : Int32)) hx hb dX11_crew_83 (by decide) ?_
      refine g_ast X.1 hG (lf_11_0 hL) dX11_crew_84 hM (fun σ10 H locs hG hM => ?_)
      refine lv_aload_n hx hb dX11_crew_85 rfl (lv_at hl 1 rfl) ?_
      refine lv_iload_n hx hb dX11_crew_86 rfl (lv_at hl 0 rfl) ?_
      refine g_callV_i (nA := 1) (o := M_X11_keeps σ10 k q5) (As := [.int q5]) X.1 hG hL rfl rfl (fun _ _ h => C_X11_keeps l E h hL) mw1197 mw1199 mw14 mw62 (gw_ok mw1200 rfl) (by decide +kernel) rfl ⟨Nat.le_of_ble_eq_true rfl, Nat.le_of_ble_eq_true rfl⟩ hl.1 rfl (Nat.le_of_ble_eq_true rfl) ⟨Nat.le_refl _, Nat.le_refl _⟩ dX11_crew_87 hM (fun σ11 r12 H locs hG hM => ?_)
      exact e_iret X hG dX11_crew_90 hM
    · have hM := b_if hM c15
      refine lv_aload_n hx hb dX11_crew_28 rfl (lv_at hl 1 rfl) ?_
      refine lv_iconst (v := (1 : Int32)) hx hb dX11_crew_29 (by decide) ?_
      refine lv_iconst (v := (5 : Int32)) hx hb dX11_crew_30 (by decide) ?_
      refine g_callV_i (nA := 2) (o := M_X11_refuses σ3 k (1 : Int32) (5 : Int32)) (As := [.int (1 : Int32), .int (5 : Int32)]) X.1 hG hL rfl rfl (fun _ _ h => C_X11_refuses l E h hL) mw1193 mw1195 mw13 mw62 (gw_ok mw1196 rfl) (by decide +kernel) rfl ⟨Nat.le_of_ble_eq_true rfl, Nat.le_of_ble_eq_true rfl⟩ hl.1 rfl (Nat.le_of_ble_eq_true rfl) ⟨Nat.le_refl _, Nat.le_refl _⟩ dX11_crew_31 hM (fun σ13 r14 H locs hG hM => ?_)
      exact e_iret X hG dX11_crew_34 hM
  · have hM := b_if hM c16
    refine lv_bipush (v := (-2 : Int32)) hx hb dX11_crew_13 (by decide) ?_
    exact e_iret X hG dX11_crew_15 hM
