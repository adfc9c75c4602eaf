def M_X9_bind (σ : St) (k : Nat) (p0 : Int32) : Option (St × Int32) := bcall (M_X10_put σ (k + 3) p0 (0 : Int32)) fun σ1 r2 => bcall (M_X10_put σ1 (k + 6) p0 (-4 : Int32)) fun σ3 r4 => some (σ3, 0)
set_option maxRecDepth 20000 in
set_option maxHeartbeats 4000000 in
theorem C_X9_bind (l : Launch) (E : Ev) {σ σ' : St} {k : Nat} {p0 : Int32} {r : Int32} (h : M_X9_bind σ k p0 = some (σ', r)) (hL : lay 9 k) : Mv l E yX9_bind cX9_bind 2 2 [.ref (E.1 k), .int p0] σ σ' := by
  refine Mv_of (C := RX9) rfl (by decide) (Nat.le_of_ble_eq_true rfl) (z := (σ', r)) (fun p e s m below meth c ls X hG hl => ?_)
  have hx := X.1.1.1
  have hb := X.1.1.2.1
  have hM := h
  unfold M_X9_bind at hM
  generalize (σ', r) = z at hM ⊢
  have hl : lv_has ls 2 [(0, .ref (E.1 k)), (1, .int p0)] := hl
  refine lv_aload_n hx hb dX9_bind_0 rfl (lv_at hl 0 rfl) ?_
  refine gt_9_2 X.1 hG hL mw133 dX9_bind_1 ?_
  refine lv_iload_n hx hb dX9_bind_4 rfl (lv_at hl 1 rfl) ?_
  refine lv_iconst (v := (0 : Int32)) hx hb dX9_bind_5 (by decide) ?_
  refine g_callSN_v (nA := 3) (o := M_X10_put σ (k + 3) p0 (0 : Int32)) (As := [.ref (E.1 (k + 3)), .int p0, .int (0 : Int32)]) X.1 hG (fun _ _ h => C_X10_put l E h (lf_9_2 hL)) mw526 mw465 mw51 (gw_ok mw466 rfl) (by decide +kernel) rfl ⟨Nat.le_of_ble_eq_true rfl, Nat.le_of_ble_eq_true rfl⟩ hl.1 rfl (Nat.le_of_ble_eq_true rfl) ⟨Nat.le_refl _, Nat.le_refl _⟩ dX9_bind_6 hM (fun σ1 r2 H locs hG hM => ?_)
  refine lv_aload_n hx hb dX9_bind_9 rfl (lv_at hl 0 rfl) ?_
  refine gt_9_5 X.1 hG hL mw136 dX9_bind_10 ?_
  refine lv_iload_n hx hb dX9_bind_13 rfl (lv_at hl 1 rfl) ?_
  refine lv_bipush (v := (-4 : Int32)) hx hb dX9_bind_14 (by decide) ?_
  refine g_callSN_v (nA := 3) (o := M_X10_put σ1 (k + 6) p0 (-4 : Int32)) (As := [.ref (E.1 (k + 6)), .int p0, .int (-4 : Int32)]) X.1 hG (fun _ _ h => C_X10_put l E h (lf_9_5 hL)) mw526 mw465 mw51 (gw_ok mw466 rfl) (by decide +kernel) rfl ⟨Nat.le_of_ble_eq_true rfl, Nat.le_of_ble_eq_true rfl⟩ hl.1 rfl (Nat.le_of_ble_eq_true rfl) ⟨Nat.le_refl _, Nat.le_refl _⟩ dX9_bind_16 hM (fun σ3 r4 H locs hG hM => ?_)
  exact e_vret X hG dX9_bind_19 hM
def M_X9_shut (σ : St) (k : Nat) (p0 p1 : Int32) : Option (St × Int32) := bcall (M_X10_put σ (k + 6) p0 p1) fun σ1 r2 => some (σ1, 0)
set_option maxRecDepth 20000 in
set_option maxHeartbeats 4000000 in
theorem C_X9_shut (l : Launch) (E : Ev) {σ σ' : St} {k : Nat} {p0 : Int32} {p1 : Int32} {r : Int32} (h : M_X9_shut σ k p0 p1 = some (σ', r)) (hL : lay 9 k) : Mv l E yX9_shut cX9_shut 3 2 [.ref (E.1 k), .int p0, .int p1] σ σ' := by
  refine Mv_of (C := RX9) rfl (by decide) (Nat.le_of_ble_eq_true rfl) (z := (σ', r)) (fun p e s m below meth c ls X hG hl => ?_)
  have hx := X.1.1.1
  have hb := X.1.1.2.1
  have hM := h
  unfold M_X9_shut at hM
  generalize (σ', r) = z at hM ⊢
  have hl : lv_has ls 3 [(0, .ref (E.1 k)), (1, .int p0), (2, .int p1)] := hl
  refine lv_aload_n hx hb dX9_shut_0 rfl (lv_at hl 0 rfl) ?_
  refine gt_9_5 X.1 hG hL mw136 dX9_shut_1 ?_
  refine lv_iload_n hx hb dX9_shut_4 rfl (lv_at hl 1 rfl) ?_
  refine lv_iload_n hx hb dX9_shut_5 rfl (lv_at hl 2 rfl) ?_
  refine g_callSN_v (nA := 3) (o := M_X10_put σ (k + 6) p0 p1) (As := [.ref (E.1 (k + 6)), .int p0, .int p1]) X.1 hG (fun _ _ h => C_X10_put l E h (lf_9_5 hL)) mw526 mw465 mw51 (gw_ok mw466 rfl) (by decide +kernel) rfl ⟨Nat.le_of_ble_eq_true rfl, Nat.le_of_ble_eq_true rfl⟩ hl.1 rfl (Nat.le_of_ble_eq_true rfl) ⟨Nat.le_refl _, Nat.le_refl _⟩ dX9_shut_6 hM (fun σ1 r2 H locs hG hM => ?_)
  exact e_vret X hG dX9_shut_9 hM
def M_X9_addLoads (σ : St) (k : Nat) (p0 p1 : Int32) : Option (St × Int32) := bcall (M_X9_loadsOf σ k p0) fun σ1 r2 => bcall (M_X10_put σ1 (k + 5) p0 (r2 + p1)) fun σ3 r4 => some (σ3, 0)
set_option maxRecDepth 20000 in
set_option maxHeartbeats 4000000 in
theorem C_X9_addLoads (l : Launch) (E : Ev) {σ σ' : St} {k : Nat} {p0 : Int32} {p1 : Int32} {r : Int32} (h : M_X9_addLoads σ k p0 p1 = some (σ', r)) (hL : lay 9 k) : Mv l E yX9_addLoads cX9_addLoads 3 3 [.ref (E.1 k), .int p0, .int p1] σ σ' := by
  refine Mv_of (C := RX9) rfl (by decide) (Nat.le_of_ble_eq_true rfl) (z := (σ', r)) (fun p e s m below meth c ls X hG hl => ?_)
  have hx := X.1.1.1
  have hb := X.1.1.2.1
  have hM := h
  unfold M_X9_addLoads at hM
  generalize (σ', r) = z at hM ⊢
  have hl : lv_has ls 3 [(0, .ref (E.1 k)), (1, .int p0), (2, .int p1)] := hl
  refine lv_aload_n hx hb dX9_addLoads_0 rfl (lv_at hl 0 rfl) ?_
  refine gt_9_4 X.1 hG hL mw135 dX9_addLoads_1 ?_
  refine lv_iload_n hx hb dX9_addLoads_4 rfl (lv_at hl 1 rfl) ?_
  refine lv_aload_n hx hb dX9_addLoads_5 rfl (lv_at hl 0 rfl) ?_
  refine lv_iload_n hx hb dX9_addLoads_6 rfl (lv_at hl 1 rfl) ?_
  refine g_callV_i (nA := 1) (o := M_X9_loadsOf σ k p0) (As := [.int p0]) X.1 hG hL rfl rfl (fun _ _ h => C_X9_loadsOf l E h hL) mw652 mw645 mw646 mw56 (gw_ok mw647 rfl) (by decide +kernel) rfl ⟨Nat.le_of_ble_eq_true rfl, Nat.le_of_ble_eq_true rfl⟩ hl.1 rfl (Nat.le_of_ble_eq_true rfl) ⟨Nat.le_refl _, Nat.le_refl _⟩ dX9_addLoads_7 hM (fun σ1 r2 H locs hG hM => ?_)
  refine lv_iload_n hx hb dX9_addLoads_10 rfl (lv_at hl 2 rfl) ?_
  refine lv_iadd hx hb dX9_addLoads_11 ?_
  refine g_callSN_v (nA := 3) (o := M_X10_put σ1 (k + 5) p0 (r2 + p1)) (As := [.ref (E.1 (k + 5)), .int p0, .int (r2 + p1)]) X.1 hG (fun _ _ h => C_X10_put l E h (lf_9_4 hL)) mw526 mw465 mw51 (gw_ok mw466 rfl) (by decide +kernel) rfl ⟨Nat.le_of_ble_eq_true rfl, Nat.le_of_ble_eq_true rfl⟩ hl.1 rfl (Nat.le_of_ble_eq_true rfl) ⟨Nat.le_refl _, Nat.le_refl _⟩ dX9_addLoads_12 hM (fun σ3 r4 H locs hG hM => ?_)
  exact e_vret X hG dX9_addLoads_15 hM
def M_X9_workOff (σ : St) (k : Nat) (p0 p1 : Int32) : Option (St × Int32) := bcall (M_X10_at σ (k + 4) p0) fun σ1 r2 => bcall (M_X10_put σ1 (k + 4) p0 (r2 - p1)) fun σ3 r4 => bcall (M_X10_at σ3 (k + 5) p0) fun σ5 r6 => bcall (M_X10_put σ5 (k + 5) p0 (r6 - (1 : Int32))) fun σ7 r8 => some (σ7, 0)
set_option maxRecDepth 20000 in
set_option maxHeartbeats 4000000 in
theorem C_X9_workOff (l : Launch) (E : Ev) {σ σ' : St} {k : Nat} {p0 : Int32} {p1 : Int32} {r : Int32} (h : M_X9_workOff σ k p0 p1 = some (σ', r)) (hL : lay 9 k) : Mv l E yX9_workOff cX9_workOff 3 2 [.ref (E.1 k), .int p0, .int p1] σ σ' := by
  refine Mv_of (C := RX9) rfl (by decide) (Nat.le_of_ble_eq_true rfl) (z := (σ', r)) (fun p e s m below meth c ls X hG hl => ?_)
  have hx := X.1.1.1
  have hb := X.1.1.2.1
  have hM := h
  unfold M_X9_workOff at hM
  generalize (σ', r) = z at hM ⊢
  have hl : lv_has ls 3 [(0, .ref (E.1 k)), (1, .int p0), (2, .int p1)] := hl
  refine lv_aload_n hx hb dX9_workOff_0 rfl (lv_at hl 0 rfl) ?_
  refine gt_9_3 X.1 hG hL mw134 dX9_workOff_1 ?_
  refine lv_iload_n hx hb dX9_workOff_4 rfl (lv_at hl 1 rfl) ?_
  refine lv_aload_n hx hb dX9_workOff_5 rfl (lv_at hl 0 rfl) ?_
  refine gt_9_3 X.1 hG hL mw134 dX9_workOff_6 ?_
  refine lv_iload_n hx hb dX9_workOff_9 rfl (lv_at hl 1 rfl) ?_
  refine g_callSN_i (nA := 2) (o := M_X10_at σ (k + 4) p0) (As := [.ref (E.1 (k + 4)), .int p0]) X.1 hG (fun _ _ h => C_X10_at l E h (lf_9_3 hL)) mw547 mw511 mw51 (gw_ok mw512 rfl) (by decide +kernel) rfl ⟨Nat.le_of_ble_eq_true rfl, Nat.le_of_ble_eq_true rfl⟩ hl.1 rfl (Nat.le_of_ble_eq_true rfl) ⟨Nat.le_refl _, Nat.le_refl _⟩ dX9_workOff_10 hM (fun σ1 r2 H locs hG hM => ?_)
  refine lv_iload_n hx hb dX9_workOff_13 rfl (lv_at hl 2 rfl) ?_
  refine lv_isub hx hb dX9_workOff_14 ?_
  refine g_callSN_v (nA := 3) (o := M_X10_put σ1 (k + 4) p0 (r2 - p1)) (As := [.ref (E.1 (k + 4)), .int p0, .int (r2 - p1)]) X.1 hG (fun _ _ h => C_X10_put l E h (lf_9_3 hL)) mw526 mw465 mw51 (gw_ok mw466 rfl) (by decide +kernel) rfl ⟨Nat.le_of_ble_eq_true rfl, Nat.le_of_ble_eq_true rfl⟩ hl.1 rfl (Nat.le_of_ble_eq_true rfl) ⟨Nat.le_refl _, Nat.le_refl _⟩ dX9_workOff_15 hM (fun σ3 r4 H locs hG hM => ?_)
  refine lv_aload_n hx hb dX9_workOff_18 rfl (lv_at hl 0 rfl) ?_
  refine gt_9_4 X.1 hG hL mw135 dX9_workOff_19 ?_
  refine lv_iload_n hx hb dX9_workOff_22 rfl (lv_at hl 1 rfl) ?_
  refine lv_aload_n hx hb dX9_workOff_23 rfl (lv_at hl 0 rfl) ?_
  refine gt_9_4 X.1 hG hL mw135 dX9_workOff_24 ?_
  refine lv_iload_n hx hb dX9_workOff_27 rfl (lv_at hl 1 rfl) ?_
  refine g_callSN_i (nA := 2) (o := M_X10_at σ3 (k + 5) p0) (As := [.ref (E.1 (k + 5)), .int p0]) X.1 hG (fun _ _ h => C_X10_at l E h (lf_9_4 hL)) mw547 mw511 mw51 (gw_ok mw512 rfl) (by decide +kernel) rfl ⟨Nat.le_of_ble_eq_true rfl, Nat.le_of_ble_eq_true rfl⟩ hl.1 rfl (Nat.le_of_ble_eq_true rfl) ⟨Nat.le_refl _, Nat.le_refl _⟩ dX9_workOff_28 hM (fun σ5 r6 H locs hG hM => ?_)
  refine lv_iconst (v := (1 : Int32)) hx hb dX9_workOff_31 (by decide) ?_
  refine lv_isub hx hb dX9_workOff_32 ?_
  refine g_callSN_v (nA := 3) (o := M_X10_put σ5 (k + 5) p0 (r6 - (1 : Int32))) (As := [.ref (E.1 (k + 5)), .int p0, .int (r6 - (1 : Int32))]) X.1 hG (fun _ _ h => C_X10_put l E h (lf_9_4 hL)) mw526 mw465 mw51 (gw_ok mw466 rfl) (by decide +kernel) rfl ⟨Nat.le_of_ble_eq_true rfl, Nat.le_of_ble_eq_true rfl⟩ hl.1 rfl (Nat.le_of_ble_eq_true rfl) ⟨Nat.le_refl _, Nat.le_refl _⟩ dX9_workOff_33 hM (fun σ7 r8 H locs hG hM => ?_)
  exact e_vret X hG dX9_workOff_36 hM
def M_X9_makeTiesOlder (σ : St) (k : Nat) (p0 : Int32) : Option (St × Int32) := bcall (M_X10_makeOlder σ (k + 3) (σ k 6) p0 (99 : Int32)) fun σ1 r2 => some (σ1, 0)
set_option maxRecDepth 20000 in
set_option maxHeartbeats 4000000 in
theorem C_X9_makeTiesOlder (l : Launch) (E : Ev) {σ σ' : St} {k : Nat} {p0 : Int32} {r : Int32} (h : M_X9_makeTiesOlder σ k p0 = some (σ', r)) (hL : lay 9 k) : Mv l E yX9_makeTiesOlder cX9_makeTiesOlder 2 3 [.ref (E.1 k), .int p0] σ σ' := by
  refine Mv_of (C := RX9) rfl (by decide) (Nat.le_of_ble_eq_true rfl) (z := (σ', r)) (fun p e s m below meth c ls X hG hl => ?_)
  have hx := X.1.1.1
  have hb := X.1.1.2.1
  have hM := h
  unfold M_X9_makeTiesOlder at hM
  generalize (σ', r) = z at hM ⊢
  have hl : lv_has ls 2 [(0, .ref (E.1 k)), (1, .int p0)] := hl
  refine lv_aload_n hx hb dX9_makeTiesOlder_0 rfl (lv_at hl 0 rfl) ?_
  refine gt_9_2 X.1 hG hL mw133 dX9_makeTiesOlder_1 ?_
  refine lv_aload_n hx hb dX9_makeTiesOlder_4 rfl (lv_at hl 0 rfl) ?_
  refine gt_9_6 X.1 hG hL mw137 dX9_makeTiesOlder_5 ?_
  refine lv_iload_n hx hb dX9_makeTiesOlder_8 rfl (lv_at hl 1 rfl) ?_
  refine lv_bipush (v := (99 : Int32)) hx hb dX9_makeTiesOlder_9 (by decide) ?_
  refine g_callSN_v (nA := 4) (o := M_X10_makeOlder σ (k + 3) (σ k 6) p0 (99 : Int32)) (As := [.ref (E.1 (k + 3)), .int (σ k 6), .int p0, .int (99 : Int32)]) X.1 hG (fun _ _ h => C_X10_makeOlder l E h (lf_9_2 hL)) mw757 mw758 mw51 (gw_ok mw759 rfl) (by decide +kernel) rfl ⟨Nat.le_of_ble_eq_true rfl, Nat.le_of_ble_eq_true rfl⟩ hl.1 rfl (Nat.le_of_ble_eq_true rfl) ⟨Nat.le_refl _, Nat.le_refl _⟩ dX9_makeTiesOlder_11 hM (fun σ1 r2 H locs hG hM => ?_)
  exact e_vret X hG dX9_makeTiesOlder_14 hM
def M_X9_makePolesOlder (σ : St) (k : Nat)  : Option (St × Int32) := bcall (M_X10_makeOlder σ (k + 2) (σ k 6) (1 : Int32) (60 : Int32)) fun σ1 r2 => some (σ1, 0)
set_option maxRecDepth 20000 in
set_option maxHeartbeats 4000000 in
theorem C_X9_makePolesOlder (l : Launch) (E : Ev) {σ σ' : St} {k : Nat} {r : Int32} (h : M_X9_makePolesOlder σ k = some (σ', r)) (hL : lay 9 k) : Mv l E yX9_makePolesOlder cX9_makePolesOlder 1 3 [.ref (E.1 k)] σ σ' := by
  refine Mv_of (C := RX9) rfl (by decide) (Nat.le_of_ble_eq_true rfl) (z := (σ', r)) (fun p e s m below meth c ls X hG hl => ?_)
  have hx := X.1.1.1
  have hb := X.1.1.2.1
  have hM := h
  unfold M_X9_makePolesOlder at hM
  generalize (σ', r) = z at hM ⊢
  have hl : lv_has ls 1 [(0, .ref (E.1 k))] := hl
  refine lv_aload_n hx hb dX9_makePolesOlder_0 rfl (lv_at hl 0 rfl) ?_
  refine gt_9_1 X.1 hG hL mw132 dX9_makePolesOlder_1 ?_
  refine lv_aload_n hx hb dX9_makePolesOlder_4 rfl (lv_at hl 0 rfl) ?_
  refine gt_9_6 X.1 hG hL mw137 dX9_makePolesOlder_5 ?_
  refine lv_iconst (v := (1 : Int32)) hx hb dX9_makePolesOlder_8 (by decide) ?_
  refine lv_bipush (v := (60 : Int32)) hx hb dX9_makePolesOlder_9 (by decide) ?_
  refine g_callSN_v (nA := 4) (o := M_X10_makeOlder σ (k + 2) (σ k 6) (1 : Int32) (60 : Int32)) (As := [.ref (E.1 (k + 2)), .int (σ k 6), .int (1 : Int32), .int (60 : Int32)]) X.1 hG (fun _ _ h => C_X10_makeOlder l E h (lf_9_1 hL)) mw757 mw758 mw51 (gw_ok mw759 rfl) (by decide +kernel) rfl ⟨Nat.le_of_ble_eq_true rfl, Nat.le_of_ble_eq_true rfl⟩ hl.1 rfl (Nat.le_of_ble_eq_true rfl) ⟨Nat.le_refl _, Nat.le_refl _⟩ dX9_makePolesOlder_11 hM (fun σ1 r2 H locs hG hM => ?_)
  exact e_vret X hG dX9_makePolesOlder_14 hM
def M_X9_take (σ : St) (k a0 : Nat)  : Option (St × Int32) := bcall (M_X10_copy σ (a0 + 1) (k + 1)) fun σ1 r2 => bcall (M_X10_copy σ1 (a0 + 2) (k + 2)) fun σ3 r4 => bcall (M_X10_copy σ3 (a0 + 3) (k + 3)) fun σ5 r6 => bcall (M_X10_copy σ5 (a0 + 4) (k + 4)) fun σ7 r8 => bcall (M_X10_copy σ7 (a0 + 5) (k + 5)) fun σ9 r10 => bcall (M_X10_copy σ9 (a0 + 6) (k + 6)) fun σ11 r12 => bput σ11 k 6 (σ11 a0 6) fun σ13 => some (σ13, 0)
set_option maxRecDepth 20000 in
set_option maxHeartbeats 4000000 in
theorem C_X9_take (l : Launch) (E : Ev) {σ σ' : St} {k : Nat} {a0 : Nat} {r : Int32} (h : M_X9_take σ k a0 = some (σ', r)) (hL : lay 9 k) (hA0 : lay 9 a0) : Mv l E yX9_take cX9_take 2 2 [.ref (E.1 k), .ref (E.1 a0)] σ σ' := by
  refine Mv_of (C := RX9) rfl (by decide) (Nat.le_of_ble_eq_true rfl) (z := (σ', r)) (fun p e s m below meth c ls X hG hl => ?_)
  have hx := X.1.1.1
  have hb := X.1.1.2.1
  have hM := h
  unfold M_X9_take at hM
  generalize (σ', r) = z at hM ⊢
  have hl : lv_has ls 2 [(0, .ref (E.1 k)), (1, .ref (E.1 a0))] := hl
  refine lv_aload_n hx hb dX9_take_0 rfl (lv_at hl 1 rfl) ?_
  refine gt_9_0 X.1 hG hA0 mw131 dX9_take_1 ?_
  refine lv_aload_n hx hb dX9_take_4 rfl (lv_at hl 0 rfl) ?_
  refine gt_9_0 X.1 hG hL mw131 dX9_take_5 ?_
  refine g_callSN_v (nA := 2) (o := M_X10_copy σ (a0 + 1) (k + 1)) (As := [.ref (E.1 (a0 + 1)), .ref (E.1 (k + 1))]) X.1 hG (fun _ _ h => C_X10_copy l E h (lf_9_0 hA0) (lf_9_0 hL)) mw440 mw430 mw51 (gw_ok mw431 rfl) (by decide +kernel) rfl ⟨Nat.le_of_ble_eq_true rfl, Nat.le_of_ble_eq_true rfl⟩ hl.1 rfl (Nat.le_of_ble_eq_true rfl) ⟨Nat.le_refl _, Nat.le_refl _⟩ dX9_take_8 hM (fun σ1 r2 H locs hG hM => ?_)
  refine lv_aload_n hx hb dX9_take_11 rfl (lv_at hl 1 rfl) ?_
  refine gt_9_1 X.1 hG hA0 mw132 dX9_take_12 ?_
  refine lv_aload_n hx hb dX9_take_15 rfl (lv_at hl 0 rfl) ?_
  refine gt_9_1 X.1 hG hL mw132 dX9_take_16 ?_
  refine g_callSN_v (nA := 2) (o := M_X10_copy σ1 (a0 + 2) (k + 2)) (As := [.ref (E.1 (a0 + 2)), .ref (E.1 (k + 2))]) X.1 hG (fun _ _ h => C_X10_copy l E h (lf_9_1 hA0) (lf_9_1 hL)) mw440 mw430 mw51 (gw_ok mw431 rfl) (by decide +kernel) rfl ⟨Nat.le_of_ble_eq_true rfl, Nat.le_of_ble_eq_true rfl⟩ hl.1 rfl (Nat.le_of_ble_eq_true rfl) ⟨Nat.le_refl _, Nat.le_refl _⟩ dX9_take_19 hM (fun σ3 r4 H locs hG hM => ?_)
  refine lv_aload_n hx hb dX9_take_22 rfl (lv_at hl 1 rfl) ?_
  refine gt_9_2 X.1 hG hA0 mw133 dX9_take_23 ?_
  refine lv_aload_n hx hb dX9_take_26 rfl (lv_at hl 0 rfl) ?_
  refine gt_9_2 X.1 hG hL mw133 dX9_take_27 ?_
  refine g_callSN_v (nA := 2) (o := M_X10_copy σ3 (a0 + 3) (k + 3)) (As := [.ref (E.1 (a0 + 3)), .ref (E.1 (k + 3))]) X.1 hG (fun _ _ h => C_X10_copy l E h (lf_9_2 hA0) (lf_9_2 hL)) mw440 mw430 mw51 (gw_ok mw431 rfl) (by decide +kernel) rfl ⟨Nat.le_of_ble_eq_true rfl, Nat.le_of_ble_eq_true rfl⟩ hl.1 rfl (Nat.le_of_ble_eq_true rfl) ⟨Nat.le_refl _, Nat.le_refl _⟩ dX9_take_30 hM (fun σ5 r6 H locs hG hM => ?_)
  refine lv_aload_n hx hb dX9_take_33 rfl (lv_at hl 1 rfl) ?_
  refine gt_9_3 X.1 hG hA0 mw134 dX9_take_34 ?_
  refine lv_aload_n hx hb dX9_take_37 rfl (lv_at hl 0 rfl) ?_
  refine gt_9_3 X.1 hG hL mw134 dX9_take_38 ?_
  refine g_callSN_v (nA := 2) (o := M_X10_copy σ5 (a0 + 4) (k + 4)) (As := [.ref (E.1 (a0 + 4)), .ref (E.1 (k + 4))]) X.1 hG (fun _ _ h => C_X10_copy l E h (lf_9_3 hA0) (lf_9_3 hL)) mw440 mw430 mw51 (gw_ok mw431 rfl) (by decide +kernel) rfl ⟨Nat.le_of_ble_eq_true rfl, Nat.le_of_ble_eq_true rfl⟩ hl.1 rfl (Nat.le_of_ble_eq_true rfl) ⟨Nat.le_refl _, Nat.le_refl _⟩ dX9_take_41 hM (fun σ7 r8 H locs hG hM => ?_)
  refine lv_aload_n hx hb dX9_take_44 rfl (lv_at hl 1 rfl) ?_
  refine gt_9_4 X.1 hG hA0 mw135 dX9_take_45 ?_
  refine lv_aload_n hx hb dX9_take_48 rfl (lv_at hl 0 rfl) ?_
  refine gt_9_4 X.1 hG hL mw135 dX9_take_49 ?_
  refine g_callSN_v (nA := 2) (o := M_X10_copy σ7 (a0 + 5) (k + 5)) (As := [.ref (E.1 (a0 + 5)), .ref (E.1 (k + 5))]) X.1 hG (fun _ _ h => C_X10_copy l E h (lf_9_4 hA0) (lf_9_4 hL)) mw440 mw430 mw51 (gw_ok mw431 rfl) (by decide +kernel) rfl ⟨Nat.le_of_ble_eq_true rfl, Nat.le_of_ble_eq_true rfl⟩ hl.1 rfl (Nat.le_of_ble_eq_true rfl) ⟨Nat.le_refl _, Nat.le_refl _⟩ dX9_take_52 hM (fun σ9 r10 H locs hG hM => ?_)
  refine lv_aload_n hx hb dX9_take_55 rfl (lv_at hl 1 rfl) ?_
  refine gt_9_5 X.1 hG hA0 mw136 dX9_take_56 ?_
  refine lv_aload_n hx hb dX9_take_59 rfl (lv_at hl 0 rfl) ?_
  refine gt_9_5 X.1 hG hL mw136 dX9_take_60 ?_
  refine g_callSN_v (nA := 2) (o := M_X10_copy σ9 (a0 + 6) (k + 6)) (As := [.ref (E.1 (a0 + 6)), .ref (E.1 (k + 6))]) X.1 hG (fun _ _ h => C_X10_copy l E h (lf_9_5 hA0) (lf_9_5 hL)) mw440 mw430 mw51 (gw_ok mw431 rfl) (by decide +kernel) rfl ⟨Nat.le_of_ble_eq_true rfl, Nat.le_of_ble_eq_true rfl⟩ hl.1 rfl (Nat.le_of_ble_eq_true rfl) ⟨Nat.le_refl _, Nat.le_refl _⟩ dX9_take_63 hM (fun σ11 r12 H locs hG hM => ?_)
  refine lv_aload_n hx hb dX9_take_66 rfl (lv_at hl 0 rfl) ?_
  refine lv_aload_n hx hb dX9_take_67 rfl (lv_at hl 1 rfl) ?_
  refine gt_9_6 X.1 hG hA0 mw137 dX9_take_68 ?_
  refine pt_9_6 X.1 hG hL mw137 dX9_take_71 hM (fun σ13 H locs hG hM => ?_)
  exact e_vret X hG dX9_take_74 hM
def M_X10_clear (σ : St) (k : Nat)  : Option (St × Int32) := blet (σ (k + 5) 4) fun v1 => bcall (M_X7_makeBare σ (k + 5)) fun σ2 r3 => bcall (M_X2_forget σ2 (k + 59)) fun σ4 r5 => some (σ4, v1)
set_option maxRecDepth 20000 in
set_option maxHeartbeats 4000000 in
theorem C_X10_clear (l : Launch) (E : Ev) {σ σ' : St} {k : Nat} {r : Int32} (h : M_X10_clear σ k = some (σ', r)) (hL : lay 10 k) : Mi l E yX10_clear cX10_clear 2 (some .int) 3 [.ref (E.1 k)] σ σ' r := by
  refine Mi_of (C := RX10) rfl (by decide) (Nat.le_of_ble_eq_true rfl) (z := (σ', r)) (fun p e s m below meth c ls X hG hl => ?_)
  have hx := X.1.1.1
  have hb := X.1.1.2.1
  have hM := h
  unfold M_X10_clear at hM
  generalize (σ', r) = z at hM ⊢
  have hl : lv_has ls 2 [(0, .ref (E.1 k))] := hl
  refine lv_aload_n hx hb dX10_clear_0 rfl (lv_at hl 0 rfl) ?_
  refine gt_10_1 X.1 hG hL mw334 dX10_clear_1 ?_
  refine gtN_7_4 X.1 hG (lf_10_1 hL) mw209 dX10_clear_4 ?_
  refine g_name hM (fun v1 hM => ?_)
  refine lv_istore_n (lv' := [(1, .int v1), (0, .ref (E.1 k))]) hx hb dX10_clear_7 rfl hl (by decide) rfl (fun ls hl => ?_)
  refine lv_aload_n hx hb dX10_clear_8 rfl (lv_at hl 1 rfl) ?_
  refine gt_10_1 X.1 hG hL mw334 dX10_clear_9 ?_
  refine g_callV_v (nA := 0) (o := M_X7_makeBare σ (k + 5)) (As := []) X.1 hG (lf_10_1 hL) rfl rfl (fun _ _ h => C_X7_makeBare l E h (lf_10_1 hL)) mw368 mw369 mw370 mw54 (gw_ok mw371 rfl) (by decide +kernel) rfl ⟨Nat.le_of_ble_eq_true rfl, Nat.le_of_ble_eq_true rfl⟩ hl.1 rfl (Nat.le_of_ble_eq_true rfl) ⟨Nat.le_refl _, Nat.le_refl _⟩ dX10_clear_12 hM (fun σ2 r3 H locs hG hM => ?_)
  refine lv_aload_n hx hb dX10_clear_15 rfl (lv_at hl 1 rfl) ?_
  refine gt_10_4 X.1 hG hL mw337 dX10_clear_16 ?_
  refine g_callV_v (nA := 0) (o := M_X2_forget σ2 (k + 59)) (As := []) X.1 hG (lf_10_4 hL) rfl rfl (fun _ _ h => C_X2_forget l E h (lf_10_4 hL)) mw394 mw395 mw396 mw59 (gw_ok mw397 rfl) (by decide +kernel) rfl ⟨Nat.le_of_ble_eq_true rfl, Nat.le_of_ble_eq_true rfl⟩ hl.1 rfl (Nat.le_of_ble_eq_true rfl) ⟨Nat.le_refl _, Nat.le_refl _⟩ dX10_clear_19 hM (fun σ4 r5 H locs hG hM => ?_)
  refine lv_iload_n hx hb dX10_clear_22 rfl (lv_at hl 0 rfl) ?_
  exact e_iret X hG dX10_clear_23 hM
def M_X10_append (σ : St) (k : Nat) (p0 : Int32) : Option (St × Int32) := bcall (M_X10_isWithin σ p0 (32 : Int32) (126 : Int32)) fun σ1 r2 => if r2 = 0 then some (σ1, (-2 : Int32)) else (if (σ1 (k + 241) 1) < (60 : Int32) then (bcall (M_X4_put σ1 (k + 241) p0) fun σ3 r4 => some (σ3, σ3 (k + 241) 1)) else some (σ1, (-2 : Int32)))
set_option maxRecDepth 20000 in
set_option maxHeartbeats 4000000 in
theorem C_X10_append (l : Launch) (E : Ev) {σ σ' : St} {k : Nat} {p0 : Int32} {r : Int32} (h : M_X10_append σ k p0 = some (σ', r)) (hL : lay 10 k) : Mi l E yX10_append cX10_append 2 (some .int) 2 [.ref (E.1 k), .int p0] σ σ' r := by
  refine Mi_of (C := RX10) rfl (by decide) (Nat.le_of_ble_eq_true rfl) (z := (σ', r)) (fun p e s m below meth c ls X hG hl => ?_)
  have hx := X.1.1.1
  have hb := X.1.1.2.1
  have hM := h
  unfold M_X10_append at hM
  generalize (σ', r) = z at hM ⊢
  have hl : lv_has ls 2 [(0, .ref (E.1 k)), (1, .int p0)] := hl
  refine lv_iload_n hx hb dX10_append_0 rfl (lv_at hl 1 rfl) ?_
  refine lv_bipush (v := (32 : Int32)) hx hb dX10_append_1 (by decide) ?_
  refine lv_bipush (v := (126 : Int32)) hx hb dX10_append_3 (by decide) ?_
  refine g_callS_i (nA := 3) (o := M_X10_isWithin σ p0 (32 : Int32) (126 : Int32)) (As := [.int p0, .int (32 : Int32), .int (126 : Int32)]) X.1 hG (fun _ _ h => C_X10_isWithin l E h ) mw402 mw403 mw51 (gw_ok mw404 rfl) (by decide +kernel) rfl ⟨Nat.le_of_ble_eq_true rfl, Nat.le_of_ble_eq_true rfl⟩ hl.1 rfl (Nat.le_of_ble_eq_true rfl) ⟨Nat.le_refl _, Nat.le_refl _⟩ dX10_append_5 hM (fun σ1 r2 H locs hG hM => ?_)
  refine lv_if_eq (tgt := 23) hx hb dX10_append_8 (by decide) (fun c6 => ?_) (fun c6 => ?_)
  · have hM := b_if hM c6
    refine lv_bipush (v := (-2 : Int32)) hx hb dX10_append_23 (by decide) ?_
    exact e_iret X hG dX10_append_25 hM
  · have hM := b_else hM c6
    refine lv_aload_n hx hb dX10_append_11 rfl (lv_at hl 0 rfl) ?_
    refine gt_10_5 X.1 hG hL mw338 dX10_append_12 ?_
    refine gtN_4_1 X.1 hG (lf_10_5 hL) mw306 dX10_append_15 ?_
    refine lv_bipush (v := (60 : Int32)) hx hb dX10_append_18 (by decide) ?_
    refine lv_icmp_lt (tgt := 26) hx hb dX10_append_20 (by decide) (fun c5 => ?_) (fun c5 => ?_)
    · have hM := b_if hM c5
      refine lv_aload_n hx hb dX10_append_26 rfl (lv_at hl 0 rfl) ?_
      refine gt_10_5 X.1 hG hL mw338 dX10_append_27 ?_
      refine lv_iload_n hx hb dX10_append_30 rfl (lv_at hl 1 rfl) ?_
      refine g_callV_v (nA := 1) (o := M_X4_put σ1 (k + 241) p0) (As := [.int p0]) X.1 hG (lf_10_5 hL) rfl rfl (fun _ _ h => C_X4_put l E h (lf_10_5 hL)) mw405 mw406 mw407 mw60 (gw_ok mw408 rfl) (by decide +kernel) rfl ⟨Nat.le_of_ble_eq_true rfl, Nat.le_of_ble_eq_true rfl⟩ hl.1 rfl (Nat.le_of_ble_eq_true rfl) ⟨Nat.le_refl _, Nat.le_refl _⟩ dX10_append_31 hM (fun σ3 r4 H locs hG hM => ?_)
      refine lv_aload_n hx hb dX10_append_34 rfl (lv_at hl 0 rfl) ?_
      refine gt_10_5 X.1 hG hL mw338 dX10_append_35 ?_
      refine gtN_4_1 X.1 hG (lf_10_5 hL) mw306 dX10_append_38 ?_
      exact e_iret X hG dX10_append_41 hM
    · have hM := b_else hM c5
      refine lv_bipush (v := (-2 : Int32)) hx hb dX10_append_23 (by decide) ?_
      exact e_iret X hG dX10_append_25 hM
def M_X10_reason (σ : St) (k : Nat) (p0 p1 : Int32) : Option (St × Int32) := bcall (M_X6_tell σ ((k + 1) + 1) p0 p1) fun σ1 r2 => some (σ1, r2)
set_option maxRecDepth 20000 in
set_option maxHeartbeats 4000000 in
theorem C_X10_reason (l : Launch) (E : Ev) {σ σ' : St} {k : Nat} {p0 : Int32} {p1 : Int32} {r : Int32} (h : M_X10_reason σ k p0 p1 = some (σ', r)) (hL : lay 10 k) : Mi l E yX10_reason cX10_reason 3 (some .int) 3 [.ref (E.1 k), .int p0, .int p1] σ σ' r := by
  refine Mi_of (C := RX10) rfl (by decide) (Nat.le_of_ble_eq_true rfl) (z := (σ', r)) (fun p e s m below meth c ls X hG hl => ?_)
  have hx := X.1.1.1
  have hb := X.1.1.2.1
  have hM := h
  unfold M_X10_reason at hM
  generalize (σ', r) = z at hM ⊢
  have hl : lv_has ls 3 [(0, .ref (E.1 k)), (1, .int p0), (2, .int p1)] := hl
  refine lv_aload_n hx hb dX10_reason_0 rfl (lv_at hl 0 rfl) ?_
  refine gt_10_0 X.1 hG hL mw333 dX10_reason_1 ?_
  refine gtN_8_0 X.1 hG (lf_10_0 hL) mw264 dX10_reason_4 ?_
  refine lv_iload_n hx hb dX10_reason_7 rfl (lv_at hl 1 rfl) ?_
  refine lv_iload_n hx hb dX10_reason_8 rfl (lv_at hl 2 rfl) ?_
  refine g_callV_i (nA := 2) (o := M_X6_tell σ ((k + 1) + 1) p0 p1) (As := [.int p0, .int p1]) X.1 hG (lf_8_0 (lf_10_0 hL)) rfl rfl (fun _ _ h => C_X6_tell l E h (lf_8_0 (lf_10_0 hL))) mw907 mw908 mw909 mw53 (gw_ok mw910 rfl) (by decide +kernel) rfl ⟨Nat.le_of_ble_eq_true rfl, Nat.le_of_ble_eq_true rfl⟩ hl.1 rfl (Nat.le_of_ble_eq_true rfl) ⟨Nat.le_refl _, Nat.le_refl _⟩ dX10_reason_9 hM (fun σ1 r2 H locs hG hM => ?_)
  exact e_iret X hG dX10_reason_12 hM
def M_X10_bundleOf (σ : St) (k : Nat) (p0 p1 : Int32) : Option (St × Int32) := bcall (M_X0_has σ ((k + 5) + 1) p0) fun σ1 r2 => if r2 = 0 then some (σ1, (-1 : Int32)) else (if p1 = 0 then (bcall (M_X0_polesOf σ1 ((k + 5) + 1) p0) fun σ3 r4 => some (σ3, r4)) else (bcall (M_X0_weeksOf σ1 ((k + 5) + 1) p0) fun σ5 r6 => some (σ5, r6)))
set_option maxRecDepth 20000 in
set_option maxHeartbeats 4000000 in
theorem C_X10_bundleOf (l : Launch) (E : Ev) {σ σ' : St} {k : Nat} {p0 : Int32} {p1 : Int32} {r : Int32} (h : M_X10_bundleOf σ k p0 p1 = some (σ', r)) (hL : lay 10 k) : Mi l E yX10_bundleOf cX10_bundleOf 3 (some .int) 3 [.ref (E.1 k), .int p0, .int p1] σ σ' r := by
  refine Mi_of (C := RX10) rfl (by decide) (Nat.le_of_ble_eq_true rfl) (z := (σ', r)) (fun p e s m below meth c ls X hG hl => ?_)
  have hx := X.1.1.1
  have hb := X.1.1.2.1
  have hM := h
  unfold M_X10_bundleOf at hM
  generalize (σ', r) = z at hM ⊢
  have hl : lv_has ls 3 [(0, .ref (E.1 k)), (1, .int p0), (2, .int p1)] := hl
  refine lv_aload_n hx hb dX10_bundleOf_0 rfl (lv_at hl 0 rfl) ?_
  refine gt_10_1 X.1 hG hL mw334 dX10_bundleOf_1 ?_
  refine gtN_7_0 X.1 hG (lf_10_1 hL) mw198 dX10_bundleOf_4 ?_
  refine lv_iload_n hx hb dX10_bundleOf_7 rfl (lv_at hl 1 rfl) ?_
  refine g_callV_i (nA := 1) (o := M_X0_has σ ((k + 5) + 1) p0) (As := [.int p0]) X.1 hG (lf_7_0 (lf_10_1 hL)) rfl rfl (fun _ _ h => C_X0_has l E h (lf_7_0 (lf_10_1 hL))) mw915 mw499 mw500 mw55 (gw_ok mw501 rfl) (by decide +kernel) rfl ⟨Nat.le_of_ble_eq_true rfl, Nat.le_of_ble_eq_true rfl⟩ hl.1 rfl (Nat.le_of_ble_eq_true rfl) ⟨Nat.le_refl _, Nat.le_refl _⟩ dX10_bundleOf_8 hM (fun σ1 r2 H locs hG hM => ?_)
  refine lv_if_ne (tgt := 16) hx hb dX10_bundleOf_11 (by decide) (fun c8 => ?_) (fun c8 => ?_)
  · have hM := b_else hM c8
    refine lv_iload_n hx hb dX10_bundleOf_16 rfl (lv_at hl 2 rfl) ?_
    refine lv_if_eq (tgt := 34) hx hb dX10_bundleOf_17 (by decide) (fun c7 => ?_) (fun c7 => ?_)
    · have hM := b_if hM c7
      refine lv_aload_n hx hb dX10_bundleOf_34 rfl (lv_at hl 0 rfl) ?_
      refine gt_10_1 X.1 hG hL mw334 dX10_bundleOf_35 ?_
      refine gtN_7_0 X.1 hG (lf_10_1 hL) mw198 dX10_bundleOf_38 ?_
      refine lv_iload_n hx hb dX10_bundleOf_41 rfl (lv_at hl 1 rfl) ?_
      refine g_callV_i (nA := 1) (o := M_X0_polesOf σ1 ((k + 5) + 1) p0) (As := [.int p0]) X.1 hG (lf_7_0 (lf_10_1 hL)) rfl rfl (fun _ _ h => C_X0_polesOf l E h (lf_7_0 (lf_10_1 hL))) mw917 mw507 mw508 mw55 (gw_ok mw509 rfl) (by decide +kernel) rfl ⟨Nat.le_of_ble_eq_true rfl, Nat.le_of_ble_eq_true rfl⟩ hl.1 rfl (Nat.le_of_ble_eq_true rfl) ⟨Nat.le_refl _, Nat.le_refl _⟩ dX10_bundleOf_42 hM (fun σ3 r4 H locs hG hM => ?_)
      exact e_iret X hG dX10_bundleOf_45 hM
    · have hM := b_else hM c7
      refine lv_aload_n hx hb dX10_bundleOf_20 rfl (lv_at hl 0 rfl) ?_
      refine gt_10_1 X.1 hG hL mw334 dX10_bundleOf_21 ?_
      refine gtN_7_0 X.1 hG (lf_10_1 hL) mw198 dX10_bundleOf_24 ?_
      refine lv_iload_n hx hb dX10_bundleOf_27 rfl (lv_at hl 1 rfl) ?_
      refine g_callV_i (nA := 1) (o := M_X0_weeksOf σ1 ((k + 5) + 1) p0) (As := [.int p0]) X.1 hG (lf_7_0 (lf_10_1 hL)) rfl rfl (fun _ _ h => C_X0_weeksOf l E h (lf_7_0 (lf_10_1 hL))) mw916 mw519 mw520 mw55 (gw_ok mw521 rfl) (by decide +kernel) rfl ⟨Nat.le_of_ble_eq_true rfl, Nat.le_of_ble_eq_true rfl⟩ hl.1 rfl (Nat.le_of_ble_eq_true rfl) ⟨Nat.le_refl _, Nat.le_refl _⟩ dX10_bundleOf_28 hM (fun σ5 r6 H locs hG hM => ?_)
      refine lv_goto (tgt := 45) hx hb dX10_bundleOf_31 (by decide) ?_
      exact e_iret X hG dX10_bundleOf_45 hM
  · have hM := b_if hM c8
    refine lv_iconst (v := (-1 : Int32)) hx hb dX10_bundleOf_14 (by decide) ?_
    exact e_iret X hG dX10_bundleOf_15 hM
def M_X10_storeyOf (σ : St) (k : Nat) (p0 p1 : Int32) : Option (St × Int32) := bcall (M_X9_has σ ((k + 5) + 4) p0) fun σ1 r2 => if r2 = 0 then some (σ1, (-1 : Int32)) else (if p1.toInt < 0 ∨ 6 < p1.toInt then some (σ1, (-2 : Int32)) else if p1.toInt = 0 then (bcall (M_X9_polesOf σ1 ((k + 5) + 4) p0) fun σ5 r6 => some (σ5, r6)) else if p1.toInt = 1 then (bcall (M_X9_weeksOf σ1 ((k + 5) + 4) p0) fun σ8 r9 => some (σ8, r9)) else if p1.toInt = 2 then (bcall (M_X9_tieOf σ1 ((k + 5) + 4) p0) fun σ11 r12 => some (σ11, r12)) else if p1.toInt = 3 then (bcall (M_X9_hoursOf σ1 ((k + 5) + 4) p0) fun σ14 r15 => some (σ14, r15)) else if p1.toInt = 4 then (bcall (M_X9_loadsOf σ1 ((k + 5) + 4) p0) fun σ17 r18 => some (σ17, r18)) else if p1.toInt = 5 then (bcall (M_X9_isShut σ1 ((k + 5) + 4) p0) fun σ20 r21 => if r21 = 0 then some (σ20, (0 : Int32)) else some (σ20, (1 : Int32))) else if p1.toInt = 6 then (bcall (M_X1_bitsOn σ1 ((k + 5) + 11) p0) fun σ24 r25 => some (σ24, r25)) else none)
set_option maxRecDepth 20000 in
set_option maxHeartbeats 4000000 in
theorem C_X10_storeyOf (l : Launch) (E : Ev) {σ σ' : St} {k : Nat} {p0 : Int32} {p1 : Int32} {r : Int32} (h : M_X10_storeyOf σ k p0 p1 = some (σ', r)) (hL : lay 10 k) : Mi l E yX10_storeyOf cX10_storeyOf 4 (some .int) 4 [.ref (E.1 k), .int p0, .int p1] σ σ' r := by
  refine Mi_of (C := RX10) rfl (by decide) (Nat.le_of_ble_eq_true rfl) (z := (σ', r)) (fun p e s m below meth c ls X hG hl => ?_)
  have hx := X.1.1.1
  have hb := X.1.1.2.1
  have hM := h
  unfold M_X10_storeyOf at hM
  generalize (σ', r) = z at hM ⊢
  have hl : lv_has ls 4 [(0, .ref (E.1 k)), (1, .int p0), (2, .int p1)] := hl
  refine lv_aload_n hx hb dX10_storeyOf_0 rfl (lv_at hl 0 rfl) ?_
  refine gt_10_1 X.1 hG hL mw334 dX10_storeyOf_1 ?_
  refine gtN_7_1 X.1 hG (lf_10_1 hL) mw201 dX10_storeyOf_4 ?_
  refine lv_astore_n (lv' := [(3, .ref (E.1 ((k + 5) + 4))), (0, .ref (E.1 k)), (1, .int p0), (2, .int p1)]) hx hb dX10_storeyOf_7 rfl hl (by decide) rfl (fun ls hl => ?_)
  refine lv_aload_n hx hb dX10_storeyOf_8 rfl (lv_at hl 0 rfl) ?_
  refine lv_iload_n hx hb dX10_storeyOf_9 rfl (lv_at hl 2 rfl) ?_
  refine g_callV_i (nA := 1) (o := M_X9_has σ ((k + 5) + 4) p0) (As := [.int p0]) X.1 hG (lf_7_1 (lf_10_1 hL)) rfl rfl (fun _ _ h => C_X9_has l E h (lf_7_1 (lf_10_1 hL))) mw922 mw540 mw541 mw56 (gw_ok mw542 rfl) (by decide +kernel) rfl ⟨Nat.le_of_ble_eq_true rfl, Nat.le_of_ble_eq_true rfl⟩ hl.1 rfl (Nat.le_of_ble_eq_true rfl) ⟨Nat.le_refl _, Nat.le_refl _⟩ dX10_storeyOf_10 hM (fun σ1 r2 H locs hG hM => ?_)
  refine lv_if_ne (tgt := 18) hx hb dX10_storeyOf_13 (by decide) (fun c26 => ?_) (fun c26 => ?_)
  · have hM := b_else hM c26
    refine lv_iload_n hx hb dX10_storeyOf_18 rfl (lv_at hl 3 rfl) ?_
    by_cases c3 : p1.toInt < 0 ∨ 6 < p1.toInt
    · have hM := b_if hM c3
      refine lv_tableOut (tgt := 116) hx hb dX10_storeyOf_19 c3 (by decide) ?_
      refine lv_bipush (v := (-2 : Int32)) hx hb dX10_storeyOf_116 (by decide) ?_
      exact e_iret X hG dX10_storeyOf_118 hM
    · have hM := b_else hM c3
      by_cases c4 : p1.toInt = 0
      · have hM := b_if hM c4
        refine lv_tableIn (tgt := 60) hx hb dX10_storeyOf_19 (fun h => c3 (Or.inl h)) (fun h => c3 (Or.inr h)) (by rw [c4]; rfl) (by decide) ?_
        refine lv_aload_n hx hb dX10_storeyOf_60 rfl (lv_at hl 0 rfl) ?_
        refine lv_iload_n hx hb dX10_storeyOf_61 rfl (lv_at hl 2 rfl) ?_
        refine g_callV_i (nA := 1) (o := M_X9_polesOf σ1 ((k + 5) + 4) p0) (As := [.int p0]) X.1 hG (lf_7_1 (lf_10_1 hL)) rfl rfl (fun _ _ h => C_X9_polesOf l E h (lf_7_1 (lf_10_1 hL))) mw923 mw553 mw554 mw56 (gw_ok mw555 rfl) (by decide +kernel) rfl ⟨Nat.le_of_ble_eq_true rfl, Nat.le_of_ble_eq_true rfl⟩ hl.1 rfl (Nat.le_of_ble_eq_true rfl) ⟨Nat.le_refl _, Nat.le_refl _⟩ dX10_storeyOf_62 hM (fun σ5 r6 H locs hG hM => ?_)
        exact e_iret X hG dX10_storeyOf_65 hM
      have hM := b_else hM c4
      by_cases c7 : p1.toInt = 1
      · have hM := b_if hM c7
        refine lv_tableIn (tgt := 66) hx hb dX10_storeyOf_19 (fun h => c3 (Or.inl h)) (fun h => c3 (Or.inr h)) (by rw [c7]; rfl) (by decide) ?_
        refine lv_aload_n hx hb dX10_storeyOf_66 rfl (lv_at hl 0 rfl) ?_
        refine lv_iload_n hx hb dX10_storeyOf_67 rfl (lv_at hl 2 rfl) ?_
        refine g_callV_i (nA := 1) (o := M_X9_weeksOf σ1 ((k + 5) + 4) p0) (As := [.int p0]) X.1 hG (lf_7_1 (lf_10_1 hL)) rfl rfl (fun _ _ h => C_X9_weeksOf l E h (lf_7_1 (lf_10_1 hL))) mw924 mw925 mw926 mw56 (gw_ok mw927 rfl) (by decide +kernel) rfl ⟨Nat.le_of_ble_eq_true rfl, Nat.le_of_ble_eq_true rfl⟩ hl.1 rfl (Nat.le_of_ble_eq_true rfl) ⟨Nat.le_refl _, Nat.le_refl _⟩ dX10_storeyOf_68 hM (fun σ8 r9 H locs hG hM => ?_)
        exact e_iret X hG dX10_storeyOf_71 hM
      have hM := b_else hM c7
      by_cases c10 : p1.toInt = 2
      · have hM := b_if hM c10
        refine lv_tableIn (tgt := 72) hx hb dX10_storeyOf_19 (fun h => c3 (Or.inl h)) (fun h => c3 (Or.inr h)) (by rw [c10]; rfl) (by decide) ?_
        refine lv_aload_n hx hb dX10_storeyOf_72 rfl (lv_at hl 0 rfl) ?_
        refine lv_iload_n hx hb dX10_storeyOf_73 rfl (lv_at hl 2 rfl) ?_
        refine g_callV_i (nA := 1) (o := M_X9_tieOf σ1 ((k + 5) + 4) p0) (As := [.int p0]) X.1 hG (lf_7_1 (lf_10_1 hL)) rfl rfl (fun _ _ h => C_X9_tieOf l E h (lf_7_1 (lf_10_1 hL))) mw928 mw544 mw545 mw56 (gw_ok mw546 rfl) (by decide +kernel) rfl ⟨Nat.le_of_ble_eq_true rfl, Nat.le_of_ble_eq_true rfl⟩ hl.1 rfl (Nat.le_of_ble_eq_true rfl) ⟨Nat.le_refl _, Nat.le_refl _⟩ dX10_storeyOf_74 hM (fun σ11 r12 H locs hG hM => ?_)
        exact e_iret X hG dX10_storeyOf_77 hM
      have hM := b_else hM c10
      by_cases c13 : p1.toInt = 3
      · have hM := b_if hM c13
        refine lv_tableIn (tgt := 78) hx hb dX10_storeyOf_19 (fun h => c3 (Or.inl h)) (fun h => c3 (Or.inr h)) (by rw [c13]; rfl) (by decide) ?_
        refine lv_aload_n hx hb dX10_storeyOf_78 rfl (lv_at hl 0 rfl) ?_
        refine lv_iload_n hx hb dX10_storeyOf_79 rfl (lv_at hl 2 rfl) ?_
        refine g_callV_i (nA := 1) (o := M_X9_hoursOf σ1 ((k + 5) + 4) p0) (As := [.int p0]) X.1 hG (lf_7_1 (lf_10_1 hL)) rfl rfl (fun _ _ h => C_X9_hoursOf l E h (lf_7_1 (lf_10_1 hL))) mw929 mw732 mw733 mw56 (gw_ok mw734 rfl) (by decide +kernel) rfl ⟨Nat.le_of_ble_eq_true rfl, Nat.le_of_ble_eq_true rfl⟩ hl.1 rfl (Nat.le_of_ble_eq_true rfl) ⟨Nat.le_refl _, Nat.le_refl _⟩ dX10_storeyOf_80 hM (fun σ14 r15 H locs hG hM => ?_)
        exact e_iret X hG dX10_storeyOf_83 hM
      have hM := b_else hM c13
      by_cases c16 : p1.toInt = 4
      · have hM := b_if hM c16
        refine lv_tableIn (tgt := 84) hx hb dX10_storeyOf_19 (fun h => c3 (Or.inl h)) (fun h => c3 (Or.inr h)) (by rw [c16]; rfl) (by decide) ?_
        refine lv_aload_n hx hb dX10_storeyOf_84 rfl (lv_at hl 0 rfl) ?_
        refine lv_iload_n hx hb dX10_storeyOf_85 rfl (lv_at hl 2 rfl) ?_
        refine g_callV_i (nA := 1) (o := M_X9_loadsOf σ1 ((k + 5) + 4) p0) (As := [.int p0]) X.1 hG (lf_7_1 (lf_10_1 hL)) rfl rfl (fun _ _ h => C_X9_loadsOf l E h (lf_7_1 (lf_10_1 hL))) mw930 mw645 mw646 mw56 (gw_ok mw647 rfl) (by decide +kernel) rfl ⟨Nat.le_of_ble_eq_true rfl, Nat.le_of_ble_eq_true rfl⟩ hl.1 rfl (Nat.le_of_ble_eq_true rfl) ⟨Nat.le_refl _, Nat.le_refl _⟩ dX10_storeyOf_86 hM (fun σ17 r18 H locs hG hM => ?_)
        exact e_iret X hG dX10_storeyOf_89 hM
      have hM := b_else hM c16
      by_cases c19 : p1.toInt = 5
      · have hM := b_if hM c19
        refine lv_tableIn (tgt := 90) hx hb dX10_storeyOf_19 (fun h => c3 (Or.inl h)) (fun h => c3 (Or.inr h)) (by rw [c19]; rfl) (by decide) ?_
        refine lv_aload_n hx hb dX10_storeyOf_90 rfl (lv_at hl 0 rfl) ?_
        refine lv_iload_n hx hb dX10_storeyOf_91 rfl (lv_at hl 2 rfl) ?_
        refine g_callV_i (nA := 1) (o := M_X9_isShut σ1 ((k + 5) + 4) p0) (As := [.int p0]) X.1 hG (lf_7_1 (lf_10_1 hL)) rfl rfl (fun _ _ h => C_X9_isShut l E h (lf_7_1 (lf_10_1 hL))) mw931 mw592 mw593 mw56 (gw_ok mw594 rfl) (by decide +kernel) rfl ⟨Nat.le_of_ble_eq_true rfl, Nat.le_of_ble_eq_true rfl⟩ hl.1 rfl (Nat.le_of_ble_eq_true rfl) ⟨Nat.le_refl _, Nat.le_refl _⟩ dX10_storeyOf_92 hM (fun σ20 r21 H locs hG hM => ?_)
        refine lv_if_eq (tgt := 102) hx hb dX10_storeyOf_95 (by decide) (fun c22 => ?_) (fun c22 => ?_)
        · have hM := b_if hM c22
          refine lv_iconst (v := (0 : Int32)) hx hb dX10_storeyOf_102 (by decide) ?_
          exact e_iret X hG dX10_storeyOf_103 hM
        · have hM := b_else hM c22
          refine lv_iconst (v := (1 : Int32)) hx hb dX10_storeyOf_98 (by decide) ?_
          refine lv_goto (tgt := 103) hx hb dX10_storeyOf_99 (by decide) ?_
          exact e_iret X hG dX10_storeyOf_103 hM
      have hM := b_else hM c19
      by_cases c23 : p1.toInt = 6
      · have hM := b_if hM c23
        refine lv_tableIn (tgt := 104) hx hb dX10_storeyOf_19 (fun h => c3 (Or.inl h)) (fun h => c3 (Or.inr h)) (by rw [c23]; rfl) (by decide) ?_
        refine lv_aload_n hx hb dX10_storeyOf_104 rfl (lv_at hl 1 rfl) ?_
        refine gt_10_1 X.1 hG hL mw334 dX10_storeyOf_105 ?_
        refine gtN_7_2 X.1 hG (lf_10_1 hL) mw204 dX10_storeyOf_108 ?_
        refine lv_iload_n hx hb dX10_storeyOf_111 rfl (lv_at hl 2 rfl) ?_
        refine g_callV_i (nA := 1) (o := M_X1_bitsOn σ1 ((k + 5) + 11) p0) (As := [.int p0]) X.1 hG (lf_7_2 (lf_10_1 hL)) rfl rfl (fun _ _ h => C_X1_bitsOn l E h (lf_7_2 (lf_10_1 hL))) mw932 mw614 mw615 mw57 (gw_ok mw616 rfl) (by decide +kernel) rfl ⟨Nat.le_of_ble_eq_true rfl, Nat.le_of_ble_eq_true rfl⟩ hl.1 rfl (Nat.le_of_ble_eq_true rfl) ⟨Nat.le_refl _, Nat.le_refl _⟩ dX10_storeyOf_112 hM (fun σ24 r25 H locs hG hM => ?_)
        exact e_iret X hG dX10_storeyOf_115 hM
      have hM := b_else hM c23
      cases hM
  · have hM := b_if hM c26
    refine lv_iconst (v := (-1 : Int32)) hx hb dX10_storeyOf_16 (by decide) ?_
    exact e_iret X hG dX10_storeyOf_17 hM
def M_X10_strength (σ : St) (k : Nat) (p0 p1 : Int32) : Option (St × Int32) := bcall (M_X9_has σ ((k + 5) + 4) p0) fun σ1 r2 => if r2 = 0 then some (σ1, (-1 : Int32)) else (if p1 = 0 then (bcall (M_X9_strengthOf σ1 ((k + 5) + 4) p0) fun σ3 r4 => some (σ3, r4)) else (bcall (M_X9_strengthByStepsOf σ1 ((k + 5) + 4) p0) fun σ5 r6 => some (σ5, r6)))
set_option maxRecDepth 20000 in
set_option maxHeartbeats 4000000 in
theorem C_X10_strength (l : Launch) (E : Ev) {σ σ' : St} {k : Nat} {p0 : Int32} {p1 : Int32} {r : Int32} (h : M_X10_strength σ k p0 p1 = some (σ', r)) (hL : lay 10 k) : Mi l E yX10_strength cX10_strength 3 (some .int) 4 [.ref (E.1 k), .int p0, .int p1] σ σ' r := by
  refine Mi_of (C := RX10) rfl (by decide) (Nat.le_of_ble_eq_true rfl) (z := (σ', r)) (fun p e s m below meth c ls X hG hl => ?_)
  have hx := X.1.1.1
  have hb := X.1.1.2.1
  have hM := h
  unfold M_X10_strength at hM
  generalize (σ', r) = z at hM ⊢
  have hl : lv_has ls 3 [(0, .ref (E.1 k)), (1, .int p0), (2, .int p1)] := hl
  refine lv_aload_n hx hb dX10_strength_0 rfl (lv_at hl 0 rfl) ?_
  refine gt_10_1 X.1 hG hL mw334 dX10_strength_1 ?_
  refine gtN_7_1 X.1 hG (lf_10_1 hL) mw201 dX10_strength_4 ?_
  refine lv_iload_n hx hb dX10_strength_7 rfl (lv_at hl 1 rfl) ?_
  refine g_callV_i (nA := 1) (o := M_X9_has σ ((k + 5) + 4) p0) (As := [.int p0]) X.1 hG (lf_7_1 (lf_10_1 hL)) rfl rfl (fun _ _ h => C_X9_has l E h (lf_7_1 (lf_10_1 hL))) mw922 mw540 mw541 mw56 (gw_ok mw542 rfl) (by decide +kernel) rfl ⟨Nat.le_of_ble_eq_true rfl, Nat.le_of_ble_eq_true rfl⟩ hl.1 rfl (Nat.le_of_ble_eq_true rfl) ⟨Nat.le_refl _, Nat.le_refl _⟩ dX10_strength_8 hM (fun σ1 r2 H locs hG hM => ?_)
  refine lv_if_ne (tgt := 16) hx hb dX10_strength_11 (by decide) (fun c8 => ?_) (fun c8 => ?_)
  · have hM := b_else hM c8
    refine lv_iload_n hx hb dX10_strength_16 rfl (lv_at hl 2 rfl) ?_
    refine lv_if_eq (tgt := 34) hx hb dX10_strength_17 (by decide) (fun c7 => ?_) (fun c7 => ?_)
    · have hM := b_if hM c7
      refine lv_aload_n hx hb dX10_strength_34 rfl (lv_at hl 0 rfl) ?_
      refine gt_10_1 X.1 hG hL mw334 dX10_strength_35 ?_
      refine gtN_7_1 X.1 hG (lf_10_1 hL) mw201 dX10_strength_38 ?_
      refine lv_iload_n hx hb dX10_strength_41 rfl (lv_at hl 1 rfl) ?_
      refine g_callV_i (nA := 1) (o := M_X9_strengthOf σ1 ((k + 5) + 4) p0) (As := [.int p0]) X.1 hG (lf_7_1 (lf_10_1 hL)) rfl rfl (fun _ _ h => C_X9_strengthOf l E h (lf_7_1 (lf_10_1 hL))) mw943 mw767 mw768 mw56 (gw_ok mw769 rfl) (by decide +kernel) rfl ⟨Nat.le_of_ble_eq_true rfl, Nat.le_of_ble_eq_true rfl⟩ hl.1 rfl (Nat.le_of_ble_eq_true rfl) ⟨Nat.le_refl _, Nat.le_refl _⟩ dX10_strength_42 hM (fun σ3 r4 H locs hG hM => ?_)
      exact e_iret X hG dX10_strength_45 hM
    · have hM := b_else hM c7
      refine lv_aload_n hx hb dX10_strength_20 rfl (lv_at hl 0 rfl) ?_
      refine gt_10_1 X.1 hG hL mw334 dX10_strength_21 ?_
      refine gtN_7_1 X.1 hG (lf_10_1 hL) mw201 dX10_strength_24 ?_
      refine lv_iload_n hx hb dX10_strength_27 rfl (lv_at hl 1 rfl) ?_
      refine g_callV_i (nA := 1) (o := M_X9_strengthByStepsOf σ1 ((k + 5) + 4) p0) (As := [.int p0]) X.1 hG (lf_7_1 (lf_10_1 hL)) rfl rfl (fun _ _ h => C_X9_strengthByStepsOf l E h (lf_7_1 (lf_10_1 hL))) mw937 mw938 mw939 mw56 (gw_ok mw940 rfl) (by decide +kernel) rfl ⟨Nat.le_of_ble_eq_true rfl, Nat.le_of_ble_eq_true rfl⟩ hl.1 rfl (Nat.le_of_ble_eq_true rfl) ⟨Nat.le_refl _, Nat.le_refl _⟩ dX10_strength_28 hM (fun σ5 r6 H locs hG hM => ?_)
      refine lv_goto (tgt := 45) hx hb dX10_strength_31 (by decide) ?_
      exact e_iret X hG dX10_strength_45 hM
  · have hM := b_if hM c8
    refine lv_iconst (v := (-1 : Int32)) hx hb dX10_strength_14 (by decide) ?_
    exact e_iret X hG dX10_strength_15 hM
def M_X10_weakest (σ : St) (k : Nat)  : Option (St × Int32) := bcall (M_X9_leastStrong σ ((k + 5) + 4)) fun σ1 r2 => some (σ1, r2)
set_option maxRecDepth 20000 in
set_option maxHeartbeats 4000000 in
theorem C_X10_weakest (l : Launch) (E : Ev) {σ σ' : St} {k : Nat} {r : Int32} (h : M_X10_weakest σ k = some (σ', r)) (hL : lay 10 k) : Mi l E yX10_weakest cX10_weakest 1 (some .int) 4 [.ref (E.1 k)] σ σ' r := by
  refine Mi_of (C := RX10) rfl (by decide) (Nat.le_of_ble_eq_true rfl) (z := (σ', r)) (fun p e s m below meth c ls X hG hl => ?_)
  have hx := X.1.1.1
  have hb := X.1.1.2.1
  have hM := h
  unfold M_X10_weakest at hM
  generalize (σ', r) = z at hM ⊢
  have hl : lv_has ls 1 [(0, .ref (E.1 k))] := hl
  refine lv_aload_n hx hb dX10_weakest_0 rfl (lv_at hl 0 rfl) ?_
  refine gt_10_1 X.1 hG hL mw334 dX10_weakest_1 ?_
  refine gtN_7_1 X.1 hG (lf_10_1 hL) mw201 dX10_weakest_4 ?_
  refine g_callV_i (nA := 0) (o := M_X9_leastStrong σ ((k + 5) + 4)) (As := []) X.1 hG (lf_7_1 (lf_10_1 hL)) rfl rfl (fun _ _ h => C_X9_leastStrong l E h (lf_7_1 (lf_10_1 hL))) mw948 mw949 mw950 mw56 (gw_ok mw951 rfl) (by decide +kernel) rfl ⟨Nat.le_of_ble_eq_true rfl, Nat.le_of_ble_eq_true rfl⟩ hl.1 rfl (Nat.le_of_ble_eq_true rfl) ⟨Nat.le_refl _, Nat.le_refl _⟩ dX10_weakest_7 hM (fun σ1 r2 H locs hG hM => ?_)
  exact e_iret X hG dX10_weakest_10 hM
def M_X10_inspectorOf (σ : St) (k : Nat) (p0 p1 : Int32) : Option (St × Int32) := bcall (M_X3_has σ ((k + 5) + 15) p0) fun σ1 r2 => if r2 = 0 then some (σ1, (-1 : Int32)) else (if p1.toInt < 0 ∨ 2 < p1.toInt then some (σ1, (-2 : Int32)) else if p1.toInt = 0 then (bcall (M_X3_noseOf σ1 ((k + 5) + 15) p0) fun σ5 r6 => some (σ5, r6)) else if p1.toInt = 1 then (bcall (M_X9_howManyShutBy σ1 ((k + 5) + 4) p0) fun σ8 r9 => some (σ8, r9)) else if p1.toInt = 2 then (bcall (M_X3_findsOf σ1 ((k + 5) + 15) p0) fun σ11 r12 => some (σ11, r12)) else none)
set_option maxRecDepth 20000 in
set_option maxHeartbeats 4000000 in
theorem C_X10_inspectorOf (l : Launch) (E : Ev) {σ σ' : St} {k : Nat} {p0 : Int32} {p1 : Int32} {r : Int32} (h : M_X10_inspectorOf σ k p0 p1 = some (σ', r)) (hL : lay 10 k) : Mi l E yX10_inspectorOf cX10_inspectorOf 4 (some .int) 4 [.ref (E.1 k), .int p0, .int p1] σ σ' r := by
  refine Mi_of (C := RX10) rfl (by decide) (Nat.le_of_ble_eq_true rfl) (z := (σ', r)) (fun p e s m below meth c ls X hG hl => ?_)
  have hx := X.1.1.1
  have hb := X.1.1.2.1
  have hM := h
  unfold M_X10_inspectorOf at hM
  generalize (σ', r) = z at hM ⊢
  have hl : lv_has ls 4 [(0, .ref (E.1 k)), (1, .int p0), (2, .int p1)] := hl
  refine lv_aload_n hx hb dX10_inspectorOf_0 rfl (lv_at hl 0 rfl) ?_
  refine gt_10_1 X.1 hG hL mw334 dX10_inspectorOf_1 ?_
  refine gtN_7_3 X.1 hG (lf_10_1 hL) mw207 dX10_inspectorOf_4 ?_
  refine lv_astore_n (lv' := [(3, .ref (E.1 ((k + 5) + 15))), (0, .ref (E.1 k)), (1, .int p0), (2, .int p1)]) hx hb dX10_inspectorOf_7 rfl hl (by decide) rfl (fun ls hl => ?_)
  refine lv_aload_n hx hb dX10_inspectorOf_8 rfl (lv_at hl 0 rfl) ?_
  refine lv_iload_n hx hb dX10_inspectorOf_9 rfl (lv_at hl 2 rfl) ?_
  refine g_callV_i (nA := 1) (o := M_X3_has σ ((k + 5) + 15) p0) (As := [.int p0]) X.1 hG (lf_7_3 (lf_10_1 hL)) rfl rfl (fun _ _ h => C_X3_has l E h (lf_7_3 (lf_10_1 hL))) mw985 mw688 mw689 mw58 (gw_ok mw690 rfl) (by decide +kernel) rfl ⟨Nat.le_of_ble_eq_true rfl, Nat.le_of_ble_eq_true rfl⟩ hl.1 rfl (Nat.le_of_ble_eq_true rfl) ⟨Nat.le_refl _, Nat.le_refl _⟩ dX10_inspectorOf_10 hM (fun σ1 r2 H locs hG hM => ?_)
  refine lv_if_ne (tgt := 18) hx hb dX10_inspectorOf_13 (by decide) (fun c13 => ?_) (fun c13 => ?_)
  · have hM := b_else hM c13
    refine lv_iload_n hx hb dX10_inspectorOf_18 rfl (lv_at hl 3 rfl) ?_
    by_cases c3 : p1.toInt < 0 ∨ 2 < p1.toInt
    · have hM := b_if hM c3
      refine lv_tableOut (tgt := 68) hx hb dX10_inspectorOf_19 c3 (by decide) ?_
      refine lv_bipush (v := (-2 : Int32)) hx hb dX10_inspectorOf_68 (by decide) ?_
      exact e_iret X hG dX10_inspectorOf_70 hM
    · have hM := b_else hM c3
      by_cases c4 : p1.toInt = 0
      · have hM := b_if hM c4
        refine lv_tableIn (tgt := 44) hx hb dX10_inspectorOf_19 (fun h => c3 (Or.inl h)) (fun h => c3 (Or.inr h)) (by rw [c4]; rfl) (by decide) ?_
        refine lv_aload_n hx hb dX10_inspectorOf_44 rfl (lv_at hl 0 rfl) ?_
        refine lv_iload_n hx hb dX10_inspectorOf_45 rfl (lv_at hl 2 rfl) ?_
        refine g_callV_i (nA := 1) (o := M_X3_noseOf σ1 ((k + 5) + 15) p0) (As := [.int p0]) X.1 hG (lf_7_3 (lf_10_1 hL)) rfl rfl (fun _ _ h => C_X3_noseOf l E h (lf_7_3 (lf_10_1 hL))) mw986 mw692 mw693 mw58 (gw_ok mw694 rfl) (by decide +kernel) rfl ⟨Nat.le_of_ble_eq_true rfl, Nat.le_of_ble_eq_true rfl⟩ hl.1 rfl (Nat.le_of_ble_eq_true rfl) ⟨Nat.le_refl _, Nat.le_refl _⟩ dX10_inspectorOf_46 hM (fun σ5 r6 H locs hG hM => ?_)
        exact e_iret X hG dX10_inspectorOf_49 hM
      have hM := b_else hM c4
      by_cases c7 : p1.toInt = 1
      · have hM := b_if hM c7
        refine lv_tableIn (tgt := 50) hx hb dX10_inspectorOf_19 (fun h => c3 (Or.inl h)) (fun h => c3 (Or.inr h)) (by rw [c7]; rfl) (by decide) ?_
        refine lv_aload_n hx hb dX10_inspectorOf_50 rfl (lv_at hl 1 rfl) ?_
        refine gt_10_1 X.1 hG hL mw334 dX10_inspectorOf_51 ?_
        refine gtN_7_1 X.1 hG (lf_10_1 hL) mw201 dX10_inspectorOf_54 ?_
        refine lv_iload_n hx hb dX10_inspectorOf_57 rfl (lv_at hl 2 rfl) ?_
        refine g_callV_i (nA := 1) (o := M_X9_howManyShutBy σ1 ((k + 5) + 4) p0) (As := [.int p0]) X.1 hG (lf_7_1 (lf_10_1 hL)) rfl rfl (fun _ _ h => C_X9_howManyShutBy l E h (lf_7_1 (lf_10_1 hL))) mw987 mw988 mw989 mw56 (gw_ok mw990 rfl) (by decide +kernel) rfl ⟨Nat.le_of_ble_eq_true rfl, Nat.le_of_ble_eq_true rfl⟩ hl.1 rfl (Nat.le_of_ble_eq_true rfl) ⟨Nat.le_refl _, Nat.le_refl _⟩ dX10_inspectorOf_58 hM (fun σ8 r9 H locs hG hM => ?_)
        exact e_iret X hG dX10_inspectorOf_61 hM
      have hM := b_else hM c7
      by_cases c10 : p1.toInt = 2
      · have hM := b_if hM c10
        refine lv_tableIn (tgt := 62) hx hb dX10_inspectorOf_19 (fun h => c3 (Or.inl h)) (fun h => c3 (Or.inr h)) (by rw [c10]; rfl) (by decide) ?_
        refine lv_aload_n hx hb dX10_inspectorOf_62 rfl (lv_at hl 0 rfl) ?_
        refine lv_iload_n hx hb dX10_inspectorOf_63 rfl (lv_at hl 2 rfl) ?_
        refine g_callV_i (nA := 1) (o := M_X3_findsOf σ1 ((k + 5) + 15) p0) (As := [.int p0]) X.1 hG (lf_7_3 (lf_10_1 hL)) rfl rfl (fun _ _ h => C_X3_findsOf l E h (lf_7_3 (lf_10_1 hL))) mw991 mw709 mw710 mw58 (gw_ok mw711 rfl) (by decide +kernel) rfl ⟨Nat.le_of_ble_eq_true rfl, Nat.le_of_ble_eq_true rfl⟩ hl.1 rfl (Nat.le_of_ble_eq_true rfl) ⟨Nat.le_refl _, Nat.le_refl _⟩ dX10_inspectorOf_64 hM (fun σ11 r12 H locs hG hM => ?_)
        exact e_iret X hG dX10_inspectorOf_67 hM
      have hM := b_else hM c10
      cases hM
  · have hM := b_if hM c13
    refine lv_iconst (v := (-1 : Int32)) hx hb dX10_inspectorOf_16 (by decide) ?_
    exact e_iret X hG dX10_inspectorOf_17 hM
def M_X10_highest (σ : St) (k : Nat)  : Option (St × Int32) := bcall (M_X7_isWarned σ (k + 5)) fun σ1 r2 => if r2 = 0 then (bcall (M_X9_highestOpen σ1 ((k + 5) + 4)) fun σ3 r4 => some (σ3, r4)) else some (σ1, (-4 : Int32))
set_option maxRecDepth 20000 in
set_option maxHeartbeats 4000000 in
theorem C_X10_highest (l : Launch) (E : Ev) {σ σ' : St} {k : Nat} {r : Int32} (h : M_X10_highest σ k = some (σ', r)) (hL : lay 10 k) : Mi l E yX10_highest cX10_highest 1 (some .int) 5 [.ref (E.1 k)] σ σ' r := by
  refine Mi_of (C := RX10) rfl (by decide) (Nat.le_of_ble_eq_true rfl) (z := (σ', r)) (fun p e s m below meth c ls X hG hl => ?_)
  have hx := X.1.1.1
  have hb := X.1.1.2.1
  have hM := h
  unfold M_X10_highest at hM
  generalize (σ', r) = z at hM ⊢
  have hl : lv_has ls 1 [(0, .ref (E.1 k))] := hl
  refine lv_aload_n hx hb dX10_highest_0 rfl (lv_at hl 0 rfl) ?_
  refine gt_10_1 X.1 hG hL mw334 dX10_highest_1 ?_
  refine g_callV_i (nA := 0) (o := M_X7_isWarned σ (k + 5)) (As := []) X.1 hG (lf_10_1 hL) rfl rfl (fun _ _ h => C_X7_isWarned l E h (lf_10_1 hL)) mw996 mw503 mw504 mw54 (gw_ok mw505 rfl) (by decide +kernel) rfl ⟨Nat.le_of_ble_eq_true rfl, Nat.le_of_ble_eq_true rfl⟩ hl.1 rfl (Nat.le_of_ble_eq_true rfl) ⟨Nat.le_refl _, Nat.le_refl _⟩ dX10_highest_4 hM (fun σ1 r2 H locs hG hM => ?_)
  refine lv_if_eq (tgt := 15) hx hb dX10_highest_7 (by decide) (fun c5 => ?_) (fun c5 => ?_)
  · have hM := b_if hM c5
    refine lv_aload_n hx hb dX10_highest_15 rfl (lv_at hl 0 rfl) ?_
    refine gt_10_1 X.1 hG hL mw334 dX10_highest_16 ?_
    refine gtN_7_1 X.1 hG (lf_10_1 hL) mw201 dX10_highest_19 ?_
    refine g_callV_i (nA := 0) (o := M_X9_highestOpen σ1 ((k + 5) + 4)) (As := []) X.1 hG (lf_7_1 (lf_10_1 hL)) rfl rfl (fun _ _ h => C_X9_highestOpen l E h (lf_7_1 (lf_10_1 hL))) mw997 mw998 mw999 mw56 (gw_ok mw1000 rfl) (by decide +kernel) rfl ⟨Nat.le_of_ble_eq_true rfl, Nat.le_of_ble_eq_true rfl⟩ hl.1 rfl (Nat.le_of_ble_eq_true rfl) ⟨Nat.le_refl _, Nat.le_refl _⟩ dX10_highest_22 hM (fun σ3 r4 H locs hG hM => ?_)
    exact e_iret X hG dX10_highest_25 hM
  · have hM := b_else hM c5
    refine lv_bipush (v := (-4 : Int32)) hx hb dX10_highest_10 (by decide) ?_
    refine lv_goto (tgt := 25) hx hb dX10_highest_12 (by decide) ?_
    exact e_iret X hG dX10_highest_25 hM
def M_X10_wouldFall (σ : St) (k : Nat) (p0 : Int32) : Option (St × Int32) := bcall (M_X10_isWithin σ p0 (8 : Int32) (10 : Int32)) fun σ1 r2 => if r2 = 0 then some (σ1, (-2 : Int32)) else (bcall (M_X9_lowestWeakerThan σ1 ((k + 5) + 4) p0) fun σ3 r4 => some (σ3, r4))
set_option maxRecDepth 20000 in
set_option maxHeartbeats 4000000 in
theorem C_X10_wouldFall (l : Launch) (E : Ev) {σ σ' : St} {k : Nat} {p0 : Int32} {r : Int32} (h : M_X10_wouldFall σ k p0 = some (σ', r)) (hL : lay 10 k) : Mi l E yX10_wouldFall cX10_wouldFall 2 (some .int) 4 [.ref (E.1 k), .int p0] σ σ' r := by
  refine Mi_of (C := RX10) rfl (by decide) (Nat.le_of_ble_eq_true rfl) (z := (σ', r)) (fun p e s m below meth c ls X hG hl => ?_)
  have hx := X.1.1.1
  have hb := X.1.1.2.1
  have hM := h
  unfold M_X10_wouldFall at hM
  generalize (σ', r) = z at hM ⊢
  have hl : lv_has ls 2 [(0, .ref (E.1 k)), (1, .int p0)] := hl
  refine lv_iload_n hx hb dX10_wouldFall_0 rfl (lv_at hl 1 rfl) ?_
  refine lv_bipush (v := (8 : Int32)) hx hb dX10_wouldFall_1 (by decide) ?_
  refine lv_bipush (v := (10 : Int32)) hx hb dX10_wouldFall_3 (by decide) ?_
  refine g_callS_i (nA := 3) (o := M_X10_isWithin σ p0 (8 : Int32) (10 : Int32)) (As := [.int p0, .int (8 : Int32), .int (10 : Int32)]) X.1 hG (fun _ _ h => C_X10_isWithin l E h ) mw402 mw403 mw51 (gw_ok mw404 rfl) (by decide +kernel) rfl ⟨Nat.le_of_ble_eq_true rfl, Nat.le_of_ble_eq_true rfl⟩ hl.1 rfl (Nat.le_of_ble_eq_true rfl) ⟨Nat.le_refl _, Nat.le_refl _⟩ dX10_wouldFall_5 hM (fun σ1 r2 H locs hG hM => ?_)
  refine lv_if_ne (tgt := 14) hx hb dX10_wouldFall_8 (by decide) (fun c5 => ?_) (fun c5 => ?_)
  · have hM := b_else hM c5
    refine lv_aload_n hx hb dX10_wouldFall_14 rfl (lv_at hl 0 rfl) ?_
    refine gt_10_1 X.1 hG hL mw334 dX10_wouldFall_15 ?_
    refine gtN_7_1 X.1 hG (lf_10_1 hL) mw201 dX10_wouldFall_18 ?_
    refine lv_iload_n hx hb dX10_wouldFall_21 rfl (lv_at hl 1 rfl) ?_
    refine g_callV_i (nA := 1) (o := M_X9_lowestWeakerThan σ1 ((k + 5) + 4) p0) (As := [.int p0]) X.1 hG (lf_7_1 (lf_10_1 hL)) rfl rfl (fun _ _ h => C_X9_lowestWeakerThan l E h (lf_7_1 (lf_10_1 hL))) mw1010 mw763 mw764 mw56 (gw_ok mw765 rfl) (by decide +kernel) rfl ⟨Nat.le_of_ble_eq_true rfl, Nat.le_of_ble_eq_true rfl⟩ hl.1 rfl (Nat.le_of_ble_eq_true rfl) ⟨Nat.le_refl _, Nat.le_refl _⟩ dX10_wouldFall_22 hM (fun σ3 r4 H locs hG hM => ?_)
    exact e_iret X hG dX10_wouldFall_25 hM
  · have hM := b_if hM c5
    refine lv_bipush (v := (-2 : Int32)) hx hb dX10_wouldFall_11 (by decide) ?_
    exact e_iret X hG dX10_wouldFall_13 hM
def M_X10_work (σ : St) (k : Nat) (p0 : Int32) : Option (St × Int32) := if p0 = 0 then (bcall (M_X9_allHours σ ((k + 5) + 4)) fun σ1 r2 => some (σ1, r2)) else some (σ, ((σ (k + 5) 9) - (σ (k + 5) 10)) - (σ (k + 5) 11))
set_option maxRecDepth 20000 in
set_option maxHeartbeats 4000000 in
theorem C_X10_work (l : Launch) (E : Ev) {σ σ' : St} {k : Nat} {p0 : Int32} {r : Int32} (h : M_X10_work σ k p0 = some (σ', r)) (hL : lay 10 k) : Mi l E yX10_work cX10_work 2 (some .int) 4 [.ref (E.1 k), .int p0] σ σ' r := by
  refine Mi_of (C := RX10) rfl (by decide) (Nat.le_of_ble_eq_true rfl) (z := (σ', r)) (fun p e s m below meth c ls X hG hl => ?_)
  have hx := X.1.1.1
  have hb := X.1.1.2.1
  have hM := h
  unfold M_X10_work at hM
  generalize (σ', r) = z at hM ⊢
  have hl : lv_has ls 2 [(0, .ref (E.1 k)), (1, .int p0)] := hl
  refine lv_iload_n hx hb dX10_work_0 rfl (lv_at hl 1 rfl) ?_
  refine lv_if_eq (tgt := 30) hx hb dX10_work_1 (by decide) (fun c3 => ?_) (fun c3 => ?_)
  · have hM := b_if hM c3
    refine lv_aload_n hx hb dX10_work_30 rfl (lv_at hl 0 rfl) ?_
    refine gt_10_1 X.1 hG hL mw334 dX10_work_31 ?_
    refine gtN_7_1 X.1 hG (lf_10_1 hL) mw201 dX10_work_34 ?_
    refine g_callV_i (nA := 0) (o := M_X9_allHours σ ((k + 5) + 4)) (As := []) X.1 hG (lf_7_1 (lf_10_1 hL)) rfl rfl (fun _ _ h => C_X9_allHours l E h (lf_7_1 (lf_10_1 hL))) mw1048 mw1049 mw1050 mw56 (gw_ok mw1051 rfl) (by decide +kernel) rfl ⟨Nat.le_of_ble_eq_true rfl, Nat.le_of_ble_eq_true rfl⟩ hl.1 rfl (Nat.le_of_ble_eq_true rfl) ⟨Nat.le_refl _, Nat.le_refl _⟩ dX10_work_37 hM (fun σ1 r2 H locs hG hM => ?_)
    exact e_iret X hG dX10_work_40 hM
  · have hM := b_else hM c3
    refine lv_aload_n hx hb dX10_work_4 rfl (lv_at hl 0 rfl) ?_
    refine gt_10_1 X.1 hG hL mw334 dX10_work_5 ?_
    refine gtN_7_9 X.1 hG (lf_10_1 hL) mw224 dX10_work_8 ?_
    refine lv_aload_n hx hb dX10_work_11 rfl (lv_at hl 0 rfl) ?_
    refine gt_10_1 X.1 hG hL mw334 dX10_work_12 ?_
    refine gtN_7_10 X.1 hG (lf_10_1 hL) mw226 dX10_work_15 ?_
    refine lv_isub hx hb dX10_work_18 ?_
    refine lv_aload_n hx hb dX10_work_19 rfl (lv_at hl 0 rfl) ?_
    refine gt_10_1 X.1 hG hL mw334 dX10_work_20 ?_
    refine gtN_7_11 X.1 hG (lf_10_1 hL) mw228 dX10_work_23 ?_
    refine lv_isub hx hb dX10_work_26 ?_
    refine lv_goto (tgt := 40) hx hb dX10_work_27 (by decide) ?_
    exact e_iret X hG dX10_work_40 hM
def M_X10_account (σ : St) (k : Nat) (p0 : Int32) : Option (St × Int32) := if p0.toInt < 0 ∨ 18 < p0.toInt then some (σ, (-2 : Int32)) else if p0.toInt = 0 then some (σ, σ (k + 5) 4) else if p0.toInt = 1 then some (σ, σ (k + 5) 5) else if p0.toInt = 2 then some (σ, σ ((k + 5) + 1) 2) else if p0.toInt = 3 then (bcall (M_X0_allPoles σ ((k + 5) + 1)) fun σ6 r7 => some (σ6, r7)) else if p0.toInt = 4 then some (σ, σ ((k + 5) + 4) 6) else if p0.toInt = 5 then (bcall (M_X9_howManyShut σ ((k + 5) + 4)) fun σ10 r11 => some (σ10, r11)) else if p0.toInt = 6 then (bcall (M_X9_howManyOld σ ((k + 5) + 4)) fun σ13 r14 => some (σ13, r14)) else if p0.toInt = 7 then some (σ, σ ((k + 5) + 11) 3) else if p0.toInt = 8 then (bcall (M_X1_howManyUp σ ((k + 5) + 11)) fun σ17 r18 => some (σ17, r18)) else if p0.toInt = 9 then some (σ, σ (k + 5) 6) else if p0.toInt = 10 then some (σ, σ (k + 5) 7) else if p0.toInt = 11 then (bcall (M_X9_allLoads σ ((k + 5) + 4)) fun σ22 r23 => some (σ22, r23)) else if p0.toInt = 12 then some (σ, σ ((k + 5) + 15) 2) else if p0.toInt = 13 then some (σ, σ (k + 5) 8) else if p0.toInt = 14 then some (σ, σ (k + 5) 10) else if p0.toInt = 15 then some (σ, σ (k + 5) 12) else if p0.toInt = 16 then some (σ, σ (k + 5) 13) else if p0.toInt = 17 then some (σ, σ (k + 241) 1) else if p0.toInt = 18 then some (σ, σ (k + 59) 3) else none
set_option maxRecDepth 20000 in
set_option maxHeartbeats 4000000 in
theorem C_X10_account (l : Launch) (E : Ev) {σ σ' : St} {k : Nat} {p0 : Int32} {r : Int32} (h : M_X10_account σ k p0 = some (σ', r)) (hL : lay 10 k) : Mi l E yX10_account cX10_account 2 (some .int) 5 [.ref (E.1 k), .int p0] σ σ' r := by
  refine Mi_of (C := RX10) rfl (by decide) (Nat.le_of_ble_eq_true rfl) (z := (σ', r)) (fun p e s m below meth c ls X hG hl => ?_)
  have hx := X.1.1.1
  have hb := X.1.1.2.1
  have hM := h
  unfold M_X10_account at hM
  generalize (σ', r) = z at hM ⊢
  have hl : lv_has ls 2 [(0, .ref (E.1 k)), (1, .int p0)] := hl
  refine lv_iload_n hx hb dX10_account_0 rfl (lv_at hl 1 rfl) ?_
  by_cases c1 : p0.toInt < 0 ∨ 18 < p0.toInt
  · have hM := b_if hM c1
    refine lv_tableOut (tgt := 271) hx hb dX10_account_1 c1 (by decide) ?_
    refine lv_bipush (v := (-2 : Int32)) hx hb dX10_account_271 (by decide) ?_
    exact e_iret X hG dX10_account_273 hM
  · have hM := b_else hM c1
    by_cases c2 : p0.toInt = 0
    · have hM := b_if hM c2
      refine lv_tableIn (tgt := 92) hx hb dX10_account_1 (fun h => c1 (Or.inl h)) (fun h => c1 (Or.inr h)) (by rw [c2]; rfl) (by decide) ?_
      refine lv_aload_n hx hb dX10_account_92 rfl (lv_at hl 0 rfl) ?_
      refine gt_10_1 X.1 hG hL mw334 dX10_account_93 ?_
      refine gtN_7_4 X.1 hG (lf_10_1 hL) mw209 dX10_account_96 ?_
      exact e_iret X hG dX10_account_99 hM
    have hM := b_else hM c2
    by_cases c3 : p0.toInt = 1
    · have hM := b_if hM c3
      refine lv_tableIn (tgt := 100) hx hb dX10_account_1 (fun h => c1 (Or.inl h)) (fun h => c1 (Or.inr h)) (by rw [c3]; rfl) (by decide) ?_
      refine lv_aload_n hx hb dX10_account_100 rfl (lv_at hl 0 rfl) ?_
      refine gt_10_1 X.1 hG hL mw334 dX10_account_101 ?_
      refine gtN_7_5 X.1 hG (lf_10_1 hL) mw212 dX10_account_104 ?_
      exact e_iret X hG dX10_account_107 hM
    have hM := b_else hM c3
    by_cases c4 : p0.toInt = 2
    · have hM := b_if hM c4
      refine lv_tableIn (tgt := 108) hx hb dX10_account_1 (fun h => c1 (Or.inl h)) (fun h => c1 (Or.inr h)) (by rw [c4]; rfl) (by decide) ?_
      refine lv_aload_n hx hb dX10_account_108 rfl (lv_at hl 0 rfl) ?_
      refine gt_10_1 X.1 hG hL mw334 dX10_account_109 ?_
      refine gtN_7_0 X.1 hG (lf_10_1 hL) mw198 dX10_account_112 ?_
      refine gtN_0_2 X.1 hG (lf_7_0 (lf_10_1 hL)) mw117 dX10_account_115 ?_
      exact e_iret X hG dX10_account_118 hM
    have hM := b_else hM c4
    by_cases c5 : p0.toInt = 3
    · have hM := b_if hM c5
      refine lv_tableIn (tgt := 119) hx hb dX10_account_1 (fun h => c1 (Or.inl h)) (fun h => c1 (Or.inr h)) (by rw [c5]; rfl) (by decide) ?_
      refine lv_aload_n hx hb dX10_account_119 rfl (lv_at hl 0 rfl) ?_
      refine gt_10_1 X.1 hG hL mw334 dX10_account_120 ?_
      refine gtN_7_0 X.1 hG (lf_10_1 hL) mw198 dX10_account_123 ?_
      refine g_callV_i (nA := 0) (o := M_X0_allPoles σ ((k + 5) + 1)) (As := []) X.1 hG (lf_7_0 (lf_10_1 hL)) rfl rfl (fun _ _ h => C_X0_allPoles l E h (lf_7_0 (lf_10_1 hL))) mw1071 mw1072 mw1073 mw55 (gw_ok mw1074 rfl) (by decide +kernel) rfl ⟨Nat.le_of_ble_eq_true rfl, Nat.le_of_ble_eq_true rfl⟩ hl.1 rfl (Nat.le_of_ble_eq_true rfl) ⟨Nat.le_refl _, Nat.le_refl _⟩ dX10_account_126 hM (fun σ6 r7 H locs hG hM => ?_)
      exact e_iret X hG dX10_account_129 hM
    have hM := b_else hM c5
    by_cases c8 : p0.toInt = 4
    · have hM := b_if hM c8
      refine lv_tableIn (tgt := 130) hx hb dX10_account_1 (fun h => c1 (Or.inl h)) (fun h => c1 (Or.inr h)) (by rw [c8]; rfl) (by decide) ?_
      refine lv_aload_n hx hb dX10_account_130 rfl (lv_at hl 0 rfl) ?_
      refine gt_10_1 X.1 hG hL mw334 dX10_account_131 ?_
      refine gtN_7_1 X.1 hG (lf_10_1 hL) mw201 dX10_account_134 ?_
      refine gtN_9_6 X.1 hG (lf_7_1 (lf_10_1 hL)) mw140 dX10_account_137 ?_
      exact e_iret X hG dX10_account_140 hM
    have hM := b_else hM c8
    by_cases c9 : p0.toInt = 5
    · have hM := b_if hM c9
      refine lv_tableIn (tgt := 141) hx hb dX10_account_1 (fun h => c1 (Or.inl h)) (fun h => c1 (Or.inr h)) (by rw [c9]; rfl) (by decide) ?_
      refine lv_aload_n hx hb dX10_account_141 rfl (lv_at hl 0 rfl) ?_
      refine gt_10_1 X.1 hG hL mw334 dX10_account_142 ?_
      refine gtN_7_1 X.1 hG (lf_10_1 hL) mw201 dX10_account_145 ?_
      refine g_callV_i (nA := 0) (o := M_X9_howManyShut σ ((k + 5) + 4)) (As := []) X.1 hG (lf_7_1 (lf_10_1 hL)) rfl rfl (fun _ _ h => C_X9_howManyShut l E h (lf_7_1 (lf_10_1 hL))) mw1076 mw1077 mw1078 mw56 (gw_ok mw1079 rfl) (by decide +kernel) rfl ⟨Nat.le_of_ble_eq_true rfl, Nat.le_of_ble_eq_true rfl⟩ hl.1 rfl (Nat.le_of_ble_eq_true rfl) ⟨Nat.le_refl _, Nat.le_refl _⟩ dX10_account_148 hM (fun σ10 r11 H locs hG hM => ?_)
      exact e_iret X hG dX10_account_151 hM
    have hM := b_else hM c9
    by_cases c12 : p0.toInt = 6
    · have hM := b_if hM c12
      refine lv_tableIn (tgt := 152) hx hb dX10_account_1 (fun h => c1 (Or.inl h)) (fun h => c1 (Or.inr h)) (by rw [c12]; rfl) (by decide) ?_
      refine lv_aload_n hx hb dX10_account_152 rfl (lv_at hl 0 rfl) ?_
      refine gt_10_1 X.1 hG hL mw334 dX10_account_153 ?_
      refine gtN_7_1 X.1 hG (lf_10_1 hL) mw201 dX10_account_156 ?_
      refine g_callV_i (nA := 0) (o := M_X9_howManyOld σ ((k + 5) + 4)) (As := []) X.1 hG (lf_7_1 (lf_10_1 hL)) rfl rfl (fun _ _ h => C_X9_howManyOld l E h (lf_7_1 (lf_10_1 hL))) mw1080 mw1081 mw1082 mw56 (gw_ok mw1083 rfl) (by decide +kernel) rfl ⟨Nat.le_of_ble_eq_true rfl, Nat.le_of_ble_eq_true rfl⟩ hl.1 rfl (Nat.le_of_ble_eq_true rfl) ⟨Nat.le_refl _, Nat.le_refl _⟩ dX10_account_159 hM (fun σ13 r14 H locs hG hM => ?_)
      exact e_iret X hG dX10_account_162 hM
    have hM := b_else hM c12
    by_cases c15 : p0.toInt = 7
    · have hM := b_if hM c15
      refine lv_tableIn (tgt := 163) hx hb dX10_account_1 (fun h => c1 (Or.inl h)) (fun h => c1 (Or.inr h)) (by rw [c15]; rfl) (by decide) ?_
      refine lv_aload_n hx hb dX10_account_163 rfl (lv_at hl 0 rfl) ?_
      refine gt_10_1 X.1 hG hL mw334 dX10_account_164 ?_
      refine gtN_7_2 X.1 hG (lf_10_1 hL) mw204 dX10_account_167 ?_
      refine gtN_1_3 X.1 hG (lf_7_2 (lf_10_1 hL)) mw168 dX10_account_170 ?_
      exact e_iret X hG dX10_account_173 hM
    have hM := b_else hM c15
    by_cases c16 : p0.toInt = 8
    · have hM := b_if hM c16
      refine lv_tableIn (tgt := 174) hx hb dX10_account_1 (fun h => c1 (Or.inl h)) (fun h => c1 (Or.inr h)) (by rw [c16]; rfl) (by decide) ?_
      refine lv_aload_n hx hb dX10_account_174 rfl (lv_at hl 0 rfl) ?_
      refine gt_10_1 X.1 hG hL mw334 dX10_account_175 ?_
      refine gtN_7_2 X.1 hG (lf_10_1 hL) mw204 dX10_account_178 ?_
      refine g_callV_i (nA := 0) (o := M_X1_howManyUp σ ((k + 5) + 11)) (As := []) X.1 hG (lf_7_2 (lf_10_1 hL)) rfl rfl (fun _ _ h => C_X1_howManyUp l E h (lf_7_2 (lf_10_1 hL))) mw1084 mw1085 mw1086 mw57 (gw_ok mw1087 rfl) (by decide +kernel) rfl ⟨Nat.le_of_ble_eq_true rfl, Nat.le_of_ble_eq_true rfl⟩ hl.1 rfl (Nat.le_of_ble_eq_true rfl) ⟨Nat.le_refl _, Nat.le_refl _⟩ dX10_account_181 hM (fun σ17 r18 H locs hG hM => ?_)
      exact e_iret X hG dX10_account_184 hM
    have hM := b_else hM c16
    by_cases c19 : p0.toInt = 9
    · have hM := b_if hM c19
      refine lv_tableIn (tgt := 185) hx hb dX10_account_1 (fun h => c1 (Or.inl h)) (fun h => c1 (Or.inr h)) (by rw [c19]; rfl) (by decide) ?_
      refine lv_aload_n hx hb dX10_account_185 rfl (lv_at hl 0 rfl) ?_
      refine gt_10_1 X.1 hG hL mw334 dX10_account_186 ?_
      refine gtN_7_6 X.1 hG (lf_10_1 hL) mw215 dX10_account_189 ?_
      exact e_iret X hG dX10_account_192 hM
    have hM := b_else hM c19
    by_cases c20 : p0.toInt = 10
    · have hM := b_if hM c20
      refine lv_tableIn (tgt := 193) hx hb dX10_account_1 (fun h => c1 (Or.inl h)) (fun h => c1 (Or.inr h)) (by rw [c20]; rfl) (by decide) ?_
      refine lv_aload_n hx hb dX10_account_193 rfl (lv_at hl 0 rfl) ?_
      refine gt_10_1 X.1 hG hL mw334 dX10_account_194 ?_
      refine gtN_7_7 X.1 hG (lf_10_1 hL) mw218 dX10_account_197 ?_
      exact e_iret X hG dX10_account_200 hM
    have hM := b_else hM c20
    by_cases c21 : p0.toInt = 11
    · have hM := b_if hM c21
      refine lv_tableIn (tgt := 201) hx hb dX10_account_1 (fun h => c1 (Or.inl h)) (fun h => c1 (Or.inr h)) (by rw [c21]; rfl) (by decide) ?_
      refine lv_aload_n hx hb dX10_account_201 rfl (lv_at hl 0 rfl) ?_
      refine gt_10_1 X.1 hG hL mw334 dX10_account_202 ?_
      refine gtN_7_1 X.1 hG (lf_10_1 hL) mw201 dX10_account_205 ?_
      refine g_callV_i (nA := 0) (o := M_X9_allLoads σ ((k + 5) + 4)) (As := []) X.1 hG (lf_7_1 (lf_10_1 hL)) rfl rfl (fun _ _ h => C_X9_allLoads l E h (lf_7_1 (lf_10_1 hL))) mw1089 mw1090 mw1091 mw56 (gw_ok mw1092 rfl) (by decide +kernel) rfl ⟨Nat.le_of_ble_eq_true rfl, Nat.le_of_ble_eq_true rfl⟩ hl.1 rfl (Nat.le_of_ble_eq_true rfl) ⟨Nat.le_refl _, Nat.le_refl _⟩ dX10_account_208 hM (fun σ22 r23 H locs hG hM => ?_)
      exact e_iret X hG dX10_account_211 hM
    have hM := b_else hM c21
    by_cases c24 : p0.toInt = 12
    · have hM := b_if hM c24
      refine lv_tableIn (tgt := 212) hx hb dX10_account_1 (fun h => c1 (Or.inl h)) (fun h => c1 (Or.inr h)) (by rw [c24]; rfl) (by decide) ?_
      refine lv_aload_n hx hb dX10_account_212 rfl (lv_at hl 0 rfl) ?_
      refine gt_10_1 X.1 hG hL mw334 dX10_account_213 ?_
      refine gtN_7_3 X.1 hG (lf_10_1 hL) mw207 dX10_account_216 ?_
      refine gtN_3_2 X.1 hG (lf_7_3 (lf_10_1 hL)) mw188 dX10_account_219 ?_
      exact e_iret X hG dX10_account_222 hM
    have hM := b_else hM c24
    by_cases c25 : p0.toInt = 13
    · have hM := b_if hM c25
      refine lv_tableIn (tgt := 223) hx hb dX10_account_1 (fun h => c1 (Or.inl h)) (fun h => c1 (Or.inr h)) (by rw [c25]; rfl) (by decide) ?_
      refine lv_aload_n hx hb dX10_account_223 rfl (lv_at hl 0 rfl) ?_
      refine gt_10_1 X.1 hG hL mw334 dX10_account_224 ?_
      refine gtN_7_8 X.1 hG (lf_10_1 hL) mw221 dX10_account_227 ?_
      exact e_iret X hG dX10_account_230 hM
    have hM := b_else hM c25
    by_cases c26 : p0.toInt = 14
    · have hM := b_if hM c26
      refine lv_tableIn (tgt := 231) hx hb dX10_account_1 (fun h => c1 (Or.inl h)) (fun h => c1 (Or.inr h)) (by rw [c26]; rfl) (by decide) ?_
      refine lv_aload_n hx hb dX10_account_231 rfl (lv_at hl 0 rfl) ?_
      refine gt_10_1 X.1 hG hL mw334 dX10_account_232 ?_
      refine gtN_7_10 X.1 hG (lf_10_1 hL) mw226 dX10_account_235 ?_
      exact e_iret X hG dX10_account_238 hM
    have hM := b_else hM c26
    by_cases c27 : p0.toInt = 15
    · have hM := b_if hM c27
      refine lv_tableIn (tgt := 239) hx hb dX10_account_1 (fun h => c1 (Or.inl h)) (fun h => c1 (Or.inr h)) (by rw [c27]; rfl) (by decide) ?_
      refine lv_aload_n hx hb dX10_account_239 rfl (lv_at hl 0 rfl) ?_
      refine gt_10_1 X.1 hG hL mw334 dX10_account_240 ?_
      refine gtN_7_12 X.1 hG (lf_10_1 hL) mw231 dX10_account_243 ?_
      exact e_iret X hG dX10_account_246 hM
    have hM := b_else hM c27
    by_cases c28 : p0.toInt = 16
    · have hM := b_if hM c28
      refine lv_tableIn (tgt := 247) hx hb dX10_account_1 (fun h => c1 (Or.inl h)) (fun h => c1 (Or.inr h)) (by rw [c28]; rfl) (by decide) ?_
      refine lv_aload_n hx hb dX10_account_247 rfl (lv_at hl 0 rfl) ?_
      refine gt_10_1 X.1 hG hL mw334 dX10_account_248 ?_
      refine gtN_7_13 X.1 hG (lf_10_1 hL) mw233 dX10_account_251 ?_
      exact e_iret X hG dX10_account_254 hM
    have hM := b_else hM c28
    by_cases c29 : p0.toInt = 17
    · have hM := b_if hM c29
      refine lv_tableIn (tgt := 255) hx hb dX10_account_1 (fun h => c1 (Or.inl h)) (fun h => c1 (Or.inr h)) (by rw [c29]; rfl) (by decide) ?_
      refine lv_aload_n hx hb dX10_account_255 rfl (lv_at hl 0 rfl) ?_
      refine gt_10_5 X.1 hG hL mw338 dX10_account_256 ?_
      refine gtN_4_1 X.1 hG (lf_10_5 hL) mw306 dX10_account_259 ?_
      exact e_iret X hG dX10_account_262 hM
    have hM := b_else hM c29
    by_cases c30 : p0.toInt = 18
    · have hM := b_if hM c30
      refine lv_tableIn (tgt := 263) hx hb dX10_account_1 (fun h => c1 (Or.inl h)) (fun h => c1 (Or.inr h)) (by rw [c30]; rfl) (by decide) ?_
      refine lv_aload_n hx hb dX10_account_263 rfl (lv_at hl 0 rfl) ?_
      refine gt_10_4 X.1 hG hL mw337 dX10_account_264 ?_
      refine gtN_2_3 X.1 hG (lf_10_4 hL) mw287 dX10_account_267 ?_
      exact e_iret X hG dX10_account_270 hM
    have hM := b_else hM c30
    cases hM
