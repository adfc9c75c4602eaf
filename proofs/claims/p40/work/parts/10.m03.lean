def M_X8_changeSignal (σ : St) (k : Nat) (p0 : Int32) : Option (St × Int32) := bcall (M_X10_isWithin σ p0 (0 : Int32) (10 : Int32)) fun σ1 r2 => if r2 = 0 then some (σ1, (-2 : Int32)) else (blet (σ1 (k + 4) 5) fun v3 => bput σ1 (k + 4) 5 p0 fun σ4 => bcall (M_X7_isWarned σ4 (k + 4)) fun σ5 r6 => if r6 = 0 then some (σ5, v3) else (bcall (M_X1_allComeDown σ5 ((k + 4) + 11)) fun σ7 r8 => some (σ7, v3)))
set_option maxRecDepth 20000 in
set_option maxHeartbeats 4000000 in
theorem C_X8_changeSignal (l : Launch) (E : Ev) {σ σ' : St} {k : Nat} {p0 : Int32} {r : Int32} (h : M_X8_changeSignal σ k p0 = some (σ', r)) (hL : lay 8 k) : Mi l E yX8_changeSignal cX8_changeSignal 3 (some .int) 4 [.ref (E.1 k), .int p0] σ σ' r := by
  refine Mi_of (C := RX8) rfl (by decide) (Nat.le_of_ble_eq_true rfl) (z := (σ', r)) (fun p e s m below meth c ls X hG hl => ?_)
  have hx := X.1.1.1
  have hb := X.1.1.2.1
  have hM := h
  unfold M_X8_changeSignal at hM
  generalize (σ', r) = z at hM ⊢
  have hl : lv_has ls 3 [(0, .ref (E.1 k)), (1, .int p0)] := hl
  refine lv_iload_n hx hb dX8_changeSignal_0 rfl (lv_at hl 1 rfl) ?_
  refine lv_iconst (v := (0 : Int32)) hx hb dX8_changeSignal_1 (by decide) ?_
  refine lv_bipush (v := (10 : Int32)) hx hb dX8_changeSignal_2 (by decide) ?_
  refine g_callSN_i (nA := 3) (o := M_X10_isWithin σ p0 (0 : Int32) (10 : Int32)) (As := [.int p0, .int (0 : Int32), .int (10 : Int32)]) X.1 hG (fun _ _ h => C_X10_isWithin l E h ) mw421 mw369 mw12 (gw_ok mw370 rfl) (by decide +kernel) rfl ⟨Nat.le_of_ble_eq_true rfl, Nat.le_of_ble_eq_true rfl⟩ hl.1 rfl (Nat.le_of_ble_eq_true rfl) ⟨Nat.le_refl _, Nat.le_refl _⟩ dX8_changeSignal_4 hM (fun σ1 r2 H locs hG hM => ?_)
  refine lv_if_ne (tgt := 13) hx hb dX8_changeSignal_7 (by decide) (fun c10 => ?_) (fun c10 => ?_)
  · have hM := b_else hM c10
    refine lv_aload_n hx hb dX8_changeSignal_13 rfl (lv_at hl 0 rfl) ?_
    refine gt_8_1 X.1 hG hL mw232 dX8_changeSignal_14 ?_
    refine gtN_7_5 X.1 hG (lf_8_1 hL) mw177 dX8_changeSignal_17 ?_
    refine g_name hM (fun v3 hM => ?_)
    refine lv_istore_n (lv' := [(2, .int v3), (0, .ref (E.1 k)), (1, .int p0)]) hx hb dX8_changeSignal_20 rfl hl (by decide) rfl (fun ls hl => ?_)
    refine lv_aload_n hx hb dX8_changeSignal_21 rfl (lv_at hl 1 rfl) ?_
    refine gt_8_1 X.1 hG hL mw232 dX8_changeSignal_22 ?_
    refine lv_iload_n hx hb dX8_changeSignal_25 rfl (lv_at hl 2 rfl) ?_
    refine ptN_7_5 X.1 hG (lf_8_1 hL) mw177 dX8_changeSignal_26 hM (fun σ4 H locs hG hM => ?_)
    refine lv_aload_n hx hb dX8_changeSignal_29 rfl (lv_at hl 1 rfl) ?_
    refine gt_8_1 X.1 hG hL mw232 dX8_changeSignal_30 ?_
    refine g_callV_i (nA := 0) (o := M_X7_isWarned σ4 (k + 4)) (As := []) X.1 hG (lf_8_1 hL) rfl rfl (fun _ _ h => C_X7_isWarned l E h (lf_8_1 hL)) mw468 mw469 mw470 mw15 (gw_ok mw471 rfl) (by decide +kernel) rfl ⟨Nat.le_of_ble_eq_true rfl, Nat.le_of_ble_eq_true rfl⟩ hl.1 rfl (Nat.le_of_ble_eq_true rfl) ⟨Nat.le_refl _, Nat.le_refl _⟩ dX8_changeSignal_33 hM (fun σ5 r6 H locs hG hM => ?_)
    refine lv_if_eq (tgt := 49) hx hb dX8_changeSignal_36 (by decide) (fun c9 => ?_) (fun c9 => ?_)
    · have hM := b_if hM c9
      refine lv_iload_n hx hb dX8_changeSignal_49 rfl (lv_at hl 0 rfl) ?_
      exact e_iret X hG dX8_changeSignal_50 hM
    · have hM := b_else hM c9
      refine lv_aload_n hx hb dX8_changeSignal_39 rfl (lv_at hl 1 rfl) ?_
      refine gt_8_1 X.1 hG hL mw232 dX8_changeSignal_40 ?_
      refine gtN_7_2 X.1 hG (lf_8_1 hL) mw169 dX8_changeSignal_43 ?_
      refine g_callV_v (nA := 0) (o := M_X1_allComeDown σ5 ((k + 4) + 11)) (As := []) X.1 hG (lf_7_2 (lf_8_1 hL)) rfl rfl (fun _ _ h => C_X1_allComeDown l E h (lf_7_2 (lf_8_1 hL))) mw606 mw607 mw608 mw18 (gw_ok mw609 rfl) (by decide +kernel) rfl ⟨Nat.le_of_ble_eq_true rfl, Nat.le_of_ble_eq_true rfl⟩ hl.1 rfl (Nat.le_of_ble_eq_true rfl) ⟨Nat.le_refl _, Nat.le_refl _⟩ dX8_changeSignal_46 hM (fun σ7 r8 H locs hG hM => ?_)
      refine lv_iload_n hx hb dX8_changeSignal_49 rfl (lv_at hl 0 rfl) ?_
      exact e_iret X hG dX8_changeSignal_50 hM
  · have hM := b_if hM c10
    refine lv_bipush (v := (-2 : Int32)) hx hb dX8_changeSignal_10 (by decide) ?_
    exact e_iret X hG dX8_changeSignal_12 hM
def M_X9_polesOf (σ : St) (k : Nat) (p0 : Int32) : Option (St × Int32) := bcall (M_X10_at σ (k + 1) p0) fun σ1 r2 => some (σ1, r2)
set_option maxRecDepth 20000 in
set_option maxHeartbeats 4000000 in
theorem C_X9_polesOf (l : Launch) (E : Ev) {σ σ' : St} {k : Nat} {p0 : Int32} {r : Int32} (h : M_X9_polesOf σ k p0 = some (σ', r)) (hL : lay 9 k) : Mi l E yX9_polesOf cX9_polesOf 2 (some .int) 2 [.ref (E.1 k), .int p0] σ σ' r := by
  refine Mi_of (C := RX9) rfl (by decide) (Nat.le_of_ble_eq_true rfl) (z := (σ', r)) (fun p e s m below meth c ls X hG hl => ?_)
  have hx := X.1.1.1
  have hb := X.1.1.2.1
  have hM := h
  unfold M_X9_polesOf at hM
  generalize (σ', r) = z at hM ⊢
  have hl : lv_has ls 2 [(0, .ref (E.1 k)), (1, .int p0)] := hl
  refine lv_aload_n hx hb dX9_polesOf_0 rfl (lv_at hl 0 rfl) ?_
  refine gt_9_0 X.1 hG hL mw97 dX9_polesOf_1 ?_
  refine lv_iload_n hx hb dX9_polesOf_4 rfl (lv_at hl 1 rfl) ?_
  refine g_callSN_i (nA := 2) (o := M_X10_at σ (k + 1) p0) (As := [.ref (E.1 (k + 1)), .int p0]) X.1 hG (fun _ _ h => C_X10_at l E h (lf_9_0 hL)) mw535 mw477 mw12 (gw_ok mw478 rfl) (by decide +kernel) rfl ⟨Nat.le_of_ble_eq_true rfl, Nat.le_of_ble_eq_true rfl⟩ hl.1 rfl (Nat.le_of_ble_eq_true rfl) ⟨Nat.le_refl _, Nat.le_refl _⟩ dX9_polesOf_5 hM (fun σ1 r2 H locs hG hM => ?_)
  exact e_iret X hG dX9_polesOf_8 hM
def M_X9_weeksOf (σ : St) (k : Nat) (p0 : Int32) : Option (St × Int32) := bcall (M_X10_at σ (k + 2) p0) fun σ1 r2 => some (σ1, r2)
set_option maxRecDepth 20000 in
set_option maxHeartbeats 4000000 in
theorem C_X9_weeksOf (l : Launch) (E : Ev) {σ σ' : St} {k : Nat} {p0 : Int32} {r : Int32} (h : M_X9_weeksOf σ k p0 = some (σ', r)) (hL : lay 9 k) : Mi l E yX9_weeksOf cX9_weeksOf 2 (some .int) 2 [.ref (E.1 k), .int p0] σ σ' r := by
  refine Mi_of (C := RX9) rfl (by decide) (Nat.le_of_ble_eq_true rfl) (z := (σ', r)) (fun p e s m below meth c ls X hG hl => ?_)
  have hx := X.1.1.1
  have hb := X.1.1.2.1
  have hM := h
  unfold M_X9_weeksOf at hM
  generalize (σ', r) = z at hM ⊢
  have hl : lv_has ls 2 [(0, .ref (E.1 k)), (1, .int p0)] := hl
  refine lv_aload_n hx hb dX9_weeksOf_0 rfl (lv_at hl 0 rfl) ?_
  refine gt_9_1 X.1 hG hL mw98 dX9_weeksOf_1 ?_
  refine lv_iload_n hx hb dX9_weeksOf_4 rfl (lv_at hl 1 rfl) ?_
  refine g_callSN_i (nA := 2) (o := M_X10_at σ (k + 2) p0) (As := [.ref (E.1 (k + 2)), .int p0]) X.1 hG (fun _ _ h => C_X10_at l E h (lf_9_1 hL)) mw535 mw477 mw12 (gw_ok mw478 rfl) (by decide +kernel) rfl ⟨Nat.le_of_ble_eq_true rfl, Nat.le_of_ble_eq_true rfl⟩ hl.1 rfl (Nat.le_of_ble_eq_true rfl) ⟨Nat.le_refl _, Nat.le_refl _⟩ dX9_weeksOf_5 hM (fun σ1 r2 H locs hG hM => ?_)
  exact e_iret X hG dX9_weeksOf_8 hM
def M_X9_tieOf (σ : St) (k : Nat) (p0 : Int32) : Option (St × Int32) := bcall (M_X10_at σ (k + 3) p0) fun σ1 r2 => some (σ1, r2)
set_option maxRecDepth 20000 in
set_option maxHeartbeats 4000000 in
theorem C_X9_tieOf (l : Launch) (E : Ev) {σ σ' : St} {k : Nat} {p0 : Int32} {r : Int32} (h : M_X9_tieOf σ k p0 = some (σ', r)) (hL : lay 9 k) : Mi l E yX9_tieOf cX9_tieOf 2 (some .int) 2 [.ref (E.1 k), .int p0] σ σ' r := by
  refine Mi_of (C := RX9) rfl (by decide) (Nat.le_of_ble_eq_true rfl) (z := (σ', r)) (fun p e s m below meth c ls X hG hl => ?_)
  have hx := X.1.1.1
  have hb := X.1.1.2.1
  have hM := h
  unfold M_X9_tieOf at hM
  generalize (σ', r) = z at hM ⊢
  have hl : lv_has ls 2 [(0, .ref (E.1 k)), (1, .int p0)] := hl
  refine lv_aload_n hx hb dX9_tieOf_0 rfl (lv_at hl 0 rfl) ?_
  refine gt_9_2 X.1 hG hL mw99 dX9_tieOf_1 ?_
  refine lv_iload_n hx hb dX9_tieOf_4 rfl (lv_at hl 1 rfl) ?_
  refine g_callSN_i (nA := 2) (o := M_X10_at σ (k + 3) p0) (As := [.ref (E.1 (k + 3)), .int p0]) X.1 hG (fun _ _ h => C_X10_at l E h (lf_9_2 hL)) mw535 mw477 mw12 (gw_ok mw478 rfl) (by decide +kernel) rfl ⟨Nat.le_of_ble_eq_true rfl, Nat.le_of_ble_eq_true rfl⟩ hl.1 rfl (Nat.le_of_ble_eq_true rfl) ⟨Nat.le_refl _, Nat.le_refl _⟩ dX9_tieOf_5 hM (fun σ1 r2 H locs hG hM => ?_)
  exact e_iret X hG dX9_tieOf_8 hM
def M_X9_hoursOf (σ : St) (k : Nat) (p0 : Int32) : Option (St × Int32) := bcall (M_X10_at σ (k + 4) p0) fun σ1 r2 => some (σ1, r2)
set_option maxRecDepth 20000 in
set_option maxHeartbeats 4000000 in
theorem C_X9_hoursOf (l : Launch) (E : Ev) {σ σ' : St} {k : Nat} {p0 : Int32} {r : Int32} (h : M_X9_hoursOf σ k p0 = some (σ', r)) (hL : lay 9 k) : Mi l E yX9_hoursOf cX9_hoursOf 2 (some .int) 2 [.ref (E.1 k), .int p0] σ σ' r := by
  refine Mi_of (C := RX9) rfl (by decide) (Nat.le_of_ble_eq_true rfl) (z := (σ', r)) (fun p e s m below meth c ls X hG hl => ?_)
  have hx := X.1.1.1
  have hb := X.1.1.2.1
  have hM := h
  unfold M_X9_hoursOf at hM
  generalize (σ', r) = z at hM ⊢
  have hl : lv_has ls 2 [(0, .ref (E.1 k)), (1, .int p0)] := hl
  refine lv_aload_n hx hb dX9_hoursOf_0 rfl (lv_at hl 0 rfl) ?_
  refine gt_9_3 X.1 hG hL mw100 dX9_hoursOf_1 ?_
  refine lv_iload_n hx hb dX9_hoursOf_4 rfl (lv_at hl 1 rfl) ?_
  refine g_callSN_i (nA := 2) (o := M_X10_at σ (k + 4) p0) (As := [.ref (E.1 (k + 4)), .int p0]) X.1 hG (fun _ _ h => C_X10_at l E h (lf_9_3 hL)) mw535 mw477 mw12 (gw_ok mw478 rfl) (by decide +kernel) rfl ⟨Nat.le_of_ble_eq_true rfl, Nat.le_of_ble_eq_true rfl⟩ hl.1 rfl (Nat.le_of_ble_eq_true rfl) ⟨Nat.le_refl _, Nat.le_refl _⟩ dX9_hoursOf_5 hM (fun σ1 r2 H locs hG hM => ?_)
  exact e_iret X hG dX9_hoursOf_8 hM
def M_X9_loadsOf (σ : St) (k : Nat) (p0 : Int32) : Option (St × Int32) := bcall (M_X10_at σ (k + 5) p0) fun σ1 r2 => some (σ1, r2)
set_option maxRecDepth 20000 in
set_option maxHeartbeats 4000000 in
theorem C_X9_loadsOf (l : Launch) (E : Ev) {σ σ' : St} {k : Nat} {p0 : Int32} {r : Int32} (h : M_X9_loadsOf σ k p0 = some (σ', r)) (hL : lay 9 k) : Mi l E yX9_loadsOf cX9_loadsOf 2 (some .int) 2 [.ref (E.1 k), .int p0] σ σ' r := by
  refine Mi_of (C := RX9) rfl (by decide) (Nat.le_of_ble_eq_true rfl) (z := (σ', r)) (fun p e s m below meth c ls X hG hl => ?_)
  have hx := X.1.1.1
  have hb := X.1.1.2.1
  have hM := h
  unfold M_X9_loadsOf at hM
  generalize (σ', r) = z at hM ⊢
  have hl : lv_has ls 2 [(0, .ref (E.1 k)), (1, .int p0)] := hl
  refine lv_aload_n hx hb dX9_loadsOf_0 rfl (lv_at hl 0 rfl) ?_
  refine gt_9_4 X.1 hG hL mw101 dX9_loadsOf_1 ?_
  refine lv_iload_n hx hb dX9_loadsOf_4 rfl (lv_at hl 1 rfl) ?_
  refine g_callSN_i (nA := 2) (o := M_X10_at σ (k + 5) p0) (As := [.ref (E.1 (k + 5)), .int p0]) X.1 hG (fun _ _ h => C_X10_at l E h (lf_9_4 hL)) mw535 mw477 mw12 (gw_ok mw478 rfl) (by decide +kernel) rfl ⟨Nat.le_of_ble_eq_true rfl, Nat.le_of_ble_eq_true rfl⟩ hl.1 rfl (Nat.le_of_ble_eq_true rfl) ⟨Nat.le_refl _, Nat.le_refl _⟩ dX9_loadsOf_5 hM (fun σ1 r2 H locs hG hM => ?_)
  exact e_iret X hG dX9_loadsOf_8 hM
def M_X9_shutterOf (σ : St) (k : Nat) (p0 : Int32) : Option (St × Int32) := bcall (M_X10_at σ (k + 6) p0) fun σ1 r2 => some (σ1, r2)
set_option maxRecDepth 20000 in
set_option maxHeartbeats 4000000 in
theorem C_X9_shutterOf (l : Launch) (E : Ev) {σ σ' : St} {k : Nat} {p0 : Int32} {r : Int32} (h : M_X9_shutterOf σ k p0 = some (σ', r)) (hL : lay 9 k) : Mi l E yX9_shutterOf cX9_shutterOf 2 (some .int) 2 [.ref (E.1 k), .int p0] σ σ' r := by
  refine Mi_of (C := RX9) rfl (by decide) (Nat.le_of_ble_eq_true rfl) (z := (σ', r)) (fun p e s m below meth c ls X hG hl => ?_)
  have hx := X.1.1.1
  have hb := X.1.1.2.1
  have hM := h
  unfold M_X9_shutterOf at hM
  generalize (σ', r) = z at hM ⊢
  have hl : lv_has ls 2 [(0, .ref (E.1 k)), (1, .int p0)] := hl
  refine lv_aload_n hx hb dX9_shutterOf_0 rfl (lv_at hl 0 rfl) ?_
  refine gt_9_5 X.1 hG hL mw102 dX9_shutterOf_1 ?_
  refine lv_iload_n hx hb dX9_shutterOf_4 rfl (lv_at hl 1 rfl) ?_
  refine g_callSN_i (nA := 2) (o := M_X10_at σ (k + 6) p0) (As := [.ref (E.1 (k + 6)), .int p0]) X.1 hG (fun _ _ h => C_X10_at l E h (lf_9_5 hL)) mw535 mw477 mw12 (gw_ok mw478 rfl) (by decide +kernel) rfl ⟨Nat.le_of_ble_eq_true rfl, Nat.le_of_ble_eq_true rfl⟩ hl.1 rfl (Nat.le_of_ble_eq_true rfl) ⟨Nat.le_refl _, Nat.le_refl _⟩ dX9_shutterOf_5 hM (fun σ1 r2 H locs hG hM => ?_)
  exact e_iret X hG dX9_shutterOf_8 hM
def M_X9_isShut (σ : St) (k : Nat) (p0 : Int32) : Option (St × Int32) := bcall (M_X9_shutterOf σ k p0) fun σ1 r2 => if r2 = (-4 : Int32) then some (σ1, (0 : Int32)) else some (σ1, (1 : Int32))
set_option maxRecDepth 20000 in
set_option maxHeartbeats 4000000 in
theorem C_X9_isShut (l : Launch) (E : Ev) {σ σ' : St} {k : Nat} {p0 : Int32} {r : Int32} (h : M_X9_isShut σ k p0 = some (σ', r)) (hL : lay 9 k) : Mi l E yX9_isShut cX9_isShut 2 (some .boolean) 3 [.ref (E.1 k), .int p0] σ σ' r := by
  refine Mi_of (C := RX9) rfl (by decide) (Nat.le_of_ble_eq_true rfl) (z := (σ', r)) (fun p e s m below meth c ls X hG hl => ?_)
  have hx := X.1.1.1
  have hb := X.1.1.2.1
  have hM := h
  unfold M_X9_isShut at hM
  generalize (σ', r) = z at hM ⊢
  have hl : lv_has ls 2 [(0, .ref (E.1 k)), (1, .int p0)] := hl
  refine lv_aload_n hx hb dX9_isShut_0 rfl (lv_at hl 0 rfl) ?_
  refine lv_iload_n hx hb dX9_isShut_1 rfl (lv_at hl 1 rfl) ?_
  refine g_callV_i (nA := 1) (o := M_X9_shutterOf σ k p0) (As := [.int p0]) X.1 hG hL rfl rfl (fun _ _ h => C_X9_shutterOf l E h hL) mw540 mw541 mw542 mw17 (gw_ok mw543 rfl) (by decide +kernel) rfl ⟨Nat.le_of_ble_eq_true rfl, Nat.le_of_ble_eq_true rfl⟩ hl.1 rfl (Nat.le_of_ble_eq_true rfl) ⟨Nat.le_refl _, Nat.le_refl _⟩ dX9_isShut_2 hM (fun σ1 r2 H locs hG hM => ?_)
  refine lv_bipush (v := (-4 : Int32)) hx hb dX9_isShut_5 (by decide) ?_
  refine lv_icmp_eq (tgt := 14) hx hb dX9_isShut_7 (by decide) (fun c3 => ?_) (fun c3 => ?_)
  · have hM := b_if hM c3
    refine lv_iconst (v := (0 : Int32)) hx hb dX9_isShut_14 (by decide) ?_
    exact e_zret X hG (by decide) dX9_isShut_15 hM
  · have hM := b_else hM c3
    refine lv_iconst (v := (1 : Int32)) hx hb dX9_isShut_10 (by decide) ?_
    refine lv_goto (tgt := 15) hx hb dX9_isShut_11 (by decide) ?_
    exact e_zret X hG (by decide) dX9_isShut_15 hM
def M_X9_isOld (σ : St) (k : Nat) (p0 : Int32) : Option (St × Int32) := bcall (M_X10_at σ (k + 3) p0) fun σ1 r2 => if r2 ≤ (20 : Int32) then some (σ1, (0 : Int32)) else some (σ1, (1 : Int32))
set_option maxRecDepth 20000 in
set_option maxHeartbeats 4000000 in
theorem C_X9_isOld (l : Launch) (E : Ev) {σ σ' : St} {k : Nat} {p0 : Int32} {r : Int32} (h : M_X9_isOld σ k p0 = some (σ', r)) (hL : lay 9 k) : Mi l E yX9_isOld cX9_isOld 2 (some .boolean) 2 [.ref (E.1 k), .int p0] σ σ' r := by
  refine Mi_of (C := RX9) rfl (by decide) (Nat.le_of_ble_eq_true rfl) (z := (σ', r)) (fun p e s m below meth c ls X hG hl => ?_)
  have hx := X.1.1.1
  have hb := X.1.1.2.1
  have hM := h
  unfold M_X9_isOld at hM
  generalize (σ', r) = z at hM ⊢
  have hl : lv_has ls 2 [(0, .ref (E.1 k)), (1, .int p0)] := hl
  refine lv_aload_n hx hb dX9_isOld_0 rfl (lv_at hl 0 rfl) ?_
  refine gt_9_2 X.1 hG hL mw99 dX9_isOld_1 ?_
  refine lv_iload_n hx hb dX9_isOld_4 rfl (lv_at hl 1 rfl) ?_
  refine g_callSN_i (nA := 2) (o := M_X10_at σ (k + 3) p0) (As := [.ref (E.1 (k + 3)), .int p0]) X.1 hG (fun _ _ h => C_X10_at l E h (lf_9_2 hL)) mw535 mw477 mw12 (gw_ok mw478 rfl) (by decide +kernel) rfl ⟨Nat.le_of_ble_eq_true rfl, Nat.le_of_ble_eq_true rfl⟩ hl.1 rfl (Nat.le_of_ble_eq_true rfl) ⟨Nat.le_refl _, Nat.le_refl _⟩ dX9_isOld_5 hM (fun σ1 r2 H locs hG hM => ?_)
  refine lv_bipush (v := (20 : Int32)) hx hb dX9_isOld_8 (by decide) ?_
  refine lv_icmp_le (tgt := 17) hx hb dX9_isOld_10 (by decide) (fun c3 => ?_) (fun c3 => ?_)
  · have hM := b_if hM c3
    refine lv_iconst (v := (0 : Int32)) hx hb dX9_isOld_17 (by decide) ?_
    exact e_zret X hG (by decide) dX9_isOld_18 hM
  · have hM := b_else hM c3
    refine lv_iconst (v := (1 : Int32)) hx hb dX9_isOld_13 (by decide) ?_
    refine lv_goto (tgt := 18) hx hb dX9_isOld_14 (by decide) ?_
    exact e_zret X hG (by decide) dX9_isOld_18 hM
def M_X9_stripsFor (σ : St) (k : Nat) (p0 : Int32) : Option (St × Int32) := bcall (M_X9_polesOf σ k p0) fun σ1 r2 => some (σ1, r2 * (2 : Int32))
set_option maxRecDepth 20000 in
set_option maxHeartbeats 4000000 in
theorem C_X9_stripsFor (l : Launch) (E : Ev) {σ σ' : St} {k : Nat} {p0 : Int32} {r : Int32} (h : M_X9_stripsFor σ k p0 = some (σ', r)) (hL : lay 9 k) : Mi l E yX9_stripsFor cX9_stripsFor 2 (some .int) 3 [.ref (E.1 k), .int p0] σ σ' r := by
  refine Mi_of (C := RX9) rfl (by decide) (Nat.le_of_ble_eq_true rfl) (z := (σ', r)) (fun p e s m below meth c ls X hG hl => ?_)
  have hx := X.1.1.1
  have hb := X.1.1.2.1
  have hM := h
  unfold M_X9_stripsFor at hM
  generalize (σ', r) = z at hM ⊢
  have hl : lv_has ls 2 [(0, .ref (E.1 k)), (1, .int p0)] := hl
  refine lv_aload_n hx hb dX9_stripsFor_0 rfl (lv_at hl 0 rfl) ?_
  refine lv_iload_n hx hb dX9_stripsFor_1 rfl (lv_at hl 1 rfl) ?_
  refine g_callV_i (nA := 1) (o := M_X9_polesOf σ k p0) (As := [.int p0]) X.1 hG hL rfl rfl (fun _ _ h => C_X9_polesOf l E h hL) mw850 mw724 mw725 mw17 (gw_ok mw726 rfl) (by decide +kernel) rfl ⟨Nat.le_of_ble_eq_true rfl, Nat.le_of_ble_eq_true rfl⟩ hl.1 rfl (Nat.le_of_ble_eq_true rfl) ⟨Nat.le_refl _, Nat.le_refl _⟩ dX9_stripsFor_2 hM (fun σ1 r2 H locs hG hM => ?_)
  refine lv_iconst (v := (2 : Int32)) hx hb dX9_stripsFor_5 (by decide) ?_
  refine lv_imul hx hb dX9_stripsFor_6 ?_
  exact e_iret X hG dX9_stripsFor_7 hM
def M_X9_strengthOf (σ : St) (k : Nat) (p0 : Int32) : Option (St × Int32) := bcall (M_X10_at σ (k + 2) p0) fun σ1 r2 => bcall (M_X10_at σ1 (k + 1) p0) fun σ3 r4 => bcall (M_X10_at σ3 (k + 3) p0) fun σ5 r6 => blet (((((12 : Int32) - (r2 / (6 : Int32))) + r4) - (r6 / (5 : Int32))) - (p0 / (2 : Int32))) fun v7 => blet (imax v7 (0 : Int32)) fun v8 => some (σ5, v8)
set_option maxRecDepth 20000 in
set_option maxHeartbeats 4000000 in
theorem C_X9_strengthOf (l : Launch) (E : Ev) {σ σ' : St} {k : Nat} {p0 : Int32} {r : Int32} (h : M_X9_strengthOf σ k p0 = some (σ', r)) (hL : lay 9 k) : Mi l E yX9_strengthOf cX9_strengthOf 3 (some .int) 2 [.ref (E.1 k), .int p0] σ σ' r := by
  refine Mi_of (C := RX9) rfl (by decide) (Nat.le_of_ble_eq_true rfl) (z := (σ', r)) (fun p e s m below meth c ls X hG hl => ?_)
  have hx := X.1.1.1
  have hb := X.1.1.2.1
  have hM := h
  unfold M_X9_strengthOf at hM
  generalize (σ', r) = z at hM ⊢
  have hl : lv_has ls 3 [(0, .ref (E.1 k)), (1, .int p0)] := hl
  refine lv_bipush (v := (12 : Int32)) hx hb dX9_strengthOf_0 (by decide) ?_
  refine lv_aload_n hx hb dX9_strengthOf_2 rfl (lv_at hl 0 rfl) ?_
  refine gt_9_1 X.1 hG hL mw98 dX9_strengthOf_3 ?_
  refine lv_iload_n hx hb dX9_strengthOf_6 rfl (lv_at hl 1 rfl) ?_
  refine g_callSN_i (nA := 2) (o := M_X10_at σ (k + 2) p0) (As := [.ref (E.1 (k + 2)), .int p0]) X.1 hG (fun _ _ h => C_X10_at l E h (lf_9_1 hL)) mw535 mw477 mw12 (gw_ok mw478 rfl) (by decide +kernel) rfl ⟨Nat.le_of_ble_eq_true rfl, Nat.le_of_ble_eq_true rfl⟩ hl.1 rfl (Nat.le_of_ble_eq_true rfl) ⟨Nat.le_refl _, Nat.le_refl _⟩ dX9_strengthOf_7 hM (fun σ1 r2 H locs hG hM => ?_)
  refine lv_bipush (v := (6 : Int32)) hx hb dX9_strengthOf_10 (by decide) ?_
  refine lv_idiv hx hb dX9_strengthOf_12 (by decide) ?_
  refine lv_isub hx hb dX9_strengthOf_13 ?_
  refine lv_aload_n hx hb dX9_strengthOf_14 rfl (lv_at hl 0 rfl) ?_
  refine gt_9_0 X.1 hG hL mw97 dX9_strengthOf_15 ?_
  refine lv_iload_n hx hb dX9_strengthOf_18 rfl (lv_at hl 1 rfl) ?_
  refine g_callSN_i (nA := 2) (o := M_X10_at σ1 (k + 1) p0) (As := [.ref (E.1 (k + 1)), .int p0]) X.1 hG (fun _ _ h => C_X10_at l E h (lf_9_0 hL)) mw535 mw477 mw12 (gw_ok mw478 rfl) (by decide +kernel) rfl ⟨Nat.le_of_ble_eq_true rfl, Nat.le_of_ble_eq_true rfl⟩ hl.1 rfl (Nat.le_of_ble_eq_true rfl) ⟨Nat.le_refl _, Nat.le_refl _⟩ dX9_strengthOf_19 hM (fun σ3 r4 H locs hG hM => ?_)
  refine lv_iadd hx hb dX9_strengthOf_22 ?_
  refine lv_aload_n hx hb dX9_strengthOf_23 rfl (lv_at hl 0 rfl) ?_
  refine gt_9_2 X.1 hG hL mw99 dX9_strengthOf_24 ?_
  refine lv_iload_n hx hb dX9_strengthOf_27 rfl (lv_at hl 1 rfl) ?_
  refine g_callSN_i (nA := 2) (o := M_X10_at σ3 (k + 3) p0) (As := [.ref (E.1 (k + 3)), .int p0]) X.1 hG (fun _ _ h => C_X10_at l E h (lf_9_2 hL)) mw535 mw477 mw12 (gw_ok mw478 rfl) (by decide +kernel) rfl ⟨Nat.le_of_ble_eq_true rfl, Nat.le_of_ble_eq_true rfl⟩ hl.1 rfl (Nat.le_of_ble_eq_true rfl) ⟨Nat.le_refl _, Nat.le_refl _⟩ dX9_strengthOf_28 hM (fun σ5 r6 H locs hG hM => ?_)
  refine lv_iconst (v := (5 : Int32)) hx hb dX9_strengthOf_31 (by decide) ?_
  refine lv_idiv hx hb dX9_strengthOf_32 (by decide) ?_
  refine lv_isub hx hb dX9_strengthOf_33 ?_
  refine lv_iload_n hx hb dX9_strengthOf_34 rfl (lv_at hl 1 rfl) ?_
  refine lv_iconst (v := (2 : Int32)) hx hb dX9_strengthOf_35 (by decide) ?_
  refine lv_idiv hx hb dX9_strengthOf_36 (by decide) ?_
  refine lv_isub hx hb dX9_strengthOf_37 ?_
  refine g_name hM (fun v7 hM => ?_)
  refine lv_istore_n (lv' := [(2, .int v7), (0, .ref (E.1 k)), (1, .int p0)]) hx hb dX9_strengthOf_38 rfl hl (by decide) rfl (fun ls hl => ?_)
  refine lv_iload_n hx hb dX9_strengthOf_39 rfl (lv_at hl 0 rfl) ?_
  refine lv_iconst (v := (0 : Int32)) hx hb dX9_strengthOf_40 (by decide) ?_
  refine g_max X.1 hl.1 mw349 (Nat.le_of_ble_eq_true rfl) (Nat.le_of_ble_eq_true rfl) (Nat.le_of_ble_eq_true rfl) (Nat.le_of_ble_eq_true rfl) dX9_strengthOf_41 hM (fun v8 hM => ?_)
  exact e_iret X hG dX9_strengthOf_44 hM
def B_X9_strengthByStepsOf_54  : Nat → St → Nat → Int32 → Int32 → Int32 → Option (St × Int32)
  | 0, _, _, _, _, _ => none
  | n + 1, σ, k, x1, x2, x3 => if x1 < x3 then (if 0 ≤ x2 then some (σ, x2) else some (σ, (0 : Int32))) else (blet (x2 + (-1 : Int32)) fun v9 => blet (x3 + (2 : Int32)) fun v10 => B_X9_strengthByStepsOf_54 n σ k x1 v9 v10)
def B_X9_strengthByStepsOf_34  : Nat → St → Nat → Int32 → Int32 → Int32 → Option (St × Int32)
  | 0, _, _, _, _, _ => none
  | n + 1, σ, k, x1, x2, x3 => bcall (M_X9_tieOf σ k x1) fun σ6 r7 => if r7 < x3 then (B_X9_strengthByStepsOf_54 FU σ6 k x1 x2 (2 : Int32)) else (blet (x2 + (-1 : Int32)) fun v12 => blet (x3 + (5 : Int32)) fun v13 => B_X9_strengthByStepsOf_34 n σ6 k x1 v12 v13)
def B_X9_strengthByStepsOf_14  : Nat → St → Nat → Int32 → Int32 → Int32 → Option (St × Int32)
  | 0, _, _, _, _, _ => none
  | n + 1, σ, k, x1, x2, x3 => bcall (M_X9_polesOf σ k x1) fun σ4 r5 => if r5 < x3 then (B_X9_strengthByStepsOf_34 FU σ4 k x1 x2 (5 : Int32)) else (blet (x2 + (1 : Int32)) fun v15 => blet (x3 + (1 : Int32)) fun v16 => B_X9_strengthByStepsOf_14 n σ4 k x1 v15 v16)
def M_X9_strengthByStepsOf (σ : St) (k : Nat) (p0 : Int32) : Option (St × Int32) := bcall (M_X9_weeksOf σ k p0) fun σ1 r2 => blet ((12 : Int32) - (r2 / (6 : Int32))) fun v3 => B_X9_strengthByStepsOf_14 FU σ1 k p0 v3 (1 : Int32)
set_option maxRecDepth 20000 in
set_option maxHeartbeats 4000000 in
theorem w_X9_strengthByStepsOf_54 {p : Program} {l : Launch} {e : Env} {s : State} {m : MethodId} {below : List Frame} {meth : Method} {c : Code} {args : Array Value} {E : Ev} {k : Nat} (X : Bx E p m meth c cX9_strengthByStepsOf 4 (some .int) s args RX9) (hL : lay 9 k) : ∀ (n : Nat) (σ : St) (x1 x2 x3 : Int32) (H : Heap) (locs : List Loc) (ls : Array Slot) (z : St × Int32), GS E σ s.heap H locs → lv_has ls 4 [(1, .int x1), (2, .int x2), (3, .int x3)] → B_X9_strengthByStepsOf_54 n σ k x1 x2 x3 = some z → W p l e (rmd 3) s m args below meth c H locs 0 0 (QI E z below args s) (F0 m 54 ls []) := by
  have hx := X.1.1.1
  have hb := X.1.1.2.1
  intro n
  induction n with
  | zero => intro σ x1 x2 x3 H locs ls z  hG hl hM; cases hM
  | succ n ih =>
    intro σ x1 x2 x3 H locs ls z  hG hl hM
    unfold B_X9_strengthByStepsOf_54 at hM
    refine lv_iload_n hx hb dX9_strengthByStepsOf_54 rfl (lv_at hl 2 rfl) ?_
    refine lv_iload_n hx hb dX9_strengthByStepsOf_55 rfl (lv_at hl 0 rfl) ?_
    refine lv_icmp_gt (tgt := 68) hx hb dX9_strengthByStepsOf_56 (by decide) (fun c11 => ?_) (fun c11 => ?_)
    · have hM := b_if hM c11
      refine lv_iload_n hx hb dX9_strengthByStepsOf_68 rfl (lv_at hl 1 rfl) ?_
      refine lv_if_ge (tgt := 76) hx hb dX9_strengthByStepsOf_69 (by decide) (fun c8 => ?_) (fun c8 => ?_)
      · have hM := b_if hM c8
        refine lv_iload_n hx hb dX9_strengthByStepsOf_76 rfl (lv_at hl 1 rfl) ?_
        exact e_iret X hG dX9_strengthByStepsOf_77 hM
      · have hM := b_else hM c8
        refine lv_iconst (v := (0 : Int32)) hx hb dX9_strengthByStepsOf_72 (by decide) ?_
        refine lv_goto (tgt := 77) hx hb dX9_strengthByStepsOf_73 (by decide) ?_
        exact e_iret X hG dX9_strengthByStepsOf_77 hM
    · have hM := b_else hM c11
      obtain ⟨v9, ev9, hM⟩ := g_nm hM
      refine lv_iinc (v := v9) (lv' := [(2, .int v9), (1, .int x1), (3, .int x3)]) hx hb dX9_strengthByStepsOf_59 hl (k := 1) rfl (by rw [ev9]; rfl) (by decide) rfl (fun ls hl => ?_)
      obtain ⟨v10, ev10, hM⟩ := g_nm hM
      refine lv_iinc (v := v10) (lv' := [(3, .int v10), (2, .int v9), (1, .int x1)]) hx hb dX9_strengthByStepsOf_62 hl (k := 2) rfl (by rw [ev10]; rfl) (by decide) rfl (fun ls hl => ?_)
      refine lv_goto (tgt := 54) hx hb dX9_strengthByStepsOf_65 (by decide) ?_
      exact ih σ x1 v9 v10 _ _ _ z hG (lv_sub hl [2, 1, 0] rfl) hM
set_option maxRecDepth 20000 in
set_option maxHeartbeats 4000000 in
theorem w_X9_strengthByStepsOf_34 {p : Program} {l : Launch} {e : Env} {s : State} {m : MethodId} {below : List Frame} {meth : Method} {c : Code} {args : Array Value} {E : Ev} {k : Nat} (X : Bx E p m meth c cX9_strengthByStepsOf 4 (some .int) s args RX9) (hL : lay 9 k) : ∀ (n : Nat) (σ : St) (x1 x2 x3 : Int32) (H : Heap) (locs : List Loc) (ls : Array Slot) (z : St × Int32), GS E σ s.heap H locs → lv_has ls 4 [(0, .ref (E.1 k)), (1, .int x1), (2, .int x2), (3, .int x3)] → B_X9_strengthByStepsOf_34 n σ k x1 x2 x3 = some z → W p l e (rmd 3) s m args below meth c H locs 0 0 (QI E z below args s) (F0 m 34 ls []) := by
  have hx := X.1.1.1
  have hb := X.1.1.2.1
  intro n
  induction n with
  | zero => intro σ x1 x2 x3 H locs ls z  hG hl hM; cases hM
  | succ n ih =>
    intro σ x1 x2 x3 H locs ls z  hG hl hM
    unfold B_X9_strengthByStepsOf_34 at hM
    refine lv_iload_n hx hb dX9_strengthByStepsOf_34 rfl (lv_at hl 3 rfl) ?_
    refine lv_aload_n hx hb dX9_strengthByStepsOf_35 rfl (lv_at hl 0 rfl) ?_
    refine lv_iload_n hx hb dX9_strengthByStepsOf_36 rfl (lv_at hl 1 rfl) ?_
    refine g_callV_i (nA := 1) (o := M_X9_tieOf σ k x1) (As := [.int x1]) X.1 hG hL rfl rfl (fun _ _ h => C_X9_tieOf l E h hL) mw889 mw642 mw643 mw17 (gw_ok mw644 rfl) (by decide +kernel) rfl ⟨Nat.le_of_ble_eq_true rfl, Nat.le_of_ble_eq_true rfl⟩ hl.1 rfl (Nat.le_of_ble_eq_true rfl) ⟨Nat.le_refl _, Nat.le_refl _⟩ dX9_strengthByStepsOf_37 hM (fun σ6 r7 H locs hG hM => ?_)
    refine lv_icmp_gt (tgt := 52) hx hb dX9_strengthByStepsOf_40 (by decide) (fun c14 => ?_) (fun c14 => ?_)
    · have hM := b_if hM c14
      refine lv_iconst (v := (2 : Int32)) hx hb dX9_strengthByStepsOf_52 (by decide) ?_
      refine lv_istore_n (lv' := [(3, .int (2 : Int32)), (0, .ref (E.1 k)), (1, .int x1), (2, .int x2)]) hx hb dX9_strengthByStepsOf_53 rfl hl (by decide) rfl (fun ls hl => ?_)
      exact w_X9_strengthByStepsOf_54 X hL FU σ6 x1 x2 (2 : Int32) _ _ _ z hG (lv_sub hl [2, 3, 0] rfl) hM
    · have hM := b_else hM c14
      obtain ⟨v12, ev12, hM⟩ := g_nm hM
      refine lv_iinc (v := v12) (lv' := [(2, .int v12), (0, .ref (E.1 k)), (1, .int x1), (3, .int x3)]) hx hb dX9_strengthByStepsOf_43 hl (k := 2) rfl (by rw [ev12]; rfl) (by decide) rfl (fun ls hl => ?_)
      obtain ⟨v13, ev13, hM⟩ := g_nm hM
      refine lv_iinc (v := v13) (lv' := [(3, .int v13), (2, .int v12), (0, .ref (E.1 k)), (1, .int x1)]) hx hb dX9_strengthByStepsOf_46 hl (k := 3) rfl (by rw [ev13]; rfl) (by decide) rfl (fun ls hl => ?_)
      refine lv_goto (tgt := 34) hx hb dX9_strengthByStepsOf_49 (by decide) ?_
      exact ih σ6 x1 v12 v13 _ _ _ z hG (lv_sub hl [2, 3, 1, 0] rfl) hM
set_option maxRecDepth 20000 in
set_option maxHeartbeats 4000000 in
theorem w_X9_strengthByStepsOf_14 {p : Program} {l : Launch} {e : Env} {s : State} {m : MethodId} {below : List Frame} {meth : Method} {c : Code} {args : Array Value} {E : Ev} {k : Nat} (X : Bx E p m meth c cX9_strengthByStepsOf 4 (some .int) s args RX9) (hL : lay 9 k) : ∀ (n : Nat) (σ : St) (x1 x2 x3 : Int32) (H : Heap) (locs : List Loc) (ls : Array Slot) (z : St × Int32), GS E σ s.heap H locs → lv_has ls 4 [(0, .ref (E.1 k)), (1, .int x1), (2, .int x2), (3, .int x3)] → B_X9_strengthByStepsOf_14 n σ k x1 x2 x3 = some z → W p l e (rmd 3) s m args below meth c H locs 0 0 (QI E z below args s) (F0 m 14 ls []) := by
  have hx := X.1.1.1
  have hb := X.1.1.2.1
  intro n
  induction n with
  | zero => intro σ x1 x2 x3 H locs ls z  hG hl hM; cases hM
  | succ n ih =>
    intro σ x1 x2 x3 H locs ls z  hG hl hM
    unfold B_X9_strengthByStepsOf_14 at hM
    refine lv_iload_n hx hb dX9_strengthByStepsOf_14 rfl (lv_at hl 3 rfl) ?_
    refine lv_aload_n hx hb dX9_strengthByStepsOf_15 rfl (lv_at hl 0 rfl) ?_
    refine lv_iload_n hx hb dX9_strengthByStepsOf_16 rfl (lv_at hl 1 rfl) ?_
    refine g_callV_i (nA := 1) (o := M_X9_polesOf σ k x1) (As := [.int x1]) X.1 hG hL rfl rfl (fun _ _ h => C_X9_polesOf l E h hL) mw850 mw724 mw725 mw17 (gw_ok mw726 rfl) (by decide +kernel) rfl ⟨Nat.le_of_ble_eq_true rfl, Nat.le_of_ble_eq_true rfl⟩ hl.1 rfl (Nat.le_of_ble_eq_true rfl) ⟨Nat.le_refl _, Nat.le_refl _⟩ dX9_strengthByStepsOf_17 hM (fun σ4 r5 H locs hG hM => ?_)
    refine lv_icmp_gt (tgt := 32) hx hb dX9_strengthByStepsOf_20 (by decide) (fun c17 => ?_) (fun c17 => ?_)
    · have hM := b_if hM c17
      refine lv_iconst (v := (5 : Int32)) hx hb dX9_strengthByStepsOf_32 (by decide) ?_
      refine lv_istore_n (lv' := [(3, .int (5 : Int32)), (0, .ref (E.1 k)), (1, .int x1), (2, .int x2)]) hx hb dX9_strengthByStepsOf_33 rfl hl (by decide) rfl (fun ls hl => ?_)
      exact w_X9_strengthByStepsOf_34 X hL FU σ4 x1 x2 (5 : Int32) _ _ _ z hG (lv_sub hl [1, 2, 3, 0] rfl) hM
    · have hM := b_else hM c17
      obtain ⟨v15, ev15, hM⟩ := g_nm hM
      refine lv_iinc (v := v15) (lv' := [(2, .int v15), (0, .ref (E.1 k)), (1, .int x1), (3, .int x3)]) hx hb dX9_strengthByStepsOf_23 hl (k := 2) rfl (by rw [ev15]; rfl) (by decide) rfl (fun ls hl => ?_)
      obtain ⟨v16, ev16, hM⟩ := g_nm hM
      refine lv_iinc (v := v16) (lv' := [(3, .int v16), (2, .int v15), (0, .ref (E.1 k)), (1, .int x1)]) hx hb dX9_strengthByStepsOf_26 hl (k := 3) rfl (by rw [ev16]; rfl) (by decide) rfl (fun ls hl => ?_)
      refine lv_goto (tgt := 14) hx hb dX9_strengthByStepsOf_29 (by decide) ?_
      exact ih σ4 x1 v15 v16 _ _ _ z hG (lv_sub hl [2, 3, 1, 0] rfl) hM
set_option maxRecDepth 20000 in
set_option maxHeartbeats 4000000 in
theorem C_X9_strengthByStepsOf (l : Launch) (E : Ev) {σ σ' : St} {k : Nat} {p0 : Int32} {r : Int32} (h : M_X9_strengthByStepsOf σ k p0 = some (σ', r)) (hL : lay 9 k) : Mi l E yX9_strengthByStepsOf cX9_strengthByStepsOf 4 (some .int) 3 [.ref (E.1 k), .int p0] σ σ' r := by
  refine Mi_of (C := RX9) rfl (by decide) (Nat.le_of_ble_eq_true rfl) (z := (σ', r)) (fun p e s m below meth c ls X hG hl => ?_)
  have hx := X.1.1.1
  have hb := X.1.1.2.1
  have hM := h
  unfold M_X9_strengthByStepsOf at hM
  generalize (σ', r) = z at hM ⊢
  have hl : lv_has ls 4 [(0, .ref (E.1 k)), (1, .int p0)] := hl
  refine lv_bipush (v := (12 : Int32)) hx hb dX9_strengthByStepsOf_0 (by decide) ?_
  refine lv_aload_n hx hb dX9_strengthByStepsOf_2 rfl (lv_at hl 0 rfl) ?_
  refine lv_iload_n hx hb dX9_strengthByStepsOf_3 rfl (lv_at hl 1 rfl) ?_
  refine g_callV_i (nA := 1) (o := M_X9_weeksOf σ k p0) (As := [.int p0]) X.1 hG hL rfl rfl (fun _ _ h => C_X9_weeksOf l E h hL) mw888 mw872 mw873 mw17 (gw_ok mw874 rfl) (by decide +kernel) rfl ⟨Nat.le_of_ble_eq_true rfl, Nat.le_of_ble_eq_true rfl⟩ hl.1 rfl (Nat.le_of_ble_eq_true rfl) ⟨Nat.le_refl _, Nat.le_refl _⟩ dX9_strengthByStepsOf_4 hM (fun σ1 r2 H locs hG hM => ?_)
  refine lv_bipush (v := (6 : Int32)) hx hb dX9_strengthByStepsOf_7 (by decide) ?_
  refine lv_idiv hx hb dX9_strengthByStepsOf_9 (by decide) ?_
  refine lv_isub hx hb dX9_strengthByStepsOf_10 ?_
  refine g_name hM (fun v3 hM => ?_)
  refine lv_istore_n (lv' := [(2, .int v3), (0, .ref (E.1 k)), (1, .int p0)]) hx hb dX9_strengthByStepsOf_11 rfl hl (by decide) rfl (fun ls hl => ?_)
  refine lv_iconst (v := (1 : Int32)) hx hb dX9_strengthByStepsOf_12 (by decide) ?_
  refine lv_istore_n (lv' := [(3, .int (1 : Int32)), (2, .int v3), (0, .ref (E.1 k)), (1, .int p0)]) hx hb dX9_strengthByStepsOf_13 rfl hl (by decide) rfl (fun ls hl => ?_)
  exact w_X9_strengthByStepsOf_14 X hL FU σ1 p0 v3 (1 : Int32) _ _ _ z hG (lv_sub hl [2, 3, 1, 0] rfl) hM
def B_X9_allStrength_4  : Nat → St → Nat → Int32 → Int32 → Option (St × Int32)
  | 0, _, _, _, _ => none
  | n + 1, σ, k, x1, x2 => if (σ k 6) ≤ x2 then some (σ, x1) else (bcall (M_X9_strengthOf σ k x2) fun σ1 r2 => blet (x1 + r2) fun v3 => blet (x2 + (1 : Int32)) fun v4 => B_X9_allStrength_4 n σ1 k v3 v4)
def M_X9_allStrength (σ : St) (k : Nat)  : Option (St × Int32) := B_X9_allStrength_4 FU σ k (0 : Int32) (0 : Int32)
set_option maxRecDepth 20000 in
set_option maxHeartbeats 4000000 in
theorem w_X9_allStrength_4 {p : Program} {l : Launch} {e : Env} {s : State} {m : MethodId} {below : List Frame} {meth : Method} {c : Code} {args : Array Value} {E : Ev} {k : Nat} (X : Bx E p m meth c cX9_allStrength 3 (some .int) s args RX9) (hL : lay 9 k) : ∀ (n : Nat) (σ : St) (x1 x2 : Int32) (H : Heap) (locs : List Loc) (ls : Array Slot) (z : St × Int32), GS E σ s.heap H locs → lv_has ls 3 [(0, .ref (E.1 k)), (1, .int x1), (2, .int x2)] → B_X9_allStrength_4 n σ k x1 x2 = some z → W p l e (rmd 3) s m args below meth c H locs 0 0 (QI E z below args s) (F0 m 4 ls []) := by
  have hx := X.1.1.1
  have hb := X.1.1.2.1
  intro n
  induction n with
  | zero => intro σ x1 x2 H locs ls z  hG hl hM; cases hM
  | succ n ih =>
    intro σ x1 x2 H locs ls z  hG hl hM
    unfold B_X9_allStrength_4 at hM
    refine lv_iload_n hx hb dX9_allStrength_4 rfl (lv_at hl 2 rfl) ?_
    refine lv_aload_n hx hb dX9_allStrength_5 rfl (lv_at hl 0 rfl) ?_
    refine gt_9_6 X.1 hG hL mw103 dX9_allStrength_6 ?_
    refine lv_icmp_ge (tgt := 26) hx hb dX9_allStrength_9 (by decide) (fun c5 => ?_) (fun c5 => ?_)
    · have hM := b_if hM c5
      refine lv_iload_n hx hb dX9_allStrength_26 rfl (lv_at hl 1 rfl) ?_
      exact e_iret X hG dX9_allStrength_27 hM
    · have hM := b_else hM c5
      refine lv_iload_n hx hb dX9_allStrength_12 rfl (lv_at hl 1 rfl) ?_
      refine lv_aload_n hx hb dX9_allStrength_13 rfl (lv_at hl 0 rfl) ?_
      refine lv_iload_n hx hb dX9_allStrength_14 rfl (lv_at hl 2 rfl) ?_
      refine g_callV_i (nA := 1) (o := M_X9_strengthOf σ k x2) (As := [.int x2]) X.1 hG hL rfl rfl (fun _ _ h => C_X9_strengthOf l E h hL) mw715 mw716 mw717 mw17 (gw_ok mw718 rfl) (by decide +kernel) rfl ⟨Nat.le_of_ble_eq_true rfl, Nat.le_of_ble_eq_true rfl⟩ hl.1 rfl (Nat.le_of_ble_eq_true rfl) ⟨Nat.le_refl _, Nat.le_refl _⟩ dX9_allStrength_15 hM (fun σ1 r2 H locs hG hM => ?_)
      refine lv_iadd hx hb dX9_allStrength_18 ?_
      refine g_name hM (fun v3 hM => ?_)
      refine lv_istore_n (lv' := [(1, .int v3), (0, .ref (E.1 k)), (2, .int x2)]) hx hb dX9_allStrength_19 rfl hl (by decide) rfl (fun ls hl => ?_)
      obtain ⟨v4, ev4, hM⟩ := g_nm hM
      refine lv_iinc (v := v4) (lv' := [(2, .int v4), (1, .int v3), (0, .ref (E.1 k))]) hx hb dX9_allStrength_20 hl (k := 2) rfl (by rw [ev4]; rfl) (by decide) rfl (fun ls hl => ?_)
      refine lv_goto (tgt := 4) hx hb dX9_allStrength_23 (by decide) ?_
      exact ih σ1 v3 v4 _ _ _ z hG (lv_sub hl [2, 1, 0] rfl) hM
set_option maxRecDepth 20000 in
set_option maxHeartbeats 4000000 in
theorem C_X9_allStrength (l : Launch) (E : Ev) {σ σ' : St} {k : Nat} {r : Int32} (h : M_X9_allStrength σ k = some (σ', r)) (hL : lay 9 k) : Mi l E yX9_allStrength cX9_allStrength 3 (some .int) 3 [.ref (E.1 k)] σ σ' r := by
  refine Mi_of (C := RX9) rfl (by decide) (Nat.le_of_ble_eq_true rfl) (z := (σ', r)) (fun p e s m below meth c ls X hG hl => ?_)
  have hx := X.1.1.1
  have hb := X.1.1.2.1
  have hM := h
  unfold M_X9_allStrength at hM
  generalize (σ', r) = z at hM ⊢
  have hl : lv_has ls 3 [(0, .ref (E.1 k))] := hl
  refine lv_iconst (v := (0 : Int32)) hx hb dX9_allStrength_0 (by decide) ?_
  refine lv_istore_n (lv' := [(1, .int (0 : Int32)), (0, .ref (E.1 k))]) hx hb dX9_allStrength_1 rfl hl (by decide) rfl (fun ls hl => ?_)
  refine lv_iconst (v := (0 : Int32)) hx hb dX9_allStrength_2 (by decide) ?_
  refine lv_istore_n (lv' := [(2, .int (0 : Int32)), (1, .int (0 : Int32)), (0, .ref (E.1 k))]) hx hb dX9_allStrength_3 rfl hl (by decide) rfl (fun ls hl => ?_)
  exact w_X9_allStrength_4 X hL FU σ (0 : Int32) (0 : Int32) _ _ _ z hG (lv_sub hl [2, 1, 0] rfl) hM
def M_X9_allHours (σ : St) (k : Nat)  : Option (St × Int32) := bcall (M_X10_sum σ (k + 4) (σ k 6)) fun σ1 r2 => some (σ1, r2)
set_option maxRecDepth 20000 in
set_option maxHeartbeats 4000000 in
theorem C_X9_allHours (l : Launch) (E : Ev) {σ σ' : St} {k : Nat} {r : Int32} (h : M_X9_allHours σ k = some (σ', r)) (hL : lay 9 k) : Mi l E yX9_allHours cX9_allHours 1 (some .int) 3 [.ref (E.1 k)] σ σ' r := by
  refine Mi_of (C := RX9) rfl (by decide) (Nat.le_of_ble_eq_true rfl) (z := (σ', r)) (fun p e s m below meth c ls X hG hl => ?_)
  have hx := X.1.1.1
  have hb := X.1.1.2.1
  have hM := h
  unfold M_X9_allHours at hM
  generalize (σ', r) = z at hM ⊢
  have hl : lv_has ls 1 [(0, .ref (E.1 k))] := hl
  refine lv_aload_n hx hb dX9_allHours_0 rfl (lv_at hl 0 rfl) ?_
  refine gt_9_3 X.1 hG hL mw100 dX9_allHours_1 ?_
  refine lv_aload_n hx hb dX9_allHours_4 rfl (lv_at hl 0 rfl) ?_
  refine gt_9_6 X.1 hG hL mw103 dX9_allHours_5 ?_
  refine g_callSN_i (nA := 2) (o := M_X10_sum σ (k + 4) (σ k 6)) (As := [.ref (E.1 (k + 4)), .int (σ k 6)]) X.1 hG (fun _ _ h => C_X10_sum l E h (lf_9_3 hL)) mw952 mw953 mw12 (gw_ok mw954 rfl) (by decide +kernel) rfl ⟨Nat.le_of_ble_eq_true rfl, Nat.le_of_ble_eq_true rfl⟩ hl.1 rfl (Nat.le_of_ble_eq_true rfl) ⟨Nat.le_refl _, Nat.le_refl _⟩ dX9_allHours_8 hM (fun σ1 r2 H locs hG hM => ?_)
  exact e_iret X hG dX9_allHours_11 hM
def M_X9_allLoads (σ : St) (k : Nat)  : Option (St × Int32) := bcall (M_X10_sum σ (k + 5) (σ k 6)) fun σ1 r2 => some (σ1, r2)
set_option maxRecDepth 20000 in
set_option maxHeartbeats 4000000 in
theorem C_X9_allLoads (l : Launch) (E : Ev) {σ σ' : St} {k : Nat} {r : Int32} (h : M_X9_allLoads σ k = some (σ', r)) (hL : lay 9 k) : Mi l E yX9_allLoads cX9_allLoads 1 (some .int) 3 [.ref (E.1 k)] σ σ' r := by
  refine Mi_of (C := RX9) rfl (by decide) (Nat.le_of_ble_eq_true rfl) (z := (σ', r)) (fun p e s m below meth c ls X hG hl => ?_)
  have hx := X.1.1.1
  have hb := X.1.1.2.1
  have hM := h
  unfold M_X9_allLoads at hM
  generalize (σ', r) = z at hM ⊢
  have hl : lv_has ls 1 [(0, .ref (E.1 k))] := hl
  refine lv_aload_n hx hb dX9_allLoads_0 rfl (lv_at hl 0 rfl) ?_
  refine gt_9_4 X.1 hG hL mw101 dX9_allLoads_1 ?_
  refine lv_aload_n hx hb dX9_allLoads_4 rfl (lv_at hl 0 rfl) ?_
  refine gt_9_6 X.1 hG hL mw103 dX9_allLoads_5 ?_
  refine g_callSN_i (nA := 2) (o := M_X10_sum σ (k + 5) (σ k 6)) (As := [.ref (E.1 (k + 5)), .int (σ k 6)]) X.1 hG (fun _ _ h => C_X10_sum l E h (lf_9_4 hL)) mw952 mw953 mw12 (gw_ok mw954 rfl) (by decide +kernel) rfl ⟨Nat.le_of_ble_eq_true rfl, Nat.le_of_ble_eq_true rfl⟩ hl.1 rfl (Nat.le_of_ble_eq_true rfl) ⟨Nat.le_refl _, Nat.le_refl _⟩ dX9_allLoads_8 hM (fun σ1 r2 H locs hG hM => ?_)
  exact e_iret X hG dX9_allLoads_11 hM
def B_X9_howManyShut_4  : Nat → St → Nat → Int32 → Int32 → Option (St × Int32)
  | 0, _, _, _, _ => none
  | n + 1, σ, k, x1, x2 => if (σ k 6) ≤ x2 then some (σ, x1) else (bcall (M_X9_isShut σ k x2) fun σ1 r2 => if r2 = 0 then (blet (x1 + (0 : Int32)) fun v3 => blet (x2 + (1 : Int32)) fun v4 => B_X9_howManyShut_4 n σ1 k v3 v4) else (blet (x1 + (1 : Int32)) fun v5 => blet (x2 + (1 : Int32)) fun v6 => B_X9_howManyShut_4 n σ1 k v5 v6))
def M_X9_howManyShut (σ : St) (k : Nat)  : Option (St × Int32) := B_X9_howManyShut_4 FU σ k (0 : Int32) (0 : Int32)
set_option maxRecDepth 20000 in
set_option maxHeartbeats 4000000 in
theorem w_X9_howManyShut_4 {p : Program} {l : Launch} {e : Env} {s : State} {m : MethodId} {below : List Frame} {meth : Method} {c : Code} {args : Array Value} {E : Ev} {k : Nat} (X : Bx E p m meth c cX9_howManyShut 3 (some .int) s args RX9) (hL : lay 9 k) : ∀ (n : Nat) (σ : St) (x1 x2 : Int32) (H : Heap) (locs : List Loc) (ls : Array Slot) (z : St × Int32), GS E σ s.heap H locs → lv_has ls 3 [(0, .ref (E.1 k)), (1, .int x1), (2, .int x2)] → B_X9_howManyShut_4 n σ k x1 x2 = some z → W p l e (rmd 4) s m args below meth c H locs 0 0 (QI E z below args s) (F0 m 4 ls []) := by
  have hx := X.1.1.1
  have hb := X.1.1.2.1
  intro n
  induction n with
  | zero => intro σ x1 x2 H locs ls z  hG hl hM; cases hM
  | succ n ih =>
    intro σ x1 x2 H locs ls z  hG hl hM
    unfold B_X9_howManyShut_4 at hM
    refine lv_iload_n hx hb dX9_howManyShut_4 rfl (lv_at hl 2 rfl) ?_
    refine lv_aload_n hx hb dX9_howManyShut_5 rfl (lv_at hl 0 rfl) ?_
    refine gt_9_6 X.1 hG hL mw103 dX9_howManyShut_6 ?_
    refine lv_icmp_ge (tgt := 34) hx hb dX9_howManyShut_9 (by decide) (fun c8 => ?_) (fun c8 => ?_)
    · have hM := b_if hM c8
      refine lv_iload_n hx hb dX9_howManyShut_34 rfl (lv_at hl 1 rfl) ?_
      exact e_iret X hG dX9_howManyShut_35 hM
    · have hM := b_else hM c8
      refine lv_iload_n hx hb dX9_howManyShut_12 rfl (lv_at hl 1 rfl) ?_
      refine lv_aload_n hx hb dX9_howManyShut_13 rfl (lv_at hl 0 rfl) ?_
      refine lv_iload_n hx hb dX9_howManyShut_14 rfl (lv_at hl 2 rfl) ?_
      refine g_callV_i (nA := 1) (o := M_X9_isShut σ k x2) (As := [.int x2]) X.1 hG hL rfl rfl (fun _ _ h => C_X9_isShut l E h hL) mw972 mw537 mw538 mw17 (gw_ok mw539 rfl) (by decide +kernel) rfl ⟨Nat.le_of_ble_eq_true rfl, Nat.le_of_ble_eq_true rfl⟩ hl.1 rfl (Nat.le_of_ble_eq_true rfl) ⟨Nat.le_refl _, Nat.le_refl _⟩ dX9_howManyShut_15 hM (fun σ1 r2 H locs hG hM => ?_)
      refine lv_if_eq (tgt := 25) hx hb dX9_howManyShut_18 (by decide) (fun c7 => ?_) (fun c7 => ?_)
      · have hM := b_if hM c7
        refine lv_iconst (v := (0 : Int32)) hx hb dX9_howManyShut_25 (by decide) ?_
        refine lv_iadd hx hb dX9_howManyShut_26 ?_
        refine g_name hM (fun v3 hM => ?_)
        refine lv_istore_n (lv' := [(1, .int v3), (0, .ref (E.1 k)), (2, .int x2)]) hx hb dX9_howManyShut_27 rfl hl (by decide) rfl (fun ls hl => ?_)
        obtain ⟨v4, ev4, hM⟩ := g_nm hM
        refine lv_iinc (v := v4) (lv' := [(2, .int v4), (1, .int v3), (0, .ref (E.1 k))]) hx hb dX9_howManyShut_28 hl (k := 2) rfl (by rw [ev4]; rfl) (by decide) rfl (fun ls hl => ?_)
        refine lv_goto (tgt := 4) hx hb dX9_howManyShut_31 (by decide) ?_
        exact ih σ1 v3 v4 _ _ _ z hG (lv_sub hl [2, 1, 0] rfl) hM
      · have hM := b_else hM c7
        refine lv_iconst (v := (1 : Int32)) hx hb dX9_howManyShut_21 (by decide) ?_
        refine lv_goto (tgt := 26) hx hb dX9_howManyShut_22 (by decide) ?_
        refine lv_iadd hx hb dX9_howManyShut_26 ?_
        refine g_name hM (fun v5 hM => ?_)
        refine lv_istore_n (lv' := [(1, .int v5), (0, .ref (E.1 k)), (2, .int x2)]) hx hb dX9_howManyShut_27 rfl hl (by decide) rfl (fun ls hl => ?_)
        obtain ⟨v6, ev6, hM⟩ := g_nm hM
        refine lv_iinc (v := v6) (lv' := [(2, .int v6), (1, .int v5), (0, .ref (E.1 k))]) hx hb dX9_howManyShut_28 hl (k := 2) rfl (by rw [ev6]; rfl) (by decide) rfl (fun ls hl => ?_)
        refine lv_goto (tgt := 4) hx hb dX9_howManyShut_31 (by decide) ?_
        exact ih σ1 v5 v6 _ _ _ z hG (lv_sub hl [2, 1, 0] rfl) hM
set_option maxRecDepth 20000 in
set_option maxHeartbeats 4000000 in
theorem C_X9_howManyShut (l : Launch) (E : Ev) {σ σ' : St} {k : Nat} {r : Int32} (h : M_X9_howManyShut σ k = some (σ', r)) (hL : lay 9 k) : Mi l E yX9_howManyShut cX9_howManyShut 3 (some .int) 4 [.ref (E.1 k)] σ σ' r := by
  refine Mi_of (C := RX9) rfl (by decide) (Nat.le_of_ble_eq_true rfl) (z := (σ', r)) (fun p e s m below meth c ls X hG hl => ?_)
  have hx := X.1.1.1
  have hb := X.1.1.2.1
  have hM := h
  unfold M_X9_howManyShut at hM
  generalize (σ', r) = z at hM ⊢
  have hl : lv_has ls 3 [(0, .ref (E.1 k))] := hl
  refine lv_iconst (v := (0 : Int32)) hx hb dX9_howManyShut_0 (by decide) ?_
  refine lv_istore_n (lv' := [(1, .int (0 : Int32)), (0, .ref (E.1 k))]) hx hb dX9_howManyShut_1 rfl hl (by decide) rfl (fun ls hl => ?_)
  refine lv_iconst (v := (0 : Int32)) hx hb dX9_howManyShut_2 (by decide) ?_
  refine lv_istore_n (lv' := [(2, .int (0 : Int32)), (1, .int (0 : Int32)), (0, .ref (E.1 k))]) hx hb dX9_howManyShut_3 rfl hl (by decide) rfl (fun ls hl => ?_)
  exact w_X9_howManyShut_4 X hL FU σ (0 : Int32) (0 : Int32) _ _ _ z hG (lv_sub hl [2, 1, 0] rfl) hM
def B_X9_howManyShutBy_4  : Nat → St → Nat → Int32 → Int32 → Int32 → Option (St × Int32)
  | 0, _, _, _, _, _ => none
  | n + 1, σ, k, x1, x2, x3 => if (σ k 6) ≤ x3 then some (σ, x2) else (bcall (M_X9_shutterOf σ k x3) fun σ1 r2 => if r2 = x1 then (blet (x2 + (1 : Int32)) fun v5 => blet (x3 + (1 : Int32)) fun v6 => B_X9_howManyShutBy_4 n σ1 k x1 v5 v6) else (blet (x2 + (0 : Int32)) fun v3 => blet (x3 + (1 : Int32)) fun v4 => B_X9_howManyShutBy_4 n σ1 k x1 v3 v4))
def M_X9_howManyShutBy (σ : St) (k : Nat) (p0 : Int32) : Option (St × Int32) := B_X9_howManyShutBy_4 FU σ k p0 (0 : Int32) (0 : Int32)
set_option maxRecDepth 20000 in
set_option maxHeartbeats 4000000 in
theorem w_X9_howManyShutBy_4 {p : Program} {l : Launch} {e : Env} {s : State} {m : MethodId} {below : List Frame} {meth : Method} {c : Code} {args : Array Value} {E : Ev} {k : Nat} (X : Bx E p m meth c cX9_howManyShutBy 4 (some .int) s args RX9) (hL : lay 9 k) : ∀ (n : Nat) (σ : St) (x1 x2 x3 : Int32) (H : Heap) (locs : List Loc) (ls : Array Slot) (z : St × Int32), GS E σ s.heap H locs → lv_has ls 4 [(0, .ref (E.1 k)), (1, .int x1), (2, .int x2), (3, .int x3)] → B_X9_howManyShutBy_4 n σ k x1 x2 x3 = some z → W p l e (rmd 3) s m args below meth c H locs 0 0 (QI E z below args s) (F0 m 4 ls []) := by
  have hx := X.1.1.1
  have hb := X.1.1.2.1
  intro n
  induction n with
  | zero => intro σ x1 x2 x3 H locs ls z  hG hl hM; cases hM
  | succ n ih =>
    intro σ x1 x2 x3 H locs ls z  hG hl hM
    unfold B_X9_howManyShutBy_4 at hM
    refine lv_iload_n hx hb dX9_howManyShutBy_4 rfl (lv_at hl 3 rfl) ?_
    refine lv_aload_n hx hb dX9_howManyShutBy_5 rfl (lv_at hl 0 rfl) ?_
    refine gt_9_6 X.1 hG hL mw103 dX9_howManyShutBy_6 ?_
    refine lv_icmp_ge (tgt := 35) hx hb dX9_howManyShutBy_9 (by decide) (fun c8 => ?_) (fun c8 => ?_)
    · have hM := b_if hM c8
      refine lv_iload_n hx hb dX9_howManyShutBy_35 rfl (lv_at hl 2 rfl) ?_
      exact e_iret X hG dX9_howManyShutBy_36 hM
    · have hM := b_else hM c8
      refine lv_iload_n hx hb dX9_howManyShutBy_12 rfl (lv_at hl 2 rfl) ?_
      refine lv_aload_n hx hb dX9_howManyShutBy_13 rfl (lv_at hl 0 rfl) ?_
      refine lv_iload_n hx hb dX9_howManyShutBy_14 rfl (lv_at hl 3 rfl) ?_
      refine g_callV_i (nA := 1) (o := M_X9_shutterOf σ k x3) (As := [.int x3]) X.1 hG hL rfl rfl (fun _ _ h => C_X9_shutterOf l E h hL) mw540 mw541 mw542 mw17 (gw_ok mw543 rfl) (by decide +kernel) rfl ⟨Nat.le_of_ble_eq_true rfl, Nat.le_of_ble_eq_true rfl⟩ hl.1 rfl (Nat.le_of_ble_eq_true rfl) ⟨Nat.le_refl _, Nat.le_refl _⟩ dX9_howManyShutBy_15 hM (fun σ1 r2 H locs hG hM => ?_)
      refine lv_iload_n hx hb dX9_howManyShutBy_18 rfl (lv_at hl 1 rfl) ?_
      refine lv_icmp_ne (tgt := 26) hx hb dX9_howManyShutBy_19 (by decide) (fun c7 => ?_) (fun c7 => ?_)
      · have hM := b_else hM c7
        refine lv_iconst (v := (0 : Int32)) hx hb dX9_howManyShutBy_26 (by decide) ?_
        refine lv_iadd hx hb dX9_howManyShutBy_27 ?_
        refine g_name hM (fun v3 hM => ?_)
        refine lv_istore_n (lv' := [(2, .int v3), (0, .ref (E.1 k)), (1, .int x1), (3, .int x3)]) hx hb dX9_howManyShutBy_28 rfl hl (by decide) rfl (fun ls hl => ?_)
        obtain ⟨v4, ev4, hM⟩ := g_nm hM
        refine lv_iinc (v := v4) (lv' := [(3, .int v4), (2, .int v3), (0, .ref (E.1 k)), (1, .int x1)]) hx hb dX9_howManyShutBy_29 hl (k := 3) rfl (by rw [ev4]; rfl) (by decide) rfl (fun ls hl => ?_)
        refine lv_goto (tgt := 4) hx hb dX9_howManyShutBy_32 (by decide) ?_
        exact ih σ1 x1 v3 v4 _ _ _ z hG (lv_sub hl [2, 3, 1, 0] rfl) hM
      · have hM := b_if hM c7
        refine lv_iconst (v := (1 : Int32)) hx hb dX9_howManyShutBy_22 (by decide) ?_
        refine lv_goto (tgt := 27) hx hb dX9_howManyShutBy_23 (by decide) ?_
        refine lv_iadd hx hb dX9_howManyShutBy_27 ?_
        refine g_name hM (fun v5 hM => ?_)
        refine lv_istore_n (lv' := [(2, .int v5), (0, .ref (E.1 k)), (1, .int x1), (3, .int x3)]) hx hb dX9_howManyShutBy_28 rfl hl (by decide) rfl (fun ls hl => ?_)
        obtain ⟨v6, ev6, hM⟩ := g_nm hM
        refine lv_iinc (v := v6) (lv' := [(3, .int v6), (2, .int v5), (0, .ref (E.1 k)), (1, .int x1)]) hx hb dX9_howManyShutBy_29 hl (k := 3) rfl (by rw [ev6]; rfl) (by decide) rfl (fun ls hl => ?_)
        refine lv_goto (tgt := 4) hx hb dX9_howManyShutBy_32 (by decide) ?_
        exact ih σ1 x1 v5 v6 _ _ _ z hG (lv_sub hl [2, 3, 1, 0] rfl) hM
set_option maxRecDepth 20000 in
set_option maxHeartbeats 4000000 in
theorem C_X9_howManyShutBy (l : Launch) (E : Ev) {σ σ' : St} {k : Nat} {p0 : Int32} {r : Int32} (h : M_X9_howManyShutBy σ k p0 = some (σ', r)) (hL : lay 9 k) : Mi l E yX9_howManyShutBy cX9_howManyShutBy 4 (some .int) 3 [.ref (E.1 k), .int p0] σ σ' r := by
  refine Mi_of (C := RX9) rfl (by decide) (Nat.le_of_ble_eq_true rfl) (z := (σ', r)) (fun p e s m below meth c ls X hG hl => ?_)
  have hx := X.1.1.1
  have hb := X.1.1.2.1
  have hM := h
  unfold M_X9_howManyShutBy at hM
  generalize (σ', r) = z at hM ⊢
  have hl : lv_has ls 4 [(0, .ref (E.1 k)), (1, .int p0)] := hl
  refine lv_iconst (v := (0 : Int32)) hx hb dX9_howManyShutBy_0 (by decide) ?_
  refine lv_istore_n (lv' := [(2, .int (0 : Int32)), (0, .ref (E.1 k)), (1, .int p0)]) hx hb dX9_howManyShutBy_1 rfl hl (by decide) rfl (fun ls hl => ?_)
  refine lv_iconst (v := (0 : Int32)) hx hb dX9_howManyShutBy_2 (by decide) ?_
  refine lv_istore_n (lv' := [(3, .int (0 : Int32)), (2, .int (0 : Int32)), (0, .ref (E.1 k)), (1, .int p0)]) hx hb dX9_howManyShutBy_3 rfl hl (by decide) rfl (fun ls hl => ?_)
  exact w_X9_howManyShutBy_4 X hL FU σ p0 (0 : Int32) (0 : Int32) _ _ _ z hG (lv_sub hl [2, 3, 1, 0] rfl) hM
def B_X9_howManyOld_4  : Nat → St → Nat → Int32 → Int32 → Option (St × Int32)
  | 0, _, _, _, _ => none
  | n + 1, σ, k, x1, x2 => if (σ k 6) ≤ x2 then some (σ, x1) else (bcall (M_X9_isOld σ k x2) fun σ1 r2 => if r2 = 0 then (blet (x1 + (0 : Int32)) fun v3 => blet (x2 + (1 : Int32)) fun v4 => B_X9_howManyOld_4 n σ1 k v3 v4) else (blet (x1 + (1 : Int32)) fun v5 => blet (x2 + (1 : Int32)) fun v6 => B_X9_howManyOld_4 n σ1 k v5 v6))
def M_X9_howManyOld (σ : St) (k : Nat)  : Option (St × Int32) := B_X9_howManyOld_4 FU σ k (0 : Int32) (0 : Int32)
set_option maxRecDepth 20000 in
set_option maxHeartbeats 4000000 in
theorem w_X9_howManyOld_4 {p : Program} {l : Launch} {e : Env} {s : State} {m : MethodId} {below : List Frame} {meth : Method} {c : Code} {args : Array Value} {E : Ev} {k : Nat} (X : Bx E p m meth c cX9_howManyOld 3 (some .int) s args RX9) (hL : lay 9 k) : ∀ (n : Nat) (σ : St) (x1 x2 : Int32) (H : Heap) (locs : List Loc) (ls : Array Slot) (z : St × Int32), GS E σ s.heap H locs → lv_has ls 3 [(0, .ref (E.1 k)), (1, .int x1), (2, .int x2)] → B_X9_howManyOld_4 n σ k x1 x2 = some z → W p l e (rmd 3) s m args below meth c H locs 0 0 (QI E z below args s) (F0 m 4 ls []) := by
  have hx := X.1.1.1
  have hb := X.1.1.2.1
  intro n
  induction n with
  | zero => intro σ x1 x2 H locs ls z  hG hl hM; cases hM
  | succ n ih =>
    intro σ x1 x2 H locs ls z  hG hl hM
    unfold B_X9_howManyOld_4 at hM
    refine lv_iload_n hx hb dX9_howManyOld_4 rfl (lv_at hl 2 rfl) ?_
    refine lv_aload_n hx hb dX9_howManyOld_5 rfl (lv_at hl 0 rfl) ?_
    refine gt_9_6 X.1 hG hL mw103 dX9_howManyOld_6 ?_
    refine lv_icmp_ge (tgt := 34) hx hb dX9_howManyOld_9 (by decide) (fun c8 => ?_) (fun c8 => ?_)
    · have hM := b_if hM c8
      refine lv_iload_n hx hb dX9_howManyOld_34 rfl (lv_at hl 1 rfl) ?_
      exact e_iret X hG dX9_howManyOld_35 hM
    · have hM := b_else hM c8
      refine lv_iload_n hx hb dX9_howManyOld_12 rfl (lv_at hl 1 rfl) ?_
      refine lv_aload_n hx hb dX9_howManyOld_13 rfl (lv_at hl 0 rfl) ?_
      refine lv_iload_n hx hb dX9_howManyOld_14 rfl (lv_at hl 2 rfl) ?_
      refine g_callV_i (nA := 1) (o := M_X9_isOld σ k x2) (As := [.int x2]) X.1 hG hL rfl rfl (fun _ _ h => C_X9_isOld l E h hL) mw977 mw978 mw979 mw17 (gw_ok mw980 rfl) (by decide +kernel) rfl ⟨Nat.le_of_ble_eq_true rfl, Nat.le_of_ble_eq_true rfl⟩ hl.1 rfl (Nat.le_of_ble_eq_true rfl) ⟨Nat.le_refl _, Nat.le_refl _⟩ dX9_howManyOld_15 hM (fun σ1 r2 H locs hG hM => ?_)
      refine lv_if_eq (tgt := 25) hx hb dX9_howManyOld_18 (by decide) (fun c7 => ?_) (fun c7 => ?_)
      · have hM := b_if hM c7
        refine lv_iconst (v := (0 : Int32)) hx hb dX9_howManyOld_25 (by decide) ?_
        refine lv_iadd hx hb dX9_howManyOld_26 ?_
        refine g_name hM (fun v3 hM => ?_)
        refine lv_istore_n (lv' := [(1, .int v3), (0, .ref (E.1 k)), (2, .int x2)]) hx hb dX9_howManyOld_27 rfl hl (by decide) rfl (fun ls hl => ?_)
        obtain ⟨v4, ev4, hM⟩ := g_nm hM
        refine lv_iinc (v := v4) (lv' := [(2, .int v4), (1, .int v3), (0, .ref (E.1 k))]) hx hb dX9_howManyOld_28 hl (k := 2) rfl (by rw [ev4]; rfl) (by decide) rfl (fun ls hl => ?_)
        refine lv_goto (tgt := 4) hx hb dX9_howManyOld_31 (by decide) ?_
        exact ih σ1 v3 v4 _ _ _ z hG (lv_sub hl [2, 1, 0] rfl) hM
      · have hM := b_else hM c7
        refine lv_iconst (v := (1 : Int32)) hx hb dX9_howManyOld_21 (by decide) ?_
        refine lv_goto (tgt := 26) hx hb dX9_howManyOld_22 (by decide) ?_
        refine lv_iadd hx hb dX9_howManyOld_26 ?_
        refine g_name hM (fun v5 hM => ?_)
        refine lv_istore_n (lv' := [(1, .int v5), (0, .ref (E.1 k)), (2, .int x2)]) hx hb dX9_howManyOld_27 rfl hl (by decide) rfl (fun ls hl => ?_)
        obtain ⟨v6, ev6, hM⟩ := g_nm hM
        refine lv_iinc (v := v6) (lv' := [(2, .int v6), (1, .int v5), (0, .ref (E.1 k))]) hx hb dX9_howManyOld_28 hl (k := 2) rfl (by rw [ev6]; rfl) (by decide) rfl (fun ls hl => ?_)
        refine lv_goto (tgt := 4) hx hb dX9_howManyOld_31 (by decide) ?_
        exact ih σ1 v5 v6 _ _ _ z hG (lv_sub hl [2, 1, 0] rfl) hM
set_option maxRecDepth 20000 in
set_option maxHeartbeats 4000000 in
theorem C_X9_howManyOld (l : Launch) (E : Ev) {σ σ' : St} {k : Nat} {r : Int32} (h : M_X9_howManyOld σ k = some (σ', r)) (hL : lay 9 k) : Mi l E yX9_howManyOld cX9_howManyOld 3 (some .int) 3 [.ref (E.1 k)] σ σ' r := by
  refine Mi_of (C := RX9) rfl (by decide) (Nat.le_of_ble_eq_true rfl) (z := (σ', r)) (fun p e s m below meth c ls X hG hl => ?_)
  have hx := X.1.1.1
  have hb := X.1.1.2.1
  have hM := h
  unfold M_X9_howManyOld at hM
  generalize (σ', r) = z at hM ⊢
  have hl : lv_has ls 3 [(0, .ref (E.1 k))] := hl
  refine lv_iconst (v := (0 : Int32)) hx hb dX9_howManyOld_0 (by decide) ?_
  refine lv_istore_n (lv' := [(1, .int (0 : Int32)), (0, .ref (E.1 k))]) hx hb dX9_howManyOld_1 rfl hl (by decide) rfl (fun ls hl => ?_)
  refine lv_iconst (v := (0 : Int32)) hx hb dX9_howManyOld_2 (by decide) ?_
  refine lv_istore_n (lv' := [(2, .int (0 : Int32)), (1, .int (0 : Int32)), (0, .ref (E.1 k))]) hx hb dX9_howManyOld_3 rfl hl (by decide) rfl (fun ls hl => ?_)
  exact w_X9_howManyOld_4 X hL FU σ (0 : Int32) (0 : Int32) _ _ _ z hG (lv_sub hl [2, 1, 0] rfl) hM
def B_X9_lowestOldUpTo_2  : Nat → St → Nat → Int32 → Int32 → Option (St × Int32)
  | 0, _, _, _, _ => none
  | n + 1, σ, k, x1, x2 => if x1 < x2 then some (σ, (-4 : Int32)) else (if (σ k 6) ≤ x2 then some (σ, (-4 : Int32)) else (bcall (M_X10_at σ (k + 3) x2) fun σ1 r2 => if r2 ≤ (20 : Int32) then (blet (x2 + (1 : Int32)) fun v3 => B_X9_lowestOldUpTo_2 n σ1 k x1 v3) else some (σ1, x2)))
def M_X9_lowestOldUpTo (σ : St) (k : Nat) (p0 : Int32) : Option (St × Int32) := B_X9_lowestOldUpTo_2 FU σ k p0 (0 : Int32)
set_option maxRecDepth 20000 in
set_option maxHeartbeats 4000000 in
theorem w_X9_lowestOldUpTo_2 {p : Program} {l : Launch} {e : Env} {s : State} {m : MethodId} {below : List Frame} {meth : Method} {c : Code} {args : Array Value} {E : Ev} {k : Nat} (X : Bx E p m meth c cX9_lowestOldUpTo 3 (some .int) s args RX9) (hL : lay 9 k) : ∀ (n : Nat) (σ : St) (x1 x2 : Int32) (H : Heap) (locs : List Loc) (ls : Array Slot) (z : St × Int32), GS E σ s.heap H locs → lv_has ls 3 [(0, .ref (E.1 k)), (1, .int x1), (2, .int x2)] → B_X9_lowestOldUpTo_2 n σ k x1 x2 = some z → W p l e (rmd 2) s m args below meth c H locs 0 0 (QI E z below args s) (F0 m 2 ls []) := by
  have hx := X.1.1.1
  have hb := X.1.1.2.1
  intro n
  induction n with
  | zero => intro σ x1 x2 H locs ls z  hG hl hM; cases hM
  | succ n ih =>
    intro σ x1 x2 H locs ls z  hG hl hM
    unfold B_X9_lowestOldUpTo_2 at hM
    refine lv_iload_n hx hb dX9_lowestOldUpTo_2 rfl (lv_at hl 2 rfl) ?_
    refine lv_iload_n hx hb dX9_lowestOldUpTo_3 rfl (lv_at hl 1 rfl) ?_
    refine lv_icmp_gt (tgt := 36) hx hb dX9_lowestOldUpTo_4 (by decide) (fun c6 => ?_) (fun c6 => ?_)
    · have hM := b_if hM c6
      refine lv_bipush (v := (-4 : Int32)) hx hb dX9_lowestOldUpTo_36 (by decide) ?_
      exact e_iret X hG dX9_lowestOldUpTo_38 hM
    · have hM := b_else hM c6
      refine lv_iload_n hx hb dX9_lowestOldUpTo_7 rfl (lv_at hl 2 rfl) ?_
      refine lv_aload_n hx hb dX9_lowestOldUpTo_8 rfl (lv_at hl 0 rfl) ?_
      refine gt_9_6 X.1 hG hL mw103 dX9_lowestOldUpTo_9 ?_
      refine lv_icmp_ge (tgt := 36) hx hb dX9_lowestOldUpTo_12 (by decide) (fun c5 => ?_) (fun c5 => ?_)
      · have hM := b_if hM c5
        refine lv_bipush (v := (-4 : Int32)) hx hb dX9_lowestOldUpTo_36 (by decide) ?_
        exact e_iret X hG dX9_lowestOldUpTo_38 hM
      · have hM := b_else hM c5
        refine lv_aload_n hx hb dX9_lowestOldUpTo_15 rfl (lv_at hl 0 rfl) ?_
        refine gt_9_2 X.1 hG hL mw99 dX9_lowestOldUpTo_16 ?_
        refine lv_iload_n hx hb dX9_lowestOldUpTo_19 rfl (lv_at hl 2 rfl) ?_
        refine g_callSN_i (nA := 2) (o := M_X10_at σ (k + 3) x2) (As := [.ref (E.1 (k + 3)), .int x2]) X.1 hG (fun _ _ h => C_X10_at l E h (lf_9_2 hL)) mw535 mw477 mw12 (gw_ok mw478 rfl) (by decide +kernel) rfl ⟨Nat.le_of_ble_eq_true rfl, Nat.le_of_ble_eq_true rfl⟩ hl.1 rfl (Nat.le_of_ble_eq_true rfl) ⟨Nat.le_refl _, Nat.le_refl _⟩ dX9_lowestOldUpTo_20 hM (fun σ1 r2 H locs hG hM => ?_)
        refine lv_bipush (v := (20 : Int32)) hx hb dX9_lowestOldUpTo_23 (by decide) ?_
        refine lv_icmp_le (tgt := 30) hx hb dX9_lowestOldUpTo_25 (by decide) (fun c4 => ?_) (fun c4 => ?_)
        · have hM := b_if hM c4
          obtain ⟨v3, ev3, hM⟩ := g_nm hM
          refine lv_iinc (v := v3) (lv' := [(2, .int v3), (0, .ref (E.1 k)), (1, .int x1)]) hx hb dX9_lowestOldUpTo_30 hl (k := 2) rfl (by rw [ev3]; rfl) (by decide) rfl (fun ls hl => ?_)
          refine lv_goto (tgt := 2) hx hb dX9_lowestOldUpTo_33 (by decide) ?_
          exact ih σ1 x1 v3 _ _ _ z hG (lv_sub hl [1, 2, 0] rfl) hM
        · have hM := b_else hM c4
          refine lv_iload_n hx hb dX9_lowestOldUpTo_28 rfl (lv_at hl 2 rfl) ?_
          exact e_iret X hG dX9_lowestOldUpTo_29 hM
set_option maxRecDepth 20000 in
set_option maxHeartbeats 4000000 in
theorem C_X9_lowestOldUpTo (l : Launch) (E : Ev) {σ σ' : St} {k : Nat} {p0 : Int32} {r : Int32} (h : M_X9_lowestOldUpTo σ k p0 = some (σ', r)) (hL : lay 9 k) : Mi l E yX9_lowestOldUpTo cX9_lowestOldUpTo 3 (some .int) 2 [.ref (E.1 k), .int p0] σ σ' r := by
  refine Mi_of (C := RX9) rfl (by decide) (Nat.le_of_ble_eq_true rfl) (z := (σ', r)) (fun p e s m below meth c ls X hG hl => ?_)
  have hx := X.1.1.1
  have hb := X.1.1.2.1
  have hM := h
  unfold M_X9_lowestOldUpTo at hM
  generalize (σ', r) = z at hM ⊢
  have hl : lv_has ls 3 [(0, .ref (E.1 k)), (1, .int p0)] := hl
  refine lv_iconst (v := (0 : Int32)) hx hb dX9_lowestOldUpTo_0 (by decide) ?_
  refine lv_istore_n (lv' := [(2, .int (0 : Int32)), (0, .ref (E.1 k)), (1, .int p0)]) hx hb dX9_lowestOldUpTo_1 rfl hl (by decide) rfl (fun ls hl => ?_)
  exact w_X9_lowestOldUpTo_2 X hL FU σ p0 (0 : Int32) _ _ _ z hG (lv_sub hl [1, 2, 0] rfl) hM
