def M_X1_addHours (σ : St) (k : Nat) (p0 p1 : Int32) : Option (St × Int32) := bcall (M_X10_at σ (k + 3) p0) fun σ1 r2 => bcall (M_X10_put σ1 (k + 3) p0 (r2 + p1)) fun σ3 r4 => some (σ3, 0)
set_option maxRecDepth 20000 in
set_option maxHeartbeats 4000000 in
theorem C_X1_addHours (l : Launch) (E : Ev) {σ σ' : St} {k : Nat} {p0 : Int32} {p1 : Int32} {r : Int32} (h : M_X1_addHours σ k p0 p1 = some (σ', r)) (hL : lay 1 k) : Mv l E yX1_addHours cX1_addHours 3 2 [.ref (E.1 k), .int p0, .int p1] σ σ' := by
  refine Mv_of (C := RX1) rfl (by decide) (Nat.le_of_ble_eq_true rfl) (z := (σ', r)) (fun p e s m below meth c ls X hG hl => ?_)
  have hx := X.1.1.1
  have hb := X.1.1.2.1
  have hM := h
  unfold M_X1_addHours at hM
  generalize (σ', r) = z at hM ⊢
  have hl : lv_has ls 3 [(0, .ref (E.1 k)), (1, .int p0), (2, .int p1)] := hl
  refine lv_aload_n hx hb dX1_addHours_0 rfl (lv_at hl 0 rfl) ?_
  refine gt_1_2 X.1 hG hL mw130 dX1_addHours_1 ?_
  refine lv_iload_n hx hb dX1_addHours_4 rfl (lv_at hl 1 rfl) ?_
  refine lv_aload_n hx hb dX1_addHours_5 rfl (lv_at hl 0 rfl) ?_
  refine gt_1_2 X.1 hG hL mw130 dX1_addHours_6 ?_
  refine lv_iload_n hx hb dX1_addHours_9 rfl (lv_at hl 1 rfl) ?_
  refine g_callSN_i (nA := 2) (o := M_X10_at σ (k + 3) p0) (As := [.ref (E.1 (k + 3)), .int p0]) X.1 hG (fun _ _ h => C_X10_at l E h (lf_1_2 hL)) mw530 mw477 mw12 (gw_ok mw478 rfl) (by decide +kernel) rfl ⟨Nat.le_of_ble_eq_true rfl, Nat.le_of_ble_eq_true rfl⟩ hl.1 rfl (Nat.le_of_ble_eq_true rfl) ⟨Nat.le_refl _, Nat.le_refl _⟩ dX1_addHours_10 hM (fun σ1 r2 H locs hG hM => ?_)
  refine lv_iload_n hx hb dX1_addHours_13 rfl (lv_at hl 2 rfl) ?_
  refine lv_iadd hx hb dX1_addHours_14 ?_
  refine g_callSN_v (nA := 3) (o := M_X10_put σ1 (k + 3) p0 (r2 + p1)) (As := [.ref (E.1 (k + 3)), .int p0, .int (r2 + p1)]) X.1 hG (fun _ _ h => C_X10_put l E h (lf_1_2 hL)) mw509 mw431 mw12 (gw_ok mw432 rfl) (by decide +kernel) rfl ⟨Nat.le_of_ble_eq_true rfl, Nat.le_of_ble_eq_true rfl⟩ hl.1 rfl (Nat.le_of_ble_eq_true rfl) ⟨Nat.le_refl _, Nat.le_refl _⟩ dX1_addHours_15 hM (fun σ3 r4 H locs hG hM => ?_)
  exact e_vret X hG dX1_addHours_18 hM
def B_X1_comeDownFrom_2  : Nat → St → Nat → Int32 → Int32 → Option (St × Int32)
  | 0, _, _, _, _ => none
  | n + 1, σ, k, x1, x2 => if (σ k 3) ≤ x2 then some (σ, 0) else (bcall (M_X1_placeOf σ k x2) fun σ1 r2 => if r2 = x1 then (bcall (M_X1_moveTo σ1 k x2 (-4 : Int32)) fun σ4 r5 => blet (x2 + (1 : Int32)) fun v6 => B_X1_comeDownFrom_2 n σ4 k x1 v6) else (blet (x2 + (1 : Int32)) fun v3 => B_X1_comeDownFrom_2 n σ1 k x1 v3))
def M_X1_comeDownFrom (σ : St) (k : Nat) (p0 : Int32) : Option (St × Int32) := B_X1_comeDownFrom_2 FU σ k p0 (0 : Int32)
set_option maxRecDepth 20000 in
set_option maxHeartbeats 4000000 in
theorem w_X1_comeDownFrom_2 {p : Program} {l : Launch} {e : Env} {s : State} {m : MethodId} {below : List Frame} {meth : Method} {c : Code} {args : Array Value} {E : Ev} {k : Nat} (X : Bx E p m meth c cX1_comeDownFrom 3 none s args RX1) (hL : lay 1 k) : ∀ (n : Nat) (σ : St) (x1 x2 : Int32) (H : Heap) (locs : List Loc) (ls : Array Slot) (z : St × Int32), GS E σ s.heap H locs → lv_has ls 3 [(0, .ref (E.1 k)), (1, .int x1), (2, .int x2)] → B_X1_comeDownFrom_2 n σ k x1 x2 = some z → W p l e (rmd 3) s m args below meth c H locs 0 0 (QV E z below args s) (F0 m 2 ls []) := by
  have hx := X.1.1.1
  have hb := X.1.1.2.1
  intro n
  induction n with
  | zero => intro σ x1 x2 H locs ls z  hG hl hM; cases hM
  | succ n ih =>
    intro σ x1 x2 H locs ls z  hG hl hM
    unfold B_X1_comeDownFrom_2 at hM
    refine lv_iload_n hx hb dX1_comeDownFrom_2 rfl (lv_at hl 2 rfl) ?_
    refine lv_aload_n hx hb dX1_comeDownFrom_3 rfl (lv_at hl 0 rfl) ?_
    refine gt_1_3 X.1 hG hL mw131 dX1_comeDownFrom_4 ?_
    refine lv_icmp_ge (tgt := 32) hx hb dX1_comeDownFrom_7 (by decide) (fun c8 => ?_) (fun c8 => ?_)
    · have hM := b_if hM c8
      exact e_vret X hG dX1_comeDownFrom_32 hM
    · have hM := b_else hM c8
      refine lv_aload_n hx hb dX1_comeDownFrom_10 rfl (lv_at hl 0 rfl) ?_
      refine lv_iload_n hx hb dX1_comeDownFrom_11 rfl (lv_at hl 2 rfl) ?_
      refine g_callV_i (nA := 1) (o := M_X1_placeOf σ k x2) (As := [.int x2]) X.1 hG hL rfl rfl (fun _ _ h => C_X1_placeOf l E h hL) mw562 mw527 mw528 mw18 (gw_ok mw529 rfl) (by decide +kernel) rfl ⟨Nat.le_of_ble_eq_true rfl, Nat.le_of_ble_eq_true rfl⟩ hl.1 rfl (Nat.le_of_ble_eq_true rfl) ⟨Nat.le_refl _, Nat.le_refl _⟩ dX1_comeDownFrom_12 hM (fun σ1 r2 H locs hG hM => ?_)
      refine lv_iload_n hx hb dX1_comeDownFrom_15 rfl (lv_at hl 1 rfl) ?_
      refine lv_icmp_ne (tgt := 26) hx hb dX1_comeDownFrom_16 (by decide) (fun c7 => ?_) (fun c7 => ?_)
      · have hM := b_else hM c7
        obtain ⟨v3, ev3, hM⟩ := g_nm hM
        refine lv_iinc (v := v3) (lv' := [(2, .int v3), (0, .ref (E.1 k)), (1, .int x1)]) hx hb dX1_comeDownFrom_26 hl (k := 2) rfl (by rw [ev3]; rfl) (by decide) rfl (fun ls hl => ?_)
        refine lv_goto (tgt := 2) hx hb dX1_comeDownFrom_29 (by decide) ?_
        exact ih σ1 x1 v3 _ _ _ z hG (lv_sub hl [1, 2, 0] rfl) hM
      · have hM := b_if hM c7
        refine lv_aload_n hx hb dX1_comeDownFrom_19 rfl (lv_at hl 0 rfl) ?_
        refine lv_iload_n hx hb dX1_comeDownFrom_20 rfl (lv_at hl 2 rfl) ?_
        refine lv_bipush (v := (-4 : Int32)) hx hb dX1_comeDownFrom_21 (by decide) ?_
        refine g_callV_v (nA := 2) (o := M_X1_moveTo σ1 k x2 (-4 : Int32)) (As := [.int x2, .int (-4 : Int32)]) X.1 hG hL rfl rfl (fun _ _ h => C_X1_moveTo l E h hL) mw610 mw551 mw552 mw18 (gw_ok mw553 rfl) (by decide +kernel) rfl ⟨Nat.le_of_ble_eq_true rfl, Nat.le_of_ble_eq_true rfl⟩ hl.1 rfl (Nat.le_of_ble_eq_true rfl) ⟨Nat.le_refl _, Nat.le_refl _⟩ dX1_comeDownFrom_23 hM (fun σ4 r5 H locs hG hM => ?_)
        obtain ⟨v6, ev6, hM⟩ := g_nm hM
        refine lv_iinc (v := v6) (lv' := [(2, .int v6), (0, .ref (E.1 k)), (1, .int x1)]) hx hb dX1_comeDownFrom_26 hl (k := 2) rfl (by rw [ev6]; rfl) (by decide) rfl (fun ls hl => ?_)
        refine lv_goto (tgt := 2) hx hb dX1_comeDownFrom_29 (by decide) ?_
        exact ih σ4 x1 v6 _ _ _ z hG (lv_sub hl [1, 2, 0] rfl) hM
set_option maxRecDepth 20000 in
set_option maxHeartbeats 4000000 in
theorem C_X1_comeDownFrom (l : Launch) (E : Ev) {σ σ' : St} {k : Nat} {p0 : Int32} {r : Int32} (h : M_X1_comeDownFrom σ k p0 = some (σ', r)) (hL : lay 1 k) : Mv l E yX1_comeDownFrom cX1_comeDownFrom 3 3 [.ref (E.1 k), .int p0] σ σ' := by
  refine Mv_of (C := RX1) rfl (by decide) (Nat.le_of_ble_eq_true rfl) (z := (σ', r)) (fun p e s m below meth c ls X hG hl => ?_)
  have hx := X.1.1.1
  have hb := X.1.1.2.1
  have hM := h
  unfold M_X1_comeDownFrom at hM
  generalize (σ', r) = z at hM ⊢
  have hl : lv_has ls 3 [(0, .ref (E.1 k)), (1, .int p0)] := hl
  refine lv_iconst (v := (0 : Int32)) hx hb dX1_comeDownFrom_0 (by decide) ?_
  refine lv_istore_n (lv' := [(2, .int (0 : Int32)), (0, .ref (E.1 k)), (1, .int p0)]) hx hb dX1_comeDownFrom_1 rfl hl (by decide) rfl (fun ls hl => ?_)
  exact w_X1_comeDownFrom_2 X hL FU σ p0 (0 : Int32) _ _ _ z hG (lv_sub hl [1, 2, 0] rfl) hM
def B_X1_allComeDown_2  : Nat → St → Nat → Int32 → Option (St × Int32)
  | 0, _, _, _ => none
  | n + 1, σ, k, x1 => if (σ k 3) ≤ x1 then some (σ, 0) else (bcall (M_X1_moveTo σ k x1 (-4 : Int32)) fun σ1 r2 => blet (x1 + (1 : Int32)) fun v3 => B_X1_allComeDown_2 n σ1 k v3)
def M_X1_allComeDown (σ : St) (k : Nat)  : Option (St × Int32) := B_X1_allComeDown_2 FU σ k (0 : Int32)
set_option maxRecDepth 20000 in
set_option maxHeartbeats 4000000 in
theorem w_X1_allComeDown_2 {p : Program} {l : Launch} {e : Env} {s : State} {m : MethodId} {below : List Frame} {meth : Method} {c : Code} {args : Array Value} {E : Ev} {k : Nat} (X : Bx E p m meth c cX1_allComeDown 2 none s args RX1) (hL : lay 1 k) : ∀ (n : Nat) (σ : St) (x1 : Int32) (H : Heap) (locs : List Loc) (ls : Array Slot) (z : St × Int32), GS E σ s.heap H locs → lv_has ls 2 [(0, .ref (E.1 k)), (1, .int x1)] → B_X1_allComeDown_2 n σ k x1 = some z → W p l e (rmd 3) s m args below meth c H locs 0 0 (QV E z below args s) (F0 m 2 ls []) := by
  have hx := X.1.1.1
  have hb := X.1.1.2.1
  intro n
  induction n with
  | zero => intro σ x1 H locs ls z  hG hl hM; cases hM
  | succ n ih =>
    intro σ x1 H locs ls z  hG hl hM
    unfold B_X1_allComeDown_2 at hM
    refine lv_iload_n hx hb dX1_allComeDown_2 rfl (lv_at hl 1 rfl) ?_
    refine lv_aload_n hx hb dX1_allComeDown_3 rfl (lv_at hl 0 rfl) ?_
    refine gt_1_3 X.1 hG hL mw131 dX1_allComeDown_4 ?_
    refine lv_icmp_ge (tgt := 23) hx hb dX1_allComeDown_7 (by decide) (fun c4 => ?_) (fun c4 => ?_)
    · have hM := b_if hM c4
      exact e_vret X hG dX1_allComeDown_23 hM
    · have hM := b_else hM c4
      refine lv_aload_n hx hb dX1_allComeDown_10 rfl (lv_at hl 0 rfl) ?_
      refine lv_iload_n hx hb dX1_allComeDown_11 rfl (lv_at hl 1 rfl) ?_
      refine lv_bipush (v := (-4 : Int32)) hx hb dX1_allComeDown_12 (by decide) ?_
      refine g_callV_v (nA := 2) (o := M_X1_moveTo σ k x1 (-4 : Int32)) (As := [.int x1, .int (-4 : Int32)]) X.1 hG hL rfl rfl (fun _ _ h => C_X1_moveTo l E h hL) mw610 mw551 mw552 mw18 (gw_ok mw553 rfl) (by decide +kernel) rfl ⟨Nat.le_of_ble_eq_true rfl, Nat.le_of_ble_eq_true rfl⟩ hl.1 rfl (Nat.le_of_ble_eq_true rfl) ⟨Nat.le_refl _, Nat.le_refl _⟩ dX1_allComeDown_14 hM (fun σ1 r2 H locs hG hM => ?_)
      obtain ⟨v3, ev3, hM⟩ := g_nm hM
      refine lv_iinc (v := v3) (lv' := [(1, .int v3), (0, .ref (E.1 k))]) hx hb dX1_allComeDown_17 hl (k := 1) rfl (by rw [ev3]; rfl) (by decide) rfl (fun ls hl => ?_)
      refine lv_goto (tgt := 2) hx hb dX1_allComeDown_20 (by decide) ?_
      exact ih σ1 v3 _ _ _ z hG (lv_sub hl [1, 0] rfl) hM
set_option maxRecDepth 20000 in
set_option maxHeartbeats 4000000 in
theorem C_X1_allComeDown (l : Launch) (E : Ev) {σ σ' : St} {k : Nat} {r : Int32} (h : M_X1_allComeDown σ k = some (σ', r)) (hL : lay 1 k) : Mv l E yX1_allComeDown cX1_allComeDown 2 3 [.ref (E.1 k)] σ σ' := by
  refine Mv_of (C := RX1) rfl (by decide) (Nat.le_of_ble_eq_true rfl) (z := (σ', r)) (fun p e s m below meth c ls X hG hl => ?_)
  have hx := X.1.1.1
  have hb := X.1.1.2.1
  have hM := h
  unfold M_X1_allComeDown at hM
  generalize (σ', r) = z at hM ⊢
  have hl : lv_has ls 2 [(0, .ref (E.1 k))] := hl
  refine lv_iconst (v := (0 : Int32)) hx hb dX1_allComeDown_0 (by decide) ?_
  refine lv_istore_n (lv' := [(1, .int (0 : Int32)), (0, .ref (E.1 k))]) hx hb dX1_allComeDown_1 rfl hl (by decide) rfl (fun ls hl => ?_)
  exact w_X1_allComeDown_2 X hL FU σ (0 : Int32) _ _ _ z hG (lv_sub hl [1, 0] rfl) hM
def M_X1_take (σ : St) (k a0 : Nat)  : Option (St × Int32) := bcall (M_X10_copy σ (a0 + 1) (k + 1)) fun σ1 r2 => bcall (M_X10_copy σ1 (a0 + 2) (k + 2)) fun σ3 r4 => bcall (M_X10_copy σ3 (a0 + 3) (k + 3)) fun σ5 r6 => bput σ5 k 3 (σ5 a0 3) fun σ7 => some (σ7, 0)
set_option maxRecDepth 20000 in
set_option maxHeartbeats 4000000 in
theorem C_X1_take (l : Launch) (E : Ev) {σ σ' : St} {k : Nat} {a0 : Nat} {r : Int32} (h : M_X1_take σ k a0 = some (σ', r)) (hL : lay 1 k) (hA0 : lay 1 a0) : Mv l E yX1_take cX1_take 2 2 [.ref (E.1 k), .ref (E.1 a0)] σ σ' := by
  refine Mv_of (C := RX1) rfl (by decide) (Nat.le_of_ble_eq_true rfl) (z := (σ', r)) (fun p e s m below meth c ls X hG hl => ?_)
  have hx := X.1.1.1
  have hb := X.1.1.2.1
  have hM := h
  unfold M_X1_take at hM
  generalize (σ', r) = z at hM ⊢
  have hl : lv_has ls 2 [(0, .ref (E.1 k)), (1, .ref (E.1 a0))] := hl
  refine lv_aload_n hx hb dX1_take_0 rfl (lv_at hl 1 rfl) ?_
  refine gt_1_0 X.1 hG hA0 mw128 dX1_take_1 ?_
  refine lv_aload_n hx hb dX1_take_4 rfl (lv_at hl 0 rfl) ?_
  refine gt_1_0 X.1 hG hL mw128 dX1_take_5 ?_
  refine g_callSN_v (nA := 2) (o := M_X10_copy σ (a0 + 1) (k + 1)) (As := [.ref (E.1 (a0 + 1)), .ref (E.1 (k + 1))]) X.1 hG (fun _ _ h => C_X10_copy l E h (lf_1_0 hA0) (lf_1_0 hL)) mw411 mw396 mw12 (gw_ok mw397 rfl) (by decide +kernel) rfl ⟨Nat.le_of_ble_eq_true rfl, Nat.le_of_ble_eq_true rfl⟩ hl.1 rfl (Nat.le_of_ble_eq_true rfl) ⟨Nat.le_refl _, Nat.le_refl _⟩ dX1_take_8 hM (fun σ1 r2 H locs hG hM => ?_)
  refine lv_aload_n hx hb dX1_take_11 rfl (lv_at hl 1 rfl) ?_
  refine gt_1_1 X.1 hG hA0 mw129 dX1_take_12 ?_
  refine lv_aload_n hx hb dX1_take_15 rfl (lv_at hl 0 rfl) ?_
  refine gt_1_1 X.1 hG hL mw129 dX1_take_16 ?_
  refine g_callSN_v (nA := 2) (o := M_X10_copy σ1 (a0 + 2) (k + 2)) (As := [.ref (E.1 (a0 + 2)), .ref (E.1 (k + 2))]) X.1 hG (fun _ _ h => C_X10_copy l E h (lf_1_1 hA0) (lf_1_1 hL)) mw411 mw396 mw12 (gw_ok mw397 rfl) (by decide +kernel) rfl ⟨Nat.le_of_ble_eq_true rfl, Nat.le_of_ble_eq_true rfl⟩ hl.1 rfl (Nat.le_of_ble_eq_true rfl) ⟨Nat.le_refl _, Nat.le_refl _⟩ dX1_take_19 hM (fun σ3 r4 H locs hG hM => ?_)
  refine lv_aload_n hx hb dX1_take_22 rfl (lv_at hl 1 rfl) ?_
  refine gt_1_2 X.1 hG hA0 mw130 dX1_take_23 ?_
  refine lv_aload_n hx hb dX1_take_26 rfl (lv_at hl 0 rfl) ?_
  refine gt_1_2 X.1 hG hL mw130 dX1_take_27 ?_
  refine g_callSN_v (nA := 2) (o := M_X10_copy σ3 (a0 + 3) (k + 3)) (As := [.ref (E.1 (a0 + 3)), .ref (E.1 (k + 3))]) X.1 hG (fun _ _ h => C_X10_copy l E h (lf_1_2 hA0) (lf_1_2 hL)) mw411 mw396 mw12 (gw_ok mw397 rfl) (by decide +kernel) rfl ⟨Nat.le_of_ble_eq_true rfl, Nat.le_of_ble_eq_true rfl⟩ hl.1 rfl (Nat.le_of_ble_eq_true rfl) ⟨Nat.le_refl _, Nat.le_refl _⟩ dX1_take_30 hM (fun σ5 r6 H locs hG hM => ?_)
  refine lv_aload_n hx hb dX1_take_33 rfl (lv_at hl 0 rfl) ?_
  refine lv_aload_n hx hb dX1_take_34 rfl (lv_at hl 1 rfl) ?_
  refine gt_1_3 X.1 hG hA0 mw131 dX1_take_35 ?_
  refine pt_1_3 X.1 hG hL mw131 dX1_take_38 hM (fun σ7 H locs hG hM => ?_)
  exact e_vret X hG dX1_take_41 hM
def M_X3_noseOf (σ : St) (k : Nat) (p0 : Int32) : Option (St × Int32) := bcall (M_X10_at σ (k + 1) p0) fun σ1 r2 => some (σ1, r2)
set_option maxRecDepth 20000 in
set_option maxHeartbeats 4000000 in
theorem C_X3_noseOf (l : Launch) (E : Ev) {σ σ' : St} {k : Nat} {p0 : Int32} {r : Int32} (h : M_X3_noseOf σ k p0 = some (σ', r)) (hL : lay 3 k) : Mi l E yX3_noseOf cX3_noseOf 2 (some .int) 2 [.ref (E.1 k), .int p0] σ σ' r := by
  refine Mi_of (C := RX3) rfl (by decide) (Nat.le_of_ble_eq_true rfl) (z := (σ', r)) (fun p e s m below meth c ls X hG hl => ?_)
  have hx := X.1.1.1
  have hb := X.1.1.2.1
  have hM := h
  unfold M_X3_noseOf at hM
  generalize (σ', r) = z at hM ⊢
  have hl : lv_has ls 2 [(0, .ref (E.1 k)), (1, .int p0)] := hl
  refine lv_aload_n hx hb dX3_noseOf_0 rfl (lv_at hl 0 rfl) ?_
  refine gt_3_0 X.1 hG hL mw150 dX3_noseOf_1 ?_
  refine lv_iload_n hx hb dX3_noseOf_4 rfl (lv_at hl 1 rfl) ?_
  refine g_callSN_i (nA := 2) (o := M_X10_at σ (k + 1) p0) (As := [.ref (E.1 (k + 1)), .int p0]) X.1 hG (fun _ _ h => C_X10_at l E h (lf_3_0 hL)) mw640 mw477 mw12 (gw_ok mw478 rfl) (by decide +kernel) rfl ⟨Nat.le_of_ble_eq_true rfl, Nat.le_of_ble_eq_true rfl⟩ hl.1 rfl (Nat.le_of_ble_eq_true rfl) ⟨Nat.le_refl _, Nat.le_refl _⟩ dX3_noseOf_5 hM (fun σ1 r2 H locs hG hM => ?_)
  exact e_iret X hG dX3_noseOf_8 hM
def M_X3_findsOf (σ : St) (k : Nat) (p0 : Int32) : Option (St × Int32) := bcall (M_X10_at σ (k + 2) p0) fun σ1 r2 => some (σ1, r2)
set_option maxRecDepth 20000 in
set_option maxHeartbeats 4000000 in
theorem C_X3_findsOf (l : Launch) (E : Ev) {σ σ' : St} {k : Nat} {p0 : Int32} {r : Int32} (h : M_X3_findsOf σ k p0 = some (σ', r)) (hL : lay 3 k) : Mi l E yX3_findsOf cX3_findsOf 2 (some .int) 2 [.ref (E.1 k), .int p0] σ σ' r := by
  refine Mi_of (C := RX3) rfl (by decide) (Nat.le_of_ble_eq_true rfl) (z := (σ', r)) (fun p e s m below meth c ls X hG hl => ?_)
  have hx := X.1.1.1
  have hb := X.1.1.2.1
  have hM := h
  unfold M_X3_findsOf at hM
  generalize (σ', r) = z at hM ⊢
  have hl : lv_has ls 2 [(0, .ref (E.1 k)), (1, .int p0)] := hl
  refine lv_aload_n hx hb dX3_findsOf_0 rfl (lv_at hl 0 rfl) ?_
  refine gt_3_1 X.1 hG hL mw151 dX3_findsOf_1 ?_
  refine lv_iload_n hx hb dX3_findsOf_4 rfl (lv_at hl 1 rfl) ?_
  refine g_callSN_i (nA := 2) (o := M_X10_at σ (k + 2) p0) (As := [.ref (E.1 (k + 2)), .int p0]) X.1 hG (fun _ _ h => C_X10_at l E h (lf_3_1 hL)) mw640 mw477 mw12 (gw_ok mw478 rfl) (by decide +kernel) rfl ⟨Nat.le_of_ble_eq_true rfl, Nat.le_of_ble_eq_true rfl⟩ hl.1 rfl (Nat.le_of_ble_eq_true rfl) ⟨Nat.le_refl _, Nat.le_refl _⟩ dX3_findsOf_5 hM (fun σ1 r2 H locs hG hM => ?_)
  exact e_iret X hG dX3_findsOf_8 hM
def M_X3_add (σ : St) (k : Nat) (p0 : Int32) : Option (St × Int32) := bcall (M_X10_put σ (k + 1) (σ k 2) p0) fun σ1 r2 => bcall (M_X10_put σ1 (k + 2) (σ1 k 2) (0 : Int32)) fun σ3 r4 => bput σ3 k 2 ((σ3 k 2) + (1 : Int32)) fun σ5 => some (σ5, (σ5 k 2) - (1 : Int32))
set_option maxRecDepth 20000 in
set_option maxHeartbeats 4000000 in
theorem C_X3_add (l : Launch) (E : Ev) {σ σ' : St} {k : Nat} {p0 : Int32} {r : Int32} (h : M_X3_add σ k p0 = some (σ', r)) (hL : lay 3 k) : Mi l E yX3_add cX3_add 2 (some .int) 2 [.ref (E.1 k), .int p0] σ σ' r := by
  refine Mi_of (C := RX3) rfl (by decide) (Nat.le_of_ble_eq_true rfl) (z := (σ', r)) (fun p e s m below meth c ls X hG hl => ?_)
  have hx := X.1.1.1
  have hb := X.1.1.2.1
  have hM := h
  unfold M_X3_add at hM
  generalize (σ', r) = z at hM ⊢
  have hl : lv_has ls 2 [(0, .ref (E.1 k)), (1, .int p0)] := hl
  refine lv_aload_n hx hb dX3_add_0 rfl (lv_at hl 0 rfl) ?_
  refine gt_3_0 X.1 hG hL mw150 dX3_add_1 ?_
  refine lv_aload_n hx hb dX3_add_4 rfl (lv_at hl 0 rfl) ?_
  refine gt_3_2 X.1 hG hL mw152 dX3_add_5 ?_
  refine lv_iload_n hx hb dX3_add_8 rfl (lv_at hl 1 rfl) ?_
  refine g_callSN_v (nA := 3) (o := M_X10_put σ (k + 1) (σ k 2) p0) (As := [.ref (E.1 (k + 1)), .int (σ k 2), .int p0]) X.1 hG (fun _ _ h => C_X10_put l E h (lf_3_0 hL)) mw623 mw431 mw12 (gw_ok mw432 rfl) (by decide +kernel) rfl ⟨Nat.le_of_ble_eq_true rfl, Nat.le_of_ble_eq_true rfl⟩ hl.1 rfl (Nat.le_of_ble_eq_true rfl) ⟨Nat.le_refl _, Nat.le_refl _⟩ dX3_add_9 hM (fun σ1 r2 H locs hG hM => ?_)
  refine lv_aload_n hx hb dX3_add_12 rfl (lv_at hl 0 rfl) ?_
  refine gt_3_1 X.1 hG hL mw151 dX3_add_13 ?_
  refine lv_aload_n hx hb dX3_add_16 rfl (lv_at hl 0 rfl) ?_
  refine gt_3_2 X.1 hG hL mw152 dX3_add_17 ?_
  refine lv_iconst (v := (0 : Int32)) hx hb dX3_add_20 (by decide) ?_
  refine g_callSN_v (nA := 3) (o := M_X10_put σ1 (k + 2) (σ1 k 2) (0 : Int32)) (As := [.ref (E.1 (k + 2)), .int (σ1 k 2), .int (0 : Int32)]) X.1 hG (fun _ _ h => C_X10_put l E h (lf_3_1 hL)) mw623 mw431 mw12 (gw_ok mw432 rfl) (by decide +kernel) rfl ⟨Nat.le_of_ble_eq_true rfl, Nat.le_of_ble_eq_true rfl⟩ hl.1 rfl (Nat.le_of_ble_eq_true rfl) ⟨Nat.le_refl _, Nat.le_refl _⟩ dX3_add_21 hM (fun σ3 r4 H locs hG hM => ?_)
  refine lv_aload_n hx hb dX3_add_24 rfl (lv_at hl 0 rfl) ?_
  refine lv_dup hx hb dX3_add_25 rfl ?_
  refine gt_3_2 X.1 hG hL mw152 dX3_add_26 ?_
  refine lv_iconst (v := (1 : Int32)) hx hb dX3_add_29 (by decide) ?_
  refine lv_iadd hx hb dX3_add_30 ?_
  refine pt_3_2 X.1 hG hL mw152 dX3_add_31 hM (fun σ5 H locs hG hM => ?_)
  refine lv_aload_n hx hb dX3_add_34 rfl (lv_at hl 0 rfl) ?_
  refine gt_3_2 X.1 hG hL mw152 dX3_add_35 ?_
  refine lv_iconst (v := (1 : Int32)) hx hb dX3_add_38 (by decide) ?_
  refine lv_isub hx hb dX3_add_39 ?_
  exact e_iret X hG dX3_add_40 hM
def M_X3_addFind (σ : St) (k : Nat) (p0 : Int32) : Option (St × Int32) := bcall (M_X3_findsOf σ k p0) fun σ1 r2 => bcall (M_X10_put σ1 (k + 2) p0 (r2 + (1 : Int32))) fun σ3 r4 => some (σ3, 0)
set_option maxRecDepth 20000 in
set_option maxHeartbeats 4000000 in
theorem C_X3_addFind (l : Launch) (E : Ev) {σ σ' : St} {k : Nat} {p0 : Int32} {r : Int32} (h : M_X3_addFind σ k p0 = some (σ', r)) (hL : lay 3 k) : Mv l E yX3_addFind cX3_addFind 2 3 [.ref (E.1 k), .int p0] σ σ' := by
  refine Mv_of (C := RX3) rfl (by decide) (Nat.le_of_ble_eq_true rfl) (z := (σ', r)) (fun p e s m below meth c ls X hG hl => ?_)
  have hx := X.1.1.1
  have hb := X.1.1.2.1
  have hM := h
  unfold M_X3_addFind at hM
  generalize (σ', r) = z at hM ⊢
  have hl : lv_has ls 2 [(0, .ref (E.1 k)), (1, .int p0)] := hl
  refine lv_aload_n hx hb dX3_addFind_0 rfl (lv_at hl 0 rfl) ?_
  refine gt_3_1 X.1 hG hL mw151 dX3_addFind_1 ?_
  refine lv_iload_n hx hb dX3_addFind_4 rfl (lv_at hl 1 rfl) ?_
  refine lv_aload_n hx hb dX3_addFind_5 rfl (lv_at hl 0 rfl) ?_
  refine lv_iload_n hx hb dX3_addFind_6 rfl (lv_at hl 1 rfl) ?_
  refine g_callV_i (nA := 1) (o := M_X3_findsOf σ k p0) (As := [.int p0]) X.1 hG hL rfl rfl (fun _ _ h => C_X3_findsOf l E h hL) mw657 mw658 mw659 mw19 (gw_ok mw660 rfl) (by decide +kernel) rfl ⟨Nat.le_of_ble_eq_true rfl, Nat.le_of_ble_eq_true rfl⟩ hl.1 rfl (Nat.le_of_ble_eq_true rfl) ⟨Nat.le_refl _, Nat.le_refl _⟩ dX3_addFind_7 hM (fun σ1 r2 H locs hG hM => ?_)
  refine lv_iconst (v := (1 : Int32)) hx hb dX3_addFind_10 (by decide) ?_
  refine lv_iadd hx hb dX3_addFind_11 ?_
  refine g_callSN_v (nA := 3) (o := M_X10_put σ1 (k + 2) p0 (r2 + (1 : Int32))) (As := [.ref (E.1 (k + 2)), .int p0, .int (r2 + (1 : Int32))]) X.1 hG (fun _ _ h => C_X10_put l E h (lf_3_1 hL)) mw623 mw431 mw12 (gw_ok mw432 rfl) (by decide +kernel) rfl ⟨Nat.le_of_ble_eq_true rfl, Nat.le_of_ble_eq_true rfl⟩ hl.1 rfl (Nat.le_of_ble_eq_true rfl) ⟨Nat.le_refl _, Nat.le_refl _⟩ dX3_addFind_12 hM (fun σ3 r4 H locs hG hM => ?_)
  exact e_vret X hG dX3_addFind_15 hM
def M_X3_take (σ : St) (k a0 : Nat)  : Option (St × Int32) := bcall (M_X10_copy σ (a0 + 1) (k + 1)) fun σ1 r2 => bcall (M_X10_copy σ1 (a0 + 2) (k + 2)) fun σ3 r4 => bput σ3 k 2 (σ3 a0 2) fun σ5 => some (σ5, 0)
set_option maxRecDepth 20000 in
set_option maxHeartbeats 4000000 in
theorem C_X3_take (l : Launch) (E : Ev) {σ σ' : St} {k : Nat} {a0 : Nat} {r : Int32} (h : M_X3_take σ k a0 = some (σ', r)) (hL : lay 3 k) (hA0 : lay 3 a0) : Mv l E yX3_take cX3_take 2 2 [.ref (E.1 k), .ref (E.1 a0)] σ σ' := by
  refine Mv_of (C := RX3) rfl (by decide) (Nat.le_of_ble_eq_true rfl) (z := (σ', r)) (fun p e s m below meth c ls X hG hl => ?_)
  have hx := X.1.1.1
  have hb := X.1.1.2.1
  have hM := h
  unfold M_X3_take at hM
  generalize (σ', r) = z at hM ⊢
  have hl : lv_has ls 2 [(0, .ref (E.1 k)), (1, .ref (E.1 a0))] := hl
  refine lv_aload_n hx hb dX3_take_0 rfl (lv_at hl 1 rfl) ?_
  refine gt_3_0 X.1 hG hA0 mw150 dX3_take_1 ?_
  refine lv_aload_n hx hb dX3_take_4 rfl (lv_at hl 0 rfl) ?_
  refine gt_3_0 X.1 hG hL mw150 dX3_take_5 ?_
  refine g_callSN_v (nA := 2) (o := M_X10_copy σ (a0 + 1) (k + 1)) (As := [.ref (E.1 (a0 + 1)), .ref (E.1 (k + 1))]) X.1 hG (fun _ _ h => C_X10_copy l E h (lf_3_0 hA0) (lf_3_0 hL)) mw416 mw396 mw12 (gw_ok mw397 rfl) (by decide +kernel) rfl ⟨Nat.le_of_ble_eq_true rfl, Nat.le_of_ble_eq_true rfl⟩ hl.1 rfl (Nat.le_of_ble_eq_true rfl) ⟨Nat.le_refl _, Nat.le_refl _⟩ dX3_take_8 hM (fun σ1 r2 H locs hG hM => ?_)
  refine lv_aload_n hx hb dX3_take_11 rfl (lv_at hl 1 rfl) ?_
  refine gt_3_1 X.1 hG hA0 mw151 dX3_take_12 ?_
  refine lv_aload_n hx hb dX3_take_15 rfl (lv_at hl 0 rfl) ?_
  refine gt_3_1 X.1 hG hL mw151 dX3_take_16 ?_
  refine g_callSN_v (nA := 2) (o := M_X10_copy σ1 (a0 + 2) (k + 2)) (As := [.ref (E.1 (a0 + 2)), .ref (E.1 (k + 2))]) X.1 hG (fun _ _ h => C_X10_copy l E h (lf_3_1 hA0) (lf_3_1 hL)) mw416 mw396 mw12 (gw_ok mw397 rfl) (by decide +kernel) rfl ⟨Nat.le_of_ble_eq_true rfl, Nat.le_of_ble_eq_true rfl⟩ hl.1 rfl (Nat.le_of_ble_eq_true rfl) ⟨Nat.le_refl _, Nat.le_refl _⟩ dX3_take_19 hM (fun σ3 r4 H locs hG hM => ?_)
  refine lv_aload_n hx hb dX3_take_22 rfl (lv_at hl 0 rfl) ?_
  refine lv_aload_n hx hb dX3_take_23 rfl (lv_at hl 1 rfl) ?_
  refine gt_3_2 X.1 hG hA0 mw152 dX3_take_24 ?_
  refine pt_3_2 X.1 hG hL mw152 dX3_take_27 hM (fun σ5 H locs hG hM => ?_)
  exact e_vret X hG dX3_take_30 hM
def M_X5_letterOf (σ : St) (k : Nat) (p0 : Int32) : Option (St × Int32) := bcall (M_X10_at σ (k + 1) p0) fun σ1 r2 => some (σ1, r2)
set_option maxRecDepth 20000 in
set_option maxHeartbeats 4000000 in
theorem C_X5_letterOf (l : Launch) (E : Ev) {σ σ' : St} {k : Nat} {p0 : Int32} {r : Int32} (h : M_X5_letterOf σ k p0 = some (σ', r)) (hL : lay 5 k) : Mi l E yX5_letterOf cX5_letterOf 2 (some .int) 2 [.ref (E.1 k), .int p0] σ σ' r := by
  refine Mi_of (C := RX5) rfl (by decide) (Nat.le_of_ble_eq_true rfl) (z := (σ', r)) (fun p e s m below meth c ls X hG hl => ?_)
  have hx := X.1.1.1
  have hb := X.1.1.2.1
  have hM := h
  unfold M_X5_letterOf at hM
  generalize (σ', r) = z at hM ⊢
  have hl : lv_has ls 2 [(0, .ref (E.1 k)), (1, .int p0)] := hl
  refine lv_aload_n hx hb dX5_letterOf_0 rfl (lv_at hl 0 rfl) ?_
  refine gt_5_0 X.1 hG hL mw285 dX5_letterOf_1 ?_
  refine lv_iload_n hx hb dX5_letterOf_4 rfl (lv_at hl 1 rfl) ?_
  refine g_callSN_i (nA := 2) (o := M_X10_at σ (k + 1) p0) (As := [.ref (E.1 (k + 1)), .int p0]) X.1 hG (fun _ _ h => C_X10_at l E h (lf_5_0 hL)) mw837 mw477 mw12 (gw_ok mw478 rfl) (by decide +kernel) rfl ⟨Nat.le_of_ble_eq_true rfl, Nat.le_of_ble_eq_true rfl⟩ hl.1 rfl (Nat.le_of_ble_eq_true rfl) ⟨Nat.le_refl _, Nat.le_refl _⟩ dX5_letterOf_5 hM (fun σ1 r2 H locs hG hM => ?_)
  exact e_iret X hG dX5_letterOf_8 hM
def M_X5_numberOf (σ : St) (k : Nat) (p0 p1 : Int32) : Option (St × Int32) := bcall (M_X10_at σ (k + 2) ((p0 * (3 : Int32)) + p1)) fun σ1 r2 => some (σ1, r2)
set_option maxRecDepth 20000 in
set_option maxHeartbeats 4000000 in
theorem C_X5_numberOf (l : Launch) (E : Ev) {σ σ' : St} {k : Nat} {p0 : Int32} {p1 : Int32} {r : Int32} (h : M_X5_numberOf σ k p0 p1 = some (σ', r)) (hL : lay 5 k) : Mi l E yX5_numberOf cX5_numberOf 3 (some .int) 2 [.ref (E.1 k), .int p0, .int p1] σ σ' r := by
  refine Mi_of (C := RX5) rfl (by decide) (Nat.le_of_ble_eq_true rfl) (z := (σ', r)) (fun p e s m below meth c ls X hG hl => ?_)
  have hx := X.1.1.1
  have hb := X.1.1.2.1
  have hM := h
  unfold M_X5_numberOf at hM
  generalize (σ', r) = z at hM ⊢
  have hl : lv_has ls 3 [(0, .ref (E.1 k)), (1, .int p0), (2, .int p1)] := hl
  refine lv_aload_n hx hb dX5_numberOf_0 rfl (lv_at hl 0 rfl) ?_
  refine gt_5_1 X.1 hG hL mw286 dX5_numberOf_1 ?_
  refine lv_iload_n hx hb dX5_numberOf_4 rfl (lv_at hl 1 rfl) ?_
  refine lv_iconst (v := (3 : Int32)) hx hb dX5_numberOf_5 (by decide) ?_
  refine lv_imul hx hb dX5_numberOf_6 ?_
  refine lv_iload_n hx hb dX5_numberOf_7 rfl (lv_at hl 2 rfl) ?_
  refine lv_iadd hx hb dX5_numberOf_8 ?_
  refine g_callSN_i (nA := 2) (o := M_X10_at σ (k + 2) ((p0 * (3 : Int32)) + p1)) (As := [.ref (E.1 (k + 2)), .int ((p0 * (3 : Int32)) + p1)]) X.1 hG (fun _ _ h => C_X10_at l E h (lf_5_1 hL)) mw837 mw477 mw12 (gw_ok mw478 rfl) (by decide +kernel) rfl ⟨Nat.le_of_ble_eq_true rfl, Nat.le_of_ble_eq_true rfl⟩ hl.1 rfl (Nat.le_of_ble_eq_true rfl) ⟨Nat.le_refl _, Nat.le_refl _⟩ dX5_numberOf_9 hM (fun σ1 r2 H locs hG hM => ?_)
  exact e_iret X hG dX5_numberOf_12 hM
def M_X5_readNumber (σ : St) (k a0 : Nat) (p1 p2 : Int32) : Option (St × Int32) := bcall (M_X4_signAt σ a0 (σ k 3)) fun σ1 r2 => bcall (M_X5_isDigit σ1 r2) fun σ3 r4 => if r4 = 0 then some (σ3, (0 : Int32)) else (bcall (M_X4_signAt σ3 a0 (σ3 k 3)) fun σ5 r6 => blet (r6 - (48 : Int32)) fun v7 => bput σ5 k 3 ((σ5 k 3) + (1 : Int32)) fun σ8 => if p2 = 0 then (bcall (M_X10_put σ8 (k + 2) (((σ8 k 2) * (3 : Int32)) + p1) v7) fun σ9 r10 => some (σ9, (1 : Int32))) else (bcall (M_X4_signAt σ8 a0 (σ8 k 3)) fun σ11 r12 => bcall (M_X5_isDigit σ11 r12) fun σ13 r14 => if r14 = 0 then (bcall (M_X10_put σ13 (k + 2) (((σ13 k 2) * (3 : Int32)) + p1) v7) fun σ15 r16 => some (σ15, (1 : Int32))) else (bcall (M_X4_signAt σ13 a0 (σ13 k 3)) fun σ17 r18 => blet (((v7 * (10 : Int32)) + r18) - (48 : Int32)) fun v19 => bput σ17 k 3 ((σ17 k 3) + (1 : Int32)) fun σ20 => bcall (M_X10_put σ20 (k + 2) (((σ20 k 2) * (3 : Int32)) + p1) v19) fun σ21 r22 => some (σ21, (1 : Int32)))))
set_option maxRecDepth 20000 in
set_option maxHeartbeats 4000000 in
theorem C_X5_readNumber (l : Launch) (E : Ev) {σ σ' : St} {k : Nat} {a0 : Nat} {p1 : Int32} {p2 : Int32} {r : Int32} (h : M_X5_readNumber σ k a0 p1 p2 = some (σ', r)) (hL : lay 5 k) (hA0 : lay 4 a0) : Mi l E yX5_readNumber cX5_readNumber 5 (some .boolean) 2 [.ref (E.1 k), .ref (E.1 a0), .int p1, .int p2] σ σ' r := by
  refine Mi_of (C := RX5) rfl (by decide) (Nat.le_of_ble_eq_true rfl) (z := (σ', r)) (fun p e s m below meth c ls X hG hl => ?_)
  have hx := X.1.1.1
  have hb := X.1.1.2.1
  have hM := h
  unfold M_X5_readNumber at hM
  generalize (σ', r) = z at hM ⊢
  have hl : lv_has ls 5 [(0, .ref (E.1 k)), (1, .ref (E.1 a0)), (2, .int p1), (3, .int p2)] := hl
  refine lv_aload_n hx hb dX5_readNumber_0 rfl (lv_at hl 1 rfl) ?_
  refine lv_aload_n hx hb dX5_readNumber_1 rfl (lv_at hl 0 rfl) ?_
  refine gt_5_3 X.1 hG hL mw289 dX5_readNumber_2 ?_
  refine g_callV_i (nA := 1) (o := M_X4_signAt σ a0 (σ k 3)) (As := [.int (σ k 3)]) X.1 hG hA0 rfl rfl (fun _ _ h => C_X4_signAt l E h hA0) mw748 mw749 mw750 mw21 (gw_ok mw751 rfl) (by decide +kernel) rfl ⟨Nat.le_of_ble_eq_true rfl, Nat.le_of_ble_eq_true rfl⟩ hl.1 rfl (Nat.le_of_ble_eq_true rfl) ⟨Nat.le_refl _, Nat.le_refl _⟩ dX5_readNumber_5 hM (fun σ1 r2 H locs hG hM => ?_)
  refine g_callS_i (nA := 1) (o := M_X5_isDigit σ1 r2) (As := [.int r2]) X.1 hG (fun _ _ h => C_X5_isDigit l E h ) mw822 mw823 mw22 (gw_ok mw824 rfl) (by decide +kernel) rfl ⟨Nat.le_of_ble_eq_true rfl, Nat.le_of_ble_eq_true rfl⟩ hl.1 rfl (Nat.le_of_ble_eq_true rfl) ⟨Nat.le_refl _, Nat.le_refl _⟩ dX5_readNumber_8 hM (fun σ3 r4 H locs hG hM => ?_)
  refine lv_if_ne (tgt := 16) hx hb dX5_readNumber_11 (by decide) (fun c25 => ?_) (fun c25 => ?_)
  · have hM := b_else hM c25
    refine lv_aload_n hx hb dX5_readNumber_16 rfl (lv_at hl 1 rfl) ?_
    refine lv_aload_n hx hb dX5_readNumber_17 rfl (lv_at hl 0 rfl) ?_
    refine gt_5_3 X.1 hG hL mw289 dX5_readNumber_18 ?_
    refine g_callV_i (nA := 1) (o := M_X4_signAt σ3 a0 (σ3 k 3)) (As := [.int (σ3 k 3)]) X.1 hG hA0 rfl rfl (fun _ _ h => C_X4_signAt l E h hA0) mw748 mw749 mw750 mw21 (gw_ok mw751 rfl) (by decide +kernel) rfl ⟨Nat.le_of_ble_eq_true rfl, Nat.le_of_ble_eq_true rfl⟩ hl.1 rfl (Nat.le_of_ble_eq_true rfl) ⟨Nat.le_refl _, Nat.le_refl _⟩ dX5_readNumber_21 hM (fun σ5 r6 H locs hG hM => ?_)
    refine lv_bipush (v := (48 : Int32)) hx hb dX5_readNumber_24 (by decide) ?_
    refine lv_isub hx hb dX5_readNumber_26 ?_
    refine g_name hM (fun v7 hM => ?_)
    refine lv_istore (lv' := [(4, .int v7), (0, .ref (E.1 k)), (1, .ref (E.1 a0)), (2, .int p1), (3, .int p2)]) hx hb dX5_readNumber_27 hl (by decide) rfl (fun ls hl => ?_)
    refine lv_aload_n hx hb dX5_readNumber_29 rfl (lv_at hl 1 rfl) ?_
    refine lv_dup hx hb dX5_readNumber_30 rfl ?_
    refine gt_5_3 X.1 hG hL mw289 dX5_readNumber_31 ?_
    refine lv_iconst (v := (1 : Int32)) hx hb dX5_readNumber_34 (by decide) ?_
    refine lv_iadd hx hb dX5_readNumber_35 ?_
    refine pt_5_3 X.1 hG hL mw289 dX5_readNumber_36 hM (fun σ8 H locs hG hM => ?_)
    refine lv_iload_n hx hb dX5_readNumber_39 rfl (lv_at hl 4 rfl) ?_
    refine lv_if_eq (tgt := 86) hx hb dX5_readNumber_40 (by decide) (fun c24 => ?_) (fun c24 => ?_)
    · have hM := b_if hM c24
      refine lv_aload_n hx hb dX5_readNumber_86 rfl (lv_at hl 1 rfl) ?_
      refine gt_5_1 X.1 hG hL mw286 dX5_readNumber_87 ?_
      refine lv_aload_n hx hb dX5_readNumber_90 rfl (lv_at hl 1 rfl) ?_
      refine gt_5_2 X.1 hG hL mw287 dX5_readNumber_91 ?_
      refine lv_iconst (v := (3 : Int32)) hx hb dX5_readNumber_94 (by decide) ?_
      refine lv_imul hx hb dX5_readNumber_95 ?_
      refine lv_iload_n hx hb dX5_readNumber_96 rfl (lv_at hl 3 rfl) ?_
      refine lv_iadd hx hb dX5_readNumber_97 ?_
      refine lv_iload hx hb dX5_readNumber_98 (lv_at hl 0 rfl) ?_
      refine g_callSN_v (nA := 3) (o := M_X10_put σ8 (k + 2) (((σ8 k 2) * (3 : Int32)) + p1) v7) (As := [.ref (E.1 (k + 2)), .int (((σ8 k 2) * (3 : Int32)) + p1), .int v7]) X.1 hG (fun _ _ h => C_X10_put l E h (lf_5_1 hL)) mw765 mw431 mw12 (gw_ok mw432 rfl) (by decide +kernel) rfl ⟨Nat.le_of_ble_eq_true rfl, Nat.le_of_ble_eq_true rfl⟩ hl.1 rfl (Nat.le_of_ble_eq_true rfl) ⟨Nat.le_refl _, Nat.le_refl _⟩ dX5_readNumber_100 hM (fun σ9 r10 H locs hG hM => ?_)
      refine lv_iconst (v := (1 : Int32)) hx hb dX5_readNumber_103 (by decide) ?_
      exact e_zret X hG (by decide) dX5_readNumber_104 hM
    · have hM := b_else hM c24
      refine lv_aload_n hx hb dX5_readNumber_43 rfl (lv_at hl 2 rfl) ?_
      refine lv_aload_n hx hb dX5_readNumber_44 rfl (lv_at hl 1 rfl) ?_
      refine gt_5_3 X.1 hG hL mw289 dX5_readNumber_45 ?_
      refine g_callV_i (nA := 1) (o := M_X4_signAt σ8 a0 (σ8 k 3)) (As := [.int (σ8 k 3)]) X.1 hG hA0 rfl rfl (fun _ _ h => C_X4_signAt l E h hA0) mw748 mw749 mw750 mw21 (gw_ok mw751 rfl) (by decide +kernel) rfl ⟨Nat.le_of_ble_eq_true rfl, Nat.le_of_ble_eq_true rfl⟩ hl.1 rfl (Nat.le_of_ble_eq_true rfl) ⟨Nat.le_refl _, Nat.le_refl _⟩ dX5_readNumber_48 hM (fun σ11 r12 H locs hG hM => ?_)
      refine g_callS_i (nA := 1) (o := M_X5_isDigit σ11 r12) (As := [.int r12]) X.1 hG (fun _ _ h => C_X5_isDigit l E h ) mw822 mw823 mw22 (gw_ok mw824 rfl) (by decide +kernel) rfl ⟨Nat.le_of_ble_eq_true rfl, Nat.le_of_ble_eq_true rfl⟩ hl.1 rfl (Nat.le_of_ble_eq_true rfl) ⟨Nat.le_refl _, Nat.le_refl _⟩ dX5_readNumber_51 hM (fun σ13 r14 H locs hG hM => ?_)
      refine lv_if_eq (tgt := 86) hx hb dX5_readNumber_54 (by decide) (fun c23 => ?_) (fun c23 => ?_)
      · have hM := b_if hM c23
        refine lv_aload_n hx hb dX5_readNumber_86 rfl (lv_at hl 1 rfl) ?_
        refine gt_5_1 X.1 hG hL mw286 dX5_readNumber_87 ?_
        refine lv_aload_n hx hb dX5_readNumber_90 rfl (lv_at hl 1 rfl) ?_
        refine gt_5_2 X.1 hG hL mw287 dX5_readNumber_91 ?_
        refine lv_iconst (v := (3 : Int32)) hx hb dX5_readNumber_94 (by decide) ?_
        refine lv_imul hx hb dX5_readNumber_95 ?_
        refine lv_iload_n hx hb dX5_readNumber_96 rfl (lv_at hl 3 rfl) ?_
        refine lv_iadd hx hb dX5_readNumber_97 ?_
        refine lv_iload hx hb dX5_readNumber_98 (lv_at hl 0 rfl) ?_
        refine g_callSN_v (nA := 3) (o := M_X10_put σ13 (k + 2) (((σ13 k 2) * (3 : Int32)) + p1) v7) (As := [.ref (E.1 (k + 2)), .int (((σ13 k 2) * (3 : Int32)) + p1), .int v7]) X.1 hG (fun _ _ h => C_X10_put l E h (lf_5_1 hL)) mw765 mw431 mw12 (gw_ok mw432 rfl) (by decide +kernel) rfl ⟨Nat.le_of_ble_eq_true rfl, Nat.le_of_ble_eq_true rfl⟩ hl.1 rfl (Nat.le_of_ble_eq_true rfl) ⟨Nat.le_refl _, Nat.le_refl _⟩ dX5_readNumber_100 hM (fun σ15 r16 H locs hG hM => ?_)
        refine lv_iconst (v := (1 : Int32)) hx hb dX5_readNumber_103 (by decide) ?_
        exact e_zret X hG (by decide) dX5_readNumber_104 hM
      · have hM := b_else hM c23
        refine lv_iload hx hb dX5_readNumber_57 (lv_at hl 0 rfl) ?_
        refine lv_bipush (v := (10 : Int32)) hx hb dX5_readNumber_59 (by decide) ?_
        refine lv_imul hx hb dX5_readNumber_61 ?_
        refine lv_aload_n hx hb dX5_readNumber_62 rfl (lv_at hl 2 rfl) ?_
        refine lv_aload_n hx hb dX5_readNumber_63 rfl (lv_at hl 1 rfl) ?_
        refine gt_5_3 X.1 hG hL mw289 dX5_readNumber_64 ?_
        refine g_callV_i (nA := 1) (o := M_X4_signAt σ13 a0 (σ13 k 3)) (As := [.int (σ13 k 3)]) X.1 hG hA0 rfl rfl (fun _ _ h => C_X4_signAt l E h hA0) mw748 mw749 mw750 mw21 (gw_ok mw751 rfl) (by decide +kernel) rfl ⟨Nat.le_of_ble_eq_true rfl, Nat.le_of_ble_eq_true rfl⟩ hl.1 rfl (Nat.le_of_ble_eq_true rfl) ⟨Nat.le_refl _, Nat.le_refl _⟩ dX5_readNumber_67 hM (fun σ17 r18 H locs hG hM => ?_)
        refine lv_iadd hx hb dX5_readNumber_70 ?_
        refine lv_bipush (v := (48 : Int32)) hx hb dX5_readNumber_71 (by decide) ?_
        refine lv_isub hx hb dX5_readNumber_73 ?_
        refine g_name hM (fun v19 hM => ?_)
        refine lv_istore (lv' := [(4, .int v19), (0, .ref (E.1 k)), (1, .ref (E.1 a0)), (2, .int p1), (3, .int p2)]) hx hb dX5_readNumber_74 hl (by decide) rfl (fun ls hl => ?_)
        refine lv_aload_n hx hb dX5_readNumber_76 rfl (lv_at hl 1 rfl) ?_
        refine lv_dup hx hb dX5_readNumber_77 rfl ?_
        refine gt_5_3 X.1 hG hL mw289 dX5_readNumber_78 ?_
        refine lv_iconst (v := (1 : Int32)) hx hb dX5_readNumber_81 (by decide) ?_
        refine lv_iadd hx hb dX5_readNumber_82 ?_
        refine pt_5_3 X.1 hG hL mw289 dX5_readNumber_83 hM (fun σ20 H locs hG hM => ?_)
        refine lv_aload_n hx hb dX5_readNumber_86 rfl (lv_at hl 1 rfl) ?_
        refine gt_5_1 X.1 hG hL mw286 dX5_readNumber_87 ?_
        refine lv_aload_n hx hb dX5_readNumber_90 rfl (lv_at hl 1 rfl) ?_
        refine gt_5_2 X.1 hG hL mw287 dX5_readNumber_91 ?_
        refine lv_iconst (v := (3 : Int32)) hx hb dX5_readNumber_94 (by decide) ?_
        refine lv_imul hx hb dX5_readNumber_95 ?_
        refine lv_iload_n hx hb dX5_readNumber_96 rfl (lv_at hl 3 rfl) ?_
        refine lv_iadd hx hb dX5_readNumber_97 ?_
        refine lv_iload hx hb dX5_readNumber_98 (lv_at hl 0 rfl) ?_
        refine g_callSN_v (nA := 3) (o := M_X10_put σ20 (k + 2) (((σ20 k 2) * (3 : Int32)) + p1) v19) (As := [.ref (E.1 (k + 2)), .int (((σ20 k 2) * (3 : Int32)) + p1), .int v19]) X.1 hG (fun _ _ h => C_X10_put l E h (lf_5_1 hL)) mw765 mw431 mw12 (gw_ok mw432 rfl) (by decide +kernel) rfl ⟨Nat.le_of_ble_eq_true rfl, Nat.le_of_ble_eq_true rfl⟩ hl.1 rfl (Nat.le_of_ble_eq_true rfl) ⟨Nat.le_refl _, Nat.le_refl _⟩ dX5_readNumber_100 hM (fun σ21 r22 H locs hG hM => ?_)
        refine lv_iconst (v := (1 : Int32)) hx hb dX5_readNumber_103 (by decide) ?_
        exact e_zret X hG (by decide) dX5_readNumber_104 hM
  · have hM := b_if hM c25
    refine lv_iconst (v := (0 : Int32)) hx hb dX5_readNumber_14 (by decide) ?_
    exact e_zret X hG (by decide) dX5_readNumber_15 hM
def B_X6_refuseOrder_16  : Nat → St → Nat → Int32 → Int32 → Int32 → Option (St × Int32)
  | 0, _, _, _, _, _ => none
  | n + 1, σ, k, x1, x3, x4 => if x4 ≤ 0 then (bcall (M_X10_put σ (k + 1) (0 : Int32) (12 : Int32)) fun σ1 r2 => bcall (M_X10_put σ1 (k + 2) (0 : Int32) x1) fun σ3 r4 => blet (imin (x3 + (1 : Int32)) (3 : Int32)) fun v5 => bput σ3 k 2 v5 fun σ6 => some (σ6, (-3 : Int32))) else (bcall (M_X10_at σ (k + 1) (x4 - (1 : Int32))) fun σ7 r8 => bcall (M_X10_put σ7 (k + 1) x4 r8) fun σ9 r10 => bcall (M_X10_at σ9 (k + 2) (x4 - (1 : Int32))) fun σ11 r12 => bcall (M_X10_put σ11 (k + 2) x4 r12) fun σ13 r14 => blet (x4 + (-1 : Int32)) fun v15 => B_X6_refuseOrder_16 n σ13 k x1 x3 v15)
def B_X6_refuseOrder_12 (σ : St) (k : Nat) (x1 t0 : Int32) : Option (St × Int32) := B_X6_refuseOrder_16 FU σ k x1 t0 t0
def M_X6_refuseOrder (σ : St) (k : Nat) (p0 p1 : Int32) : Option (St × Int32) := if p1 = 0 then (B_X6_refuseOrder_12 σ k p0 (0 : Int32)) else (B_X6_refuseOrder_12 σ k p0 (σ k 2))
set_option maxRecDepth 20000 in
set_option maxHeartbeats 4000000 in
theorem w_X6_refuseOrder_16 {p : Program} {l : Launch} {e : Env} {s : State} {m : MethodId} {below : List Frame} {meth : Method} {c : Code} {args : Array Value} {E : Ev} {k : Nat} (X : Bx E p m meth c cX6_refuseOrder 5 (some .int) s args RX6) (hL : lay 6 k) : ∀ (n : Nat) (σ : St) (x1 x3 x4 : Int32) (H : Heap) (locs : List Loc) (ls : Array Slot) (z : St × Int32), GS E σ s.heap H locs → lv_has ls 5 [(0, .ref (E.1 k)), (1, .int x1), (3, .int x3), (4, .int x4)] → B_X6_refuseOrder_16 n σ k x1 x3 x4 = some z → W p l e (rmd 2) s m args below meth c H locs 0 0 (QI E z below args s) (F0 m 16 ls []) := by
  have hx := X.1.1.1
  have hb := X.1.1.2.1
  intro n
  induction n with
  | zero => intro σ x1 x3 x4 H locs ls z  hG hl hM; cases hM
  | succ n ih =>
    intro σ x1 x3 x4 H locs ls z  hG hl hM
    unfold B_X6_refuseOrder_16 at hM
    refine lv_iload hx hb dX6_refuseOrder_16 (lv_at hl 3 rfl) ?_
    refine lv_if_le (tgt := 67) hx hb dX6_refuseOrder_18 (by decide) (fun c16 => ?_) (fun c16 => ?_)
    · have hM := b_if hM c16
      refine lv_aload_n hx hb dX6_refuseOrder_67 rfl (lv_at hl 0 rfl) ?_
      refine gt_6_0 X.1 hG hL mw56 dX6_refuseOrder_68 ?_
      refine lv_iconst (v := (0 : Int32)) hx hb dX6_refuseOrder_71 (by decide) ?_
      refine lv_bipush (v := (12 : Int32)) hx hb dX6_refuseOrder_72 (by decide) ?_
      refine g_callSN_v (nA := 3) (o := M_X10_put σ (k + 1) (0 : Int32) (12 : Int32)) (As := [.ref (E.1 (k + 1)), .int (0 : Int32), .int (12 : Int32)]) X.1 hG (fun _ _ h => C_X10_put l E h (lf_6_0 hL)) mw430 mw431 mw12 (gw_ok mw432 rfl) (by decide +kernel) rfl ⟨Nat.le_of_ble_eq_true rfl, Nat.le_of_ble_eq_true rfl⟩ hl.1 rfl (Nat.le_of_ble_eq_true rfl) ⟨Nat.le_refl _, Nat.le_refl _⟩ dX6_refuseOrder_74 hM (fun σ1 r2 H locs hG hM => ?_)
      refine lv_aload_n hx hb dX6_refuseOrder_77 rfl (lv_at hl 0 rfl) ?_
      refine gt_6_1 X.1 hG hL mw57 dX6_refuseOrder_78 ?_
      refine lv_iconst (v := (0 : Int32)) hx hb dX6_refuseOrder_81 (by decide) ?_
      refine lv_iload_n hx hb dX6_refuseOrder_82 rfl (lv_at hl 1 rfl) ?_
      refine g_callSN_v (nA := 3) (o := M_X10_put σ1 (k + 2) (0 : Int32) x1) (As := [.ref (E.1 (k + 2)), .int (0 : Int32), .int x1]) X.1 hG (fun _ _ h => C_X10_put l E h (lf_6_1 hL)) mw430 mw431 mw12 (gw_ok mw432 rfl) (by decide +kernel) rfl ⟨Nat.le_of_ble_eq_true rfl, Nat.le_of_ble_eq_true rfl⟩ hl.1 rfl (Nat.le_of_ble_eq_true rfl) ⟨Nat.le_refl _, Nat.le_refl _⟩ dX6_refuseOrder_83 hM (fun σ3 r4 H locs hG hM => ?_)
      refine lv_aload_n hx hb dX6_refuseOrder_86 rfl (lv_at hl 0 rfl) ?_
      refine lv_iload_n hx hb dX6_refuseOrder_87 rfl (lv_at hl 2 rfl) ?_
      refine lv_iconst (v := (1 : Int32)) hx hb dX6_refuseOrder_88 (by decide) ?_
      refine lv_iadd hx hb dX6_refuseOrder_89 ?_
      refine lv_iconst (v := (3 : Int32)) hx hb dX6_refuseOrder_90 (by decide) ?_
      refine g_min X.1 hl.1 mw859 (Nat.le_of_ble_eq_true rfl) (Nat.le_of_ble_eq_true rfl) (Nat.le_of_ble_eq_true rfl) (Nat.le_of_ble_eq_true rfl) dX6_refuseOrder_91 hM (fun v5 hM => ?_)
      refine pt_6_2 X.1 hG hL mw58 dX6_refuseOrder_94 hM (fun σ6 H locs hG hM => ?_)
      refine lv_bipush (v := (-3 : Int32)) hx hb dX6_refuseOrder_97 (by decide) ?_
      exact e_iret X hG dX6_refuseOrder_99 hM
    · have hM := b_else hM c16
      refine lv_aload_n hx hb dX6_refuseOrder_21 rfl (lv_at hl 0 rfl) ?_
      refine gt_6_0 X.1 hG hL mw56 dX6_refuseOrder_22 ?_
      refine lv_iload hx hb dX6_refuseOrder_25 (lv_at hl 3 rfl) ?_
      refine lv_aload_n hx hb dX6_refuseOrder_27 rfl (lv_at hl 0 rfl) ?_
      refine gt_6_0 X.1 hG hL mw56 dX6_refuseOrder_28 ?_
      refine lv_iload hx hb dX6_refuseOrder_31 (lv_at hl 3 rfl) ?_
      refine lv_iconst (v := (1 : Int32)) hx hb dX6_refuseOrder_33 (by decide) ?_
      refine lv_isub hx hb dX6_refuseOrder_34 ?_
      refine g_callSN_i (nA := 2) (o := M_X10_at σ (k + 1) (x4 - (1 : Int32))) (As := [.ref (E.1 (k + 1)), .int (x4 - (1 : Int32))]) X.1 hG (fun _ _ h => C_X10_at l E h (lf_6_0 hL)) mw858 mw477 mw12 (gw_ok mw478 rfl) (by decide +kernel) rfl ⟨Nat.le_of_ble_eq_true rfl, Nat.le_of_ble_eq_true rfl⟩ hl.1 rfl (Nat.le_of_ble_eq_true rfl) ⟨Nat.le_refl _, Nat.le_refl _⟩ dX6_refuseOrder_35 hM (fun σ7 r8 H locs hG hM => ?_)
      refine g_callSN_v (nA := 3) (o := M_X10_put σ7 (k + 1) x4 r8) (As := [.ref (E.1 (k + 1)), .int x4, .int r8]) X.1 hG (fun _ _ h => C_X10_put l E h (lf_6_0 hL)) mw430 mw431 mw12 (gw_ok mw432 rfl) (by decide +kernel) rfl ⟨Nat.le_of_ble_eq_true rfl, Nat.le_of_ble_eq_true rfl⟩ hl.1 rfl (Nat.le_of_ble_eq_true rfl) ⟨Nat.le_refl _, Nat.le_refl _⟩ dX6_refuseOrder_38 hM (fun σ9 r10 H locs hG hM => ?_)
      refine lv_aload_n hx hb dX6_refuseOrder_41 rfl (lv_at hl 0 rfl) ?_
      refine gt_6_1 X.1 hG hL mw57 dX6_refuseOrder_42 ?_
      refine lv_iload hx hb dX6_refuseOrder_45 (lv_at hl 3 rfl) ?_
      refine lv_aload_n hx hb dX6_refuseOrder_47 rfl (lv_at hl 0 rfl) ?_
      refine gt_6_1 X.1 hG hL mw57 dX6_refuseOrder_48 ?_
      refine lv_iload hx hb dX6_refuseOrder_51 (lv_at hl 3 rfl) ?_
      refine lv_iconst (v := (1 : Int32)) hx hb dX6_refuseOrder_53 (by decide) ?_
      refine lv_isub hx hb dX6_refuseOrder_54 ?_
      refine g_callSN_i (nA := 2) (o := M_X10_at σ9 (k + 2) (x4 - (1 : Int32))) (As := [.ref (E.1 (k + 2)), .int (x4 - (1 : Int32))]) X.1 hG (fun _ _ h => C_X10_at l E h (lf_6_1 hL)) mw858 mw477 mw12 (gw_ok mw478 rfl) (by decide +kernel) rfl ⟨Nat.le_of_ble_eq_true rfl, Nat.le_of_ble_eq_true rfl⟩ hl.1 rfl (Nat.le_of_ble_eq_true rfl) ⟨Nat.le_refl _, Nat.le_refl _⟩ dX6_refuseOrder_55 hM (fun σ11 r12 H locs hG hM => ?_)
      refine g_callSN_v (nA := 3) (o := M_X10_put σ11 (k + 2) x4 r12) (As := [.ref (E.1 (k + 2)), .int x4, .int r12]) X.1 hG (fun _ _ h => C_X10_put l E h (lf_6_1 hL)) mw430 mw431 mw12 (gw_ok mw432 rfl) (by decide +kernel) rfl ⟨Nat.le_of_ble_eq_true rfl, Nat.le_of_ble_eq_true rfl⟩ hl.1 rfl (Nat.le_of_ble_eq_true rfl) ⟨Nat.le_refl _, Nat.le_refl _⟩ dX6_refuseOrder_58 hM (fun σ13 r14 H locs hG hM => ?_)
      obtain ⟨v15, ev15, hM⟩ := g_nm hM
      refine lv_iinc (v := v15) (lv' := [(4, .int v15), (0, .ref (E.1 k)), (1, .int x1), (3, .int x3)]) hx hb dX6_refuseOrder_61 hl (k := 3) rfl (by rw [ev15]; rfl) (by decide) rfl (fun ls hl => ?_)
      refine lv_goto (tgt := 16) hx hb dX6_refuseOrder_64 (by decide) ?_
      exact ih σ13 x1 x3 v15 _ _ _ z hG (lv_sub hl [1, 2, 3, 0] rfl) hM
set_option maxRecDepth 20000 in
set_option maxHeartbeats 4000000 in
theorem w_X6_refuseOrder_12 {p : Program} {l : Launch} {e : Env} {s : State} {m : MethodId} {below : List Frame} {meth : Method} {c : Code} {args : Array Value} {E : Ev} {k : Nat} (X : Bx E p m meth c cX6_refuseOrder 5 (some .int) s args RX6) (hL : lay 6 k) : ∀ (σ : St) (x1 t0 : Int32) (H : Heap) (locs : List Loc) (ls : Array Slot) (z : St × Int32), GS E σ s.heap H locs → lv_has ls 5 [(0, .ref (E.1 k)), (1, .int x1)] → B_X6_refuseOrder_12 σ k x1 t0 = some z → W p l e (rmd 2) s m args below meth c H locs 0 0 (QI E z below args s) (F0 m 12 ls [.int t0]) := by
  have hx := X.1.1.1
  have hb := X.1.1.2.1
  intro σ x1 t0 H locs ls z  hG hl hM
  unfold B_X6_refuseOrder_12 at hM
  refine lv_istore_n (lv' := [(3, .int t0), (0, .ref (E.1 k)), (1, .int x1)]) hx hb dX6_refuseOrder_12 rfl hl (by decide) rfl (fun ls hl => ?_)
  refine lv_iload_n hx hb dX6_refuseOrder_13 rfl (lv_at hl 0 rfl) ?_
  refine lv_istore (lv' := [(4, .int t0), (3, .int t0), (0, .ref (E.1 k)), (1, .int x1)]) hx hb dX6_refuseOrder_14 hl (by decide) rfl (fun ls hl => ?_)
  exact w_X6_refuseOrder_16 X hL FU σ x1 t0 t0 _ _ _ z hG (lv_sub hl [2, 3, 1, 0] rfl) hM
set_option maxRecDepth 20000 in
set_option maxHeartbeats 4000000 in
theorem C_X6_refuseOrder (l : Launch) (E : Ev) {σ σ' : St} {k : Nat} {p0 : Int32} {p1 : Int32} {r : Int32} (h : M_X6_refuseOrder σ k p0 p1 = some (σ', r)) (hL : lay 6 k) : Mi l E yX6_refuseOrder cX6_refuseOrder 5 (some .int) 2 [.ref (E.1 k), .int p0, .int p1] σ σ' r := by
  refine Mi_of (C := RX6) rfl (by decide) (Nat.le_of_ble_eq_true rfl) (z := (σ', r)) (fun p e s m below meth c ls X hG hl => ?_)
  have hx := X.1.1.1
  have hb := X.1.1.2.1
  have hM := h
  unfold M_X6_refuseOrder at hM
  generalize (σ', r) = z at hM ⊢
  have hl : lv_has ls 5 [(0, .ref (E.1 k)), (1, .int p0), (2, .int p1)] := hl
  refine lv_iload_n hx hb dX6_refuseOrder_0 rfl (lv_at hl 2 rfl) ?_
  refine lv_if_eq (tgt := 11) hx hb dX6_refuseOrder_1 (by decide) (fun c17 => ?_) (fun c17 => ?_)
  · have hM := b_if hM c17
    refine lv_iconst (v := (0 : Int32)) hx hb dX6_refuseOrder_11 (by decide) ?_
    exact w_X6_refuseOrder_12 X hL σ p0 (0 : Int32) _ _ _ z hG (lv_sub hl [0, 1] rfl) hM
  · have hM := b_else hM c17
    refine lv_aload_n hx hb dX6_refuseOrder_4 rfl (lv_at hl 0 rfl) ?_
    refine gt_6_2 X.1 hG hL mw58 dX6_refuseOrder_5 ?_
    refine lv_goto (tgt := 12) hx hb dX6_refuseOrder_8 (by decide) ?_
    exact w_X6_refuseOrder_12 X hL σ p0 (σ k 2) _ _ _ z hG (lv_sub hl [0, 1] rfl) hM
def M_X6_tell (σ : St) (k : Nat) (p0 p1 : Int32) : Option (St × Int32) := if 0 ≤ p0 then (if p0 < (σ k 2) then (if p1 = 0 then (bcall (M_X10_at σ (k + 1) p0) fun σ1 r2 => some (σ1, r2)) else (bcall (M_X10_at σ (k + 2) p0) fun σ3 r4 => some (σ3, r4))) else some (σ, (-4 : Int32))) else some (σ, (-2 : Int32))
set_option maxRecDepth 20000 in
set_option maxHeartbeats 4000000 in
theorem C_X6_tell (l : Launch) (E : Ev) {σ σ' : St} {k : Nat} {p0 : Int32} {p1 : Int32} {r : Int32} (h : M_X6_tell σ k p0 p1 = some (σ', r)) (hL : lay 6 k) : Mi l E yX6_tell cX6_tell 3 (some .int) 2 [.ref (E.1 k), .int p0, .int p1] σ σ' r := by
  refine Mi_of (C := RX6) rfl (by decide) (Nat.le_of_ble_eq_true rfl) (z := (σ', r)) (fun p e s m below meth c ls X hG hl => ?_)
  have hx := X.1.1.1
  have hb := X.1.1.2.1
  have hM := h
  unfold M_X6_tell at hM
  generalize (σ', r) = z at hM ⊢
  have hl : lv_has ls 3 [(0, .ref (E.1 k)), (1, .int p0), (2, .int p1)] := hl
  refine lv_iload_n hx hb dX6_tell_0 rfl (lv_at hl 1 rfl) ?_
  refine lv_if_ge (tgt := 7) hx hb dX6_tell_1 (by decide) (fun c7 => ?_) (fun c7 => ?_)
  · have hM := b_if hM c7
    refine lv_iload_n hx hb dX6_tell_7 rfl (lv_at hl 1 rfl) ?_
    refine lv_aload_n hx hb dX6_tell_8 rfl (lv_at hl 0 rfl) ?_
    refine gt_6_2 X.1 hG hL mw58 dX6_tell_9 ?_
    refine lv_icmp_lt (tgt := 18) hx hb dX6_tell_12 (by decide) (fun c6 => ?_) (fun c6 => ?_)
    · have hM := b_if hM c6
      refine lv_iload_n hx hb dX6_tell_18 rfl (lv_at hl 2 rfl) ?_
      refine lv_if_eq (tgt := 29) hx hb dX6_tell_19 (by decide) (fun c5 => ?_) (fun c5 => ?_)
      · have hM := b_if hM c5
        refine lv_aload_n hx hb dX6_tell_29 rfl (lv_at hl 0 rfl) ?_
        refine gt_6_0 X.1 hG hL mw56 dX6_tell_30 ?_
        refine lv_iload_n hx hb dX6_tell_33 rfl (lv_at hl 1 rfl) ?_
        refine g_callSN_i (nA := 2) (o := M_X10_at σ (k + 1) p0) (As := [.ref (E.1 (k + 1)), .int p0]) X.1 hG (fun _ _ h => C_X10_at l E h (lf_6_0 hL)) mw858 mw477 mw12 (gw_ok mw478 rfl) (by decide +kernel) rfl ⟨Nat.le_of_ble_eq_true rfl, Nat.le_of_ble_eq_true rfl⟩ hl.1 rfl (Nat.le_of_ble_eq_true rfl) ⟨Nat.le_refl _, Nat.le_refl _⟩ dX6_tell_34 hM (fun σ1 r2 H locs hG hM => ?_)
        exact e_iret X hG dX6_tell_37 hM
      · have hM := b_else hM c5
        refine lv_aload_n hx hb dX6_tell_22 rfl (lv_at hl 0 rfl) ?_
        refine gt_6_1 X.1 hG hL mw57 dX6_tell_23 ?_
        refine lv_goto (tgt := 33) hx hb dX6_tell_26 (by decide) ?_
        refine lv_iload_n hx hb dX6_tell_33 rfl (lv_at hl 1 rfl) ?_
        refine g_callSN_i (nA := 2) (o := M_X10_at σ (k + 2) p0) (As := [.ref (E.1 (k + 2)), .int p0]) X.1 hG (fun _ _ h => C_X10_at l E h (lf_6_1 hL)) mw858 mw477 mw12 (gw_ok mw478 rfl) (by decide +kernel) rfl ⟨Nat.le_of_ble_eq_true rfl, Nat.le_of_ble_eq_true rfl⟩ hl.1 rfl (Nat.le_of_ble_eq_true rfl) ⟨Nat.le_refl _, Nat.le_refl _⟩ dX6_tell_34 hM (fun σ3 r4 H locs hG hM => ?_)
        exact e_iret X hG dX6_tell_37 hM
    · have hM := b_else hM c6
      refine lv_bipush (v := (-4 : Int32)) hx hb dX6_tell_15 (by decide) ?_
      exact e_iret X hG dX6_tell_17 hM
  · have hM := b_else hM c7
    refine lv_bipush (v := (-2 : Int32)) hx hb dX6_tell_4 (by decide) ?_
    exact e_iret X hG dX6_tell_6 hM
def M_X6_putBehind (σ : St) (k : Nat) (p0 p1 : Int32) : Option (St × Int32) := bcall (M_X10_put σ (k + 1) (σ k 2) p0) fun σ1 r2 => bcall (M_X10_put σ1 (k + 2) (σ1 k 2) p1) fun σ3 r4 => bput σ3 k 2 ((σ3 k 2) + (1 : Int32)) fun σ5 => some (σ5, 0)
set_option maxRecDepth 20000 in
set_option maxHeartbeats 4000000 in
theorem C_X6_putBehind (l : Launch) (E : Ev) {σ σ' : St} {k : Nat} {p0 : Int32} {p1 : Int32} {r : Int32} (h : M_X6_putBehind σ k p0 p1 = some (σ', r)) (hL : lay 6 k) : Mv l E yX6_putBehind cX6_putBehind 3 2 [.ref (E.1 k), .int p0, .int p1] σ σ' := by
  refine Mv_of (C := RX6) rfl (by decide) (Nat.le_of_ble_eq_true rfl) (z := (σ', r)) (fun p e s m below meth c ls X hG hl => ?_)
  have hx := X.1.1.1
  have hb := X.1.1.2.1
  have hM := h
  unfold M_X6_putBehind at hM
  generalize (σ', r) = z at hM ⊢
  have hl : lv_has ls 3 [(0, .ref (E.1 k)), (1, .int p0), (2, .int p1)] := hl
  refine lv_aload_n hx hb dX6_putBehind_0 rfl (lv_at hl 0 rfl) ?_
  refine gt_6_0 X.1 hG hL mw56 dX6_putBehind_1 ?_
  refine lv_aload_n hx hb dX6_putBehind_4 rfl (lv_at hl 0 rfl) ?_
  refine gt_6_2 X.1 hG hL mw58 dX6_putBehind_5 ?_
  refine lv_iload_n hx hb dX6_putBehind_8 rfl (lv_at hl 1 rfl) ?_
  refine g_callSN_v (nA := 3) (o := M_X10_put σ (k + 1) (σ k 2) p0) (As := [.ref (E.1 (k + 1)), .int (σ k 2), .int p0]) X.1 hG (fun _ _ h => C_X10_put l E h (lf_6_0 hL)) mw430 mw431 mw12 (gw_ok mw432 rfl) (by decide +kernel) rfl ⟨Nat.le_of_ble_eq_true rfl, Nat.le_of_ble_eq_true rfl⟩ hl.1 rfl (Nat.le_of_ble_eq_true rfl) ⟨Nat.le_refl _, Nat.le_refl _⟩ dX6_putBehind_9 hM (fun σ1 r2 H locs hG hM => ?_)
  refine lv_aload_n hx hb dX6_putBehind_12 rfl (lv_at hl 0 rfl) ?_
  refine gt_6_1 X.1 hG hL mw57 dX6_putBehind_13 ?_
  refine lv_aload_n hx hb dX6_putBehind_16 rfl (lv_at hl 0 rfl) ?_
  refine gt_6_2 X.1 hG hL mw58 dX6_putBehind_17 ?_
  refine lv_iload_n hx hb dX6_putBehind_20 rfl (lv_at hl 2 rfl) ?_
  refine g_callSN_v (nA := 3) (o := M_X10_put σ1 (k + 2) (σ1 k 2) p1) (As := [.ref (E.1 (k + 2)), .int (σ1 k 2), .int p1]) X.1 hG (fun _ _ h => C_X10_put l E h (lf_6_1 hL)) mw430 mw431 mw12 (gw_ok mw432 rfl) (by decide +kernel) rfl ⟨Nat.le_of_ble_eq_true rfl, Nat.le_of_ble_eq_true rfl⟩ hl.1 rfl (Nat.le_of_ble_eq_true rfl) ⟨Nat.le_refl _, Nat.le_refl _⟩ dX6_putBehind_21 hM (fun σ3 r4 H locs hG hM => ?_)
  refine lv_aload_n hx hb dX6_putBehind_24 rfl (lv_at hl 0 rfl) ?_
  refine lv_dup hx hb dX6_putBehind_25 rfl ?_
  refine gt_6_2 X.1 hG hL mw58 dX6_putBehind_26 ?_
  refine lv_iconst (v := (1 : Int32)) hx hb dX6_putBehind_29 (by decide) ?_
  refine lv_iadd hx hb dX6_putBehind_30 ?_
  refine pt_6_2 X.1 hG hL mw58 dX6_putBehind_31 hM (fun σ5 H locs hG hM => ?_)
  exact e_vret X hG dX6_putBehind_34 hM
def M_X7_makeBare (σ : St) (k : Nat)  : Option (St × Int32) := bcall (M_X0_makeNone σ (k + 1)) fun σ1 r2 => bcall (M_X9_cutTo σ1 (k + 4) (0 : Int32)) fun σ3 r4 => bcall (M_X1_makeNone σ3 (k + 11)) fun σ5 r6 => bcall (M_X3_makeNone σ5 (k + 15)) fun σ7 r8 => bput σ7 k 4 (0 : Int32) fun σ9 => bput σ9 k 5 (0 : Int32) fun σ10 => bput σ10 k 6 (60 : Int32) fun σ11 => bput σ11 k 7 (20 : Int32) fun σ12 => bput σ12 k 8 (0 : Int32) fun σ13 => bput σ13 k 9 (0 : Int32) fun σ14 => bput σ14 k 10 (0 : Int32) fun σ15 => bput σ15 k 11 (0 : Int32) fun σ16 => bput σ16 k 12 (0 : Int32) fun σ17 => bput σ17 k 13 (0 : Int32) fun σ18 => some (σ18, 0)
set_option maxRecDepth 20000 in
set_option maxHeartbeats 4000000 in
theorem C_X7_makeBare (l : Launch) (E : Ev) {σ σ' : St} {k : Nat} {r : Int32} (h : M_X7_makeBare σ k = some (σ', r)) (hL : lay 7 k) : Mv l E yX7_makeBare cX7_makeBare 1 2 [.ref (E.1 k)] σ σ' := by
  refine Mv_of (C := RX7) rfl (by decide) (Nat.le_of_ble_eq_true rfl) (z := (σ', r)) (fun p e s m below meth c ls X hG hl => ?_)
  have hx := X.1.1.1
  have hb := X.1.1.2.1
  have hM := h
  unfold M_X7_makeBare at hM
  generalize (σ', r) = z at hM ⊢
  have hl : lv_has ls 1 [(0, .ref (E.1 k))] := hl
  refine lv_aload_n hx hb dX7_makeBare_0 rfl (lv_at hl 0 rfl) ?_
  refine gt_7_0 X.1 hG hL mw162 dX7_makeBare_1 ?_
  refine g_callV_v (nA := 0) (o := M_X0_makeNone σ (k + 1)) (As := []) X.1 hG (lf_7_0 hL) rfl rfl (fun _ _ h => C_X0_makeNone l E h (lf_7_0 hL)) mw338 mw339 mw340 mw16 (gw_ok mw341 rfl) (by decide +kernel) rfl ⟨Nat.le_of_ble_eq_true rfl, Nat.le_of_ble_eq_true rfl⟩ hl.1 rfl (Nat.le_of_ble_eq_true rfl) ⟨Nat.le_refl _, Nat.le_refl _⟩ dX7_makeBare_4 hM (fun σ1 r2 H locs hG hM => ?_)
  refine lv_aload_n hx hb dX7_makeBare_7 rfl (lv_at hl 0 rfl) ?_
  refine gt_7_1 X.1 hG hL mw165 dX7_makeBare_8 ?_
  refine lv_iconst (v := (0 : Int32)) hx hb dX7_makeBare_11 (by decide) ?_
  refine g_callV_v (nA := 1) (o := M_X9_cutTo σ1 (k + 4) (0 : Int32)) (As := [.int (0 : Int32)]) X.1 hG (lf_7_1 hL) rfl rfl (fun _ _ h => C_X9_cutTo l E h (lf_7_1 hL)) mw342 mw343 mw344 mw17 (gw_ok mw345 rfl) (by decide +kernel) rfl ⟨Nat.le_of_ble_eq_true rfl, Nat.le_of_ble_eq_true rfl⟩ hl.1 rfl (Nat.le_of_ble_eq_true rfl) ⟨Nat.le_refl _, Nat.le_refl _⟩ dX7_makeBare_12 hM (fun σ3 r4 H locs hG hM => ?_)
  refine lv_aload_n hx hb dX7_makeBare_15 rfl (lv_at hl 0 rfl) ?_
  refine gt_7_2 X.1 hG hL mw168 dX7_makeBare_16 ?_
  refine g_callV_v (nA := 0) (o := M_X1_makeNone σ3 (k + 11)) (As := []) X.1 hG (lf_7_2 hL) rfl rfl (fun _ _ h => C_X1_makeNone l E h (lf_7_2 hL)) mw352 mw353 mw354 mw18 (gw_ok mw355 rfl) (by decide +kernel) rfl ⟨Nat.le_of_ble_eq_true rfl, Nat.le_of_ble_eq_true rfl⟩ hl.1 rfl (Nat.le_of_ble_eq_true rfl) ⟨Nat.le_refl _, Nat.le_refl _⟩ dX7_makeBare_19 hM (fun σ5 r6 H locs hG hM => ?_)
  refine lv_aload_n hx hb dX7_makeBare_22 rfl (lv_at hl 0 rfl) ?_
  refine gt_7_3 X.1 hG hL mw171 dX7_makeBare_23 ?_
  refine g_callV_v (nA := 0) (o := M_X3_makeNone σ5 (k + 15)) (As := []) X.1 hG (lf_7_3 hL) rfl rfl (fun _ _ h => C_X3_makeNone l E h (lf_7_3 hL)) mw356 mw357 mw358 mw19 (gw_ok mw359 rfl) (by decide +kernel) rfl ⟨Nat.le_of_ble_eq_true rfl, Nat.le_of_ble_eq_true rfl⟩ hl.1 rfl (Nat.le_of_ble_eq_true rfl) ⟨Nat.le_refl _, Nat.le_refl _⟩ dX7_makeBare_26 hM (fun σ7 r8 H locs hG hM => ?_)
  refine lv_aload_n hx hb dX7_makeBare_29 rfl (lv_at hl 0 rfl) ?_
  refine lv_iconst (v := (0 : Int32)) hx hb dX7_makeBare_30 (by decide) ?_
  refine pt_7_4 X.1 hG hL mw174 dX7_makeBare_31 hM (fun σ9 H locs hG hM => ?_)
  refine lv_aload_n hx hb dX7_makeBare_34 rfl (lv_at hl 0 rfl) ?_
  refine lv_iconst (v := (0 : Int32)) hx hb dX7_makeBare_35 (by decide) ?_
  refine pt_7_5 X.1 hG hL mw176 dX7_makeBare_36 hM (fun σ10 H locs hG hM => ?_)
  refine lv_aload_n hx hb dX7_makeBare_39 rfl (lv_at hl 0 rfl) ?_
  refine lv_bipush (v := (60 : Int32)) hx hb dX7_makeBare_40 (by decide) ?_
  refine pt_7_6 X.1 hG hL mw179 dX7_makeBare_42 hM (fun σ11 H locs hG hM => ?_)
  refine lv_aload_n hx hb dX7_makeBare_45 rfl (lv_at hl 0 rfl) ?_
  refine lv_bipush (v := (20 : Int32)) hx hb dX7_makeBare_46 (by decide) ?_
  refine pt_7_7 X.1 hG hL mw182 dX7_makeBare_48 hM (fun σ12 H locs hG hM => ?_)
  refine lv_aload_n hx hb dX7_makeBare_51 rfl (lv_at hl 0 rfl) ?_
  refine lv_iconst (v := (0 : Int32)) hx hb dX7_makeBare_52 (by decide) ?_
  refine pt_7_8 X.1 hG hL mw185 dX7_makeBare_53 hM (fun σ13 H locs hG hM => ?_)
  refine lv_aload_n hx hb dX7_makeBare_56 rfl (lv_at hl 0 rfl) ?_
  refine lv_iconst (v := (0 : Int32)) hx hb dX7_makeBare_57 (by decide) ?_
  refine pt_7_9 X.1 hG hL mw188 dX7_makeBare_58 hM (fun σ14 H locs hG hM => ?_)
  refine lv_aload_n hx hb dX7_makeBare_61 rfl (lv_at hl 0 rfl) ?_
  refine lv_iconst (v := (0 : Int32)) hx hb dX7_makeBare_62 (by decide) ?_
  refine pt_7_10 X.1 hG hL mw191 dX7_makeBare_63 hM (fun σ15 H locs hG hM => ?_)
  refine lv_aload_n hx hb dX7_makeBare_66 rfl (lv_at hl 0 rfl) ?_
  refine lv_iconst (v := (0 : Int32)) hx hb dX7_makeBare_67 (by decide) ?_
  refine pt_7_11 X.1 hG hL mw193 dX7_makeBare_68 hM (fun σ16 H locs hG hM => ?_)
  refine lv_aload_n hx hb dX7_makeBare_71 rfl (lv_at hl 0 rfl) ?_
  refine lv_iconst (v := (0 : Int32)) hx hb dX7_makeBare_72 (by decide) ?_
  refine pt_7_12 X.1 hG hL mw195 dX7_makeBare_73 hM (fun σ17 H locs hG hM => ?_)
  refine lv_aload_n hx hb dX7_makeBare_76 rfl (lv_at hl 0 rfl) ?_
  refine lv_iconst (v := (0 : Int32)) hx hb dX7_makeBare_77 (by decide) ?_
  refine pt_7_13 X.1 hG hL mw198 dX7_makeBare_78 hM (fun σ18 H locs hG hM => ?_)
  exact e_vret X hG dX7_makeBare_81 hM
def M_X8_addStrips (σ : St) (k : Nat) (p0 : Int32) : Option (St × Int32) := bcall (M_X10_isWithin σ p0 (1 : Int32) (99 : Int32)) fun σ1 r2 => if r2 = 0 then some (σ1, (-2 : Int32)) else (blet (imin ((σ1 (k + 4) 6) + p0) (200 : Int32)) fun v3 => bput σ1 (k + 4) 6 v3 fun σ4 => some (σ4, σ4 (k + 4) 6))
set_option maxRecDepth 20000 in
set_option maxHeartbeats 4000000 in
theorem C_X8_addStrips (l : Launch) (E : Ev) {σ σ' : St} {k : Nat} {p0 : Int32} {r : Int32} (h : M_X8_addStrips σ k p0 = some (σ', r)) (hL : lay 8 k) : Mi l E yX8_addStrips cX8_addStrips 2 (some .int) 2 [.ref (E.1 k), .int p0] σ σ' r := by
  refine Mi_of (C := RX8) rfl (by decide) (Nat.le_of_ble_eq_true rfl) (z := (σ', r)) (fun p e s m below meth c ls X hG hl => ?_)
  have hx := X.1.1.1
  have hb := X.1.1.2.1
  have hM := h
  unfold M_X8_addStrips at hM
  generalize (σ', r) = z at hM ⊢
  have hl : lv_has ls 2 [(0, .ref (E.1 k)), (1, .int p0)] := hl
  refine lv_iload_n hx hb dX8_addStrips_0 rfl (lv_at hl 1 rfl) ?_
  refine lv_iconst (v := (1 : Int32)) hx hb dX8_addStrips_1 (by decide) ?_
  refine lv_bipush (v := (99 : Int32)) hx hb dX8_addStrips_2 (by decide) ?_
  refine g_callSN_i (nA := 3) (o := M_X10_isWithin σ p0 (1 : Int32) (99 : Int32)) (As := [.int p0, .int (1 : Int32), .int (99 : Int32)]) X.1 hG (fun _ _ h => C_X10_isWithin l E h ) mw421 mw369 mw12 (gw_ok mw370 rfl) (by decide +kernel) rfl ⟨Nat.le_of_ble_eq_true rfl, Nat.le_of_ble_eq_true rfl⟩ hl.1 rfl (Nat.le_of_ble_eq_true rfl) ⟨Nat.le_refl _, Nat.le_refl _⟩ dX8_addStrips_4 hM (fun σ1 r2 H locs hG hM => ?_)
  refine lv_if_ne (tgt := 13) hx hb dX8_addStrips_7 (by decide) (fun c5 => ?_) (fun c5 => ?_)
  · have hM := b_else hM c5
    refine lv_aload_n hx hb dX8_addStrips_13 rfl (lv_at hl 0 rfl) ?_
    refine gt_8_1 X.1 hG hL mw232 dX8_addStrips_14 ?_
    refine lv_aload_n hx hb dX8_addStrips_17 rfl (lv_at hl 0 rfl) ?_
    refine gt_8_1 X.1 hG hL mw232 dX8_addStrips_18 ?_
    refine gtN_7_6 X.1 hG (lf_8_1 hL) mw180 dX8_addStrips_21 ?_
    refine lv_iload_n hx hb dX8_addStrips_24 rfl (lv_at hl 1 rfl) ?_
    refine lv_iadd hx hb dX8_addStrips_25 ?_
    refine lv_sipush (v := (200 : Int32)) hx hb dX8_addStrips_26 (by decide) ?_
    refine g_min X.1 hl.1 mw455 (Nat.le_of_ble_eq_true rfl) (Nat.le_of_ble_eq_true rfl) (Nat.le_of_ble_eq_true rfl) (Nat.le_of_ble_eq_true rfl) dX8_addStrips_29 hM (fun v3 hM => ?_)
    refine ptN_7_6 X.1 hG (lf_8_1 hL) mw180 dX8_addStrips_32 hM (fun σ4 H locs hG hM => ?_)
    refine lv_aload_n hx hb dX8_addStrips_35 rfl (lv_at hl 0 rfl) ?_
    refine gt_8_1 X.1 hG hL mw232 dX8_addStrips_36 ?_
    refine gtN_7_6 X.1 hG (lf_8_1 hL) mw180 dX8_addStrips_39 ?_
    exact e_iret X hG dX8_addStrips_42 hM
  · have hM := b_if hM c5
    refine lv_bipush (v := (-2 : Int32)) hx hb dX8_addStrips_10 (by decide) ?_
    exact e_iret X hG dX8_addStrips_12 hM
