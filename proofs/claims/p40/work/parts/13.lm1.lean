def B_L_asks_332  : Nat → St → Nat → Int64 → Int32 → Option (St × Int64)
  | 0, _, _, _, _ => none
  | n + 1, σ, a0, x1, x4 => if (11 : Int32) ≤ x4 then (bcall (M_X10_weakest σ a0) fun σ18 r19 => bcall (M_X10_highest σ18 a0) fun σ20 r21 => bcall (M_X10_work σ20 a0 (1 : Int32)) fun σ22 r23 => bcall (M_X10_work σ22 a0 (0 : Int32)) fun σ24 r25 => some (σ24, ((31 : Int64) * (((31 : Int64) * (((31 : Int64) * (((31 : Int64) * x1) + (r19.toInt64))) + (r21.toInt64))) + (r23.toInt64))) + (r25.toInt64))) else (bcall (M_X10_wouldFall σ a0 x4) fun σ26 r27 => bletL (((31 : Int64) * x1) + (r27.toInt64)) fun v28 => blet (x4 + (1 : Int32)) fun v29 => B_L_asks_332 n σ26 a0 v28 v29)
def B_L_asks_302  : Nat → St → Nat → Int64 → Int32 → Int32 → Option (St × Int64)
  | 0, _, _, _, _, _ => none
  | n + 1, σ, a0, x1, x3, x4 => if x3 ≤ x4 then (B_L_asks_332 FU σ a0 x1 (8 : Int32)) else (bcall (M_X10_written σ a0 x4) fun σ31 r32 => bletL (((31 : Int64) * x1) + (r32.toInt64)) fun v33 => blet (x4 + (1 : Int32)) fun v34 => B_L_asks_302 n σ31 a0 v33 x3 v34)
def B_L_asks_261 (K248 : St → Int64 → Int32 → Option (St × Int64)) : Nat → St → Nat → Int64 → Int32 → Int32 → Option (St × Int64)
  | 0, _, _, _, _, _ => none
  | n + 1, σ, a0, x1, x3, x4 => if (3 : Int32) ≤ x4 then (blet (x3 + (1 : Int32)) fun v36 => K248 σ x1 v36) else (bcall (M_X10_inspectorOf σ a0 x3 x4) fun σ37 r38 => bletL (((31 : Int64) * x1) + (r38.toInt64)) fun v39 => blet (x4 + (1 : Int32)) fun v40 => B_L_asks_261 K248 n σ37 a0 v39 x3 v40)
def B_L_asks_248  : Nat → St → Nat → Int64 → Int32 → Option (St × Int64)
  | 0, _, _, _, _ => none
  | n + 1, σ, a0, x1, x3 => bcall (M_X10_account σ a0 (12 : Int32)) fun σ14 r15 => if r15 ≤ x3 then (bcall (M_X10_describe σ14 a0) fun σ16 r17 => B_L_asks_302 FU σ16 a0 x1 r17 (0 : Int32)) else (B_L_asks_261 (fun σ9 y0 y1 => B_L_asks_248 n σ9 a0 y0 y1) FU σ14 a0 x1 x3 (0 : Int32))
def B_L_asks_213 (K200 : St → Int64 → Int32 → Option (St × Int64)) : Nat → St → Nat → Int64 → Int32 → Int32 → Option (St × Int64)
  | 0, _, _, _, _, _ => none
  | n + 1, σ, a0, x1, x3, x4 => if (4 : Int32) ≤ x4 then (blet (x3 + (1 : Int32)) fun v43 => K200 σ x1 v43) else (bcall (M_X10_crewOf σ a0 x3 x4) fun σ44 r45 => bletL (((31 : Int64) * x1) + (r45.toInt64)) fun v46 => blet (x4 + (1 : Int32)) fun v47 => B_L_asks_213 K200 n σ44 a0 v46 x3 v47)
def B_L_asks_200  : Nat → St → Nat → Int64 → Int32 → Option (St × Int64)
  | 0, _, _, _, _ => none
  | n + 1, σ, a0, x1, x3 => bcall (M_X10_account σ a0 (7 : Int32)) fun σ12 r13 => if r13 ≤ x3 then (B_L_asks_248 FU σ12 a0 x1 (0 : Int32)) else (B_L_asks_213 (fun σ9 y0 y1 => B_L_asks_200 n σ9 a0 y0 y1) FU σ12 a0 x1 x3 (0 : Int32))
def B_L_asks_105 (K93 : St → Int64 → Int32 → Option (St × Int64)) : Nat → St → Nat → Int64 → Int32 → Int32 → Option (St × Int64)
  | 0, _, _, _, _, _ => none
  | n + 1, σ, a0, x1, x3, x4 => if (7 : Int32) ≤ x4 then (bcall (M_X10_strength σ a0 x3 (1 : Int32)) fun σ50 r51 => bcall (M_X10_strength σ50 a0 x3 (0 : Int32)) fun σ52 r53 => bcall (M_X10_oldest σ52 a0 x3) fun σ54 r55 => bcall (M_X10_oldIn σ54 a0 x3) fun σ56 r57 => bcall (M_X10_doneIn σ56 a0 x3) fun σ58 r59 => bletL (((31 : Int64) * (((31 : Int64) * (((31 : Int64) * (((31 : Int64) * (((31 : Int64) * x1) + (r51.toInt64))) + (r53.toInt64))) + (r55.toInt64))) + (r57.toInt64))) + (r59.toInt64)) fun v60 => blet (x3 + (1 : Int32)) fun v61 => K93 σ58 v60 v61) else (bcall (M_X10_storeyOf σ a0 x3 x4) fun σ62 r63 => bletL (((31 : Int64) * x1) + (r63.toInt64)) fun v64 => blet (x4 + (1 : Int32)) fun v65 => B_L_asks_105 K93 n σ62 a0 v64 x3 v65)
def B_L_asks_93  : Nat → St → Nat → Int64 → Int32 → Option (St × Int64)
  | 0, _, _, _, _ => none
  | n + 1, σ, a0, x1, x3 => bcall (M_X10_account σ a0 (4 : Int32)) fun σ10 r11 => if r11 ≤ x3 then (B_L_asks_200 FU σ10 a0 x1 (0 : Int32)) else (B_L_asks_105 (fun σ9 y0 y1 => B_L_asks_93 n σ9 a0 y0 y1) FU σ10 a0 x1 x3 (0 : Int32))
def B_L_asks_50  : Nat → St → Nat → Int64 → Int32 → Option (St × Int64)
  | 0, _, _, _, _ => none
  | n + 1, σ, a0, x1, x3 => bcall (M_X10_account σ a0 (2 : Int32)) fun σ8 r9 => if r9 ≤ x3 then (B_L_asks_93 FU σ8 a0 x1 (0 : Int32)) else (bcall (M_X10_bundleOf σ8 a0 x3 (1 : Int32)) fun σ68 r69 => bcall (M_X10_bundleOf σ68 a0 x3 (0 : Int32)) fun σ70 r71 => bletL (((31 : Int64) * (((31 : Int64) * x1) + (r69.toInt64))) + (r71.toInt64)) fun v72 => blet (x3 + (1 : Int32)) fun v73 => B_L_asks_50 n σ70 a0 v72 v73)
def B_L_asks_23  : Nat → St → Nat → Int64 → Int32 → Option (St × Int64)
  | 0, _, _, _, _ => none
  | n + 1, σ, a0, x1, x3 => if (17 : Int32) ≤ x3 then (B_L_asks_50 FU σ a0 x1 (0 : Int32)) else (bcall (M_X10_account σ a0 x3) fun σ75 r76 => bletL (((31 : Int64) * x1) + (r76.toInt64)) fun v77 => blet (x3 + (1 : Int32)) fun v78 => B_L_asks_23 n σ75 a0 v77 v78)
def M_L_asks (σ : St) (a0 : Nat)  : Option (St × Int64) := bcall (M_X10_doneShare σ a0) fun σ1 r2 => bcall (M_X10_meanStrength σ1 a0) fun σ4 r5 => bletL (((31 : Int64) * (dlB r2)) + ((flB r5).toInt64)) fun v7 => B_L_asks_23 FU σ4 a0 v7 (0 : Int32)
set_option maxRecDepth 20000 in
set_option maxHeartbeats 4000000 in
theorem w_L_asks_332 {p : Program} {l : Launch} {e : Env} {s : State} {m : MethodId} {below : List Frame} {meth : Method} {c : Code} {args : Array Value} {E : Ev} {s0 : State} {a0 : Nat} (X : Bx E p m meth c cL_asks 5 (some .long) s args RL) (hs0 : Dr s0 s) (hA0 : lay 10 a0) : ∀ (n : Nat) (σ : St) (x1 : Int64) (x4 : Int32) (H : Heap) (locs : List Loc) (ls : Array Slot) (z : St × Int64), GS E σ s.heap H locs → lv_has ls 5 [(0, .ref (E.1 a0)), (1, .long x1), (4, .int x4)] → B_L_asks_332 n σ a0 x1 x4 = some z → W p l e (rmd 7) s m args below meth c H locs 0 0 (QLD E z below args s0) (F0 m 332 ls []) := by
  have hx := X.1.1.1
  have hb := X.1.1.2.1
  intro n
  induction n with
  | zero => intro σ x1 x4 H locs ls z  hG hl hM; cases hM
  | succ n ih =>
    intro σ x1 x4 H locs ls z  hG hl hM
    unfold B_L_asks_332 at hM
    refine lv_iload hx hb dL_asks_332 (lv_at hl 2 rfl) ?_
    refine lv_bipush (v := (11 : Int32)) hx hb dL_asks_334 (by decide) ?_
    refine lv_icmp_ge (tgt := 359) hx hb dL_asks_336 (by decide) (fun c30 => ?_) (fun c30 => ?_)
    · have hM := b_if hM c30
      refine lv_ldc2 (v := (31 : Int64)) hx hb X.1.1.2.2.2.1 (X.1.1.2.2.2.2 _ (gw_in mw1057 rfl)) dL_asks_359 ?_
      refine lv_ldc2 (v := (31 : Int64)) hx hb X.1.1.2.2.2.1 (X.1.1.2.2.2.2 _ (gw_in mw1057 rfl)) dL_asks_362 ?_
      refine lv_ldc2 (v := (31 : Int64)) hx hb X.1.1.2.2.2.1 (X.1.1.2.2.2.2 _ (gw_in mw1057 rfl)) dL_asks_365 ?_
      refine lv_ldc2 (v := (31 : Int64)) hx hb X.1.1.2.2.2.1 (X.1.1.2.2.2.2 _ (gw_in mw1057 rfl)) dL_asks_368 ?_
      refine lv_lload_n hx hb dL_asks_371 rfl (lv_at hl 1 rfl) ?_
      refine lv_lmul hx hb dL_asks_372 ?_
      refine lv_aload_n hx hb dL_asks_373 rfl (lv_at hl 0 rfl) ?_
      refine g_callV_i (nA := 0) (o := M_X10_weakest σ a0) (As := []) X.1 hG hA0 rfl rfl (fun _ _ h => C_X10_weakest l E h hA0) mw891 mw892 mw893 mw12 (gw_ok mw894 rfl) (by decide +kernel) rfl ⟨Nat.le_of_ble_eq_true rfl, Nat.le_of_ble_eq_true rfl⟩ hl.1 rfl (Nat.le_of_ble_eq_true rfl) ⟨Nat.le_refl _, Nat.le_refl _⟩ dL_asks_374 hM (fun σ18 r19 H locs hG hM => ?_)
      refine lv_i2l hx hb dL_asks_377 rfl ?_
      refine lv_ladd hx hb dL_asks_378 ?_
      refine lv_lmul hx hb dL_asks_379 ?_
      refine lv_aload_n hx hb dL_asks_380 rfl (lv_at hl 0 rfl) ?_
      refine g_callV_i (nA := 0) (o := M_X10_highest σ18 a0) (As := []) X.1 hG hA0 rfl rfl (fun _ _ h => C_X10_highest l E h hA0) mw1103 mw1104 mw1105 mw12 (gw_ok mw1106 rfl) (by decide +kernel) rfl ⟨Nat.le_of_ble_eq_true rfl, Nat.le_of_ble_eq_true rfl⟩ hl.1 rfl (Nat.le_of_ble_eq_true rfl) ⟨Nat.le_refl _, Nat.le_refl _⟩ dL_asks_381 hM (fun σ20 r21 H locs hG hM => ?_)
      refine lv_i2l hx hb dL_asks_384 rfl ?_
      refine lv_ladd hx hb dL_asks_385 ?_
      refine lv_lmul hx hb dL_asks_386 ?_
      refine lv_aload_n hx hb dL_asks_387 rfl (lv_at hl 0 rfl) ?_
      refine lv_iconst (v := (1 : Int32)) hx hb dL_asks_388 (by decide) ?_
      refine g_callV_i (nA := 1) (o := M_X10_work σ20 a0 (1 : Int32)) (As := [.int (1 : Int32)]) X.1 hG hA0 rfl rfl (fun _ _ h => C_X10_work l E h hA0) mw944 mw945 mw946 mw12 (gw_ok mw947 rfl) (by decide +kernel) rfl ⟨Nat.le_of_ble_eq_true rfl, Nat.le_of_ble_eq_true rfl⟩ hl.1 rfl (Nat.le_of_ble_eq_true rfl) ⟨Nat.le_refl _, Nat.le_refl _⟩ dL_asks_389 hM (fun σ22 r23 H locs hG hM => ?_)
      refine lv_i2l hx hb dL_asks_392 rfl ?_
      refine lv_ladd hx hb dL_asks_393 ?_
      refine lv_lmul hx hb dL_asks_394 ?_
      refine lv_aload_n hx hb dL_asks_395 rfl (lv_at hl 0 rfl) ?_
      refine lv_iconst (v := (0 : Int32)) hx hb dL_asks_396 (by decide) ?_
      refine g_callV_i (nA := 1) (o := M_X10_work σ22 a0 (0 : Int32)) (As := [.int (0 : Int32)]) X.1 hG hA0 rfl rfl (fun _ _ h => C_X10_work l E h hA0) mw944 mw945 mw946 mw12 (gw_ok mw947 rfl) (by decide +kernel) rfl ⟨Nat.le_of_ble_eq_true rfl, Nat.le_of_ble_eq_true rfl⟩ hl.1 rfl (Nat.le_of_ble_eq_true rfl) ⟨Nat.le_refl _, Nat.le_refl _⟩ dL_asks_397 hM (fun σ24 r25 H locs hG hM => ?_)
      refine lv_i2l hx hb dL_asks_400 rfl ?_
      refine lv_ladd hx hb dL_asks_401 ?_
      exact e_lretD X hs0 hG dL_asks_402 hM
    · have hM := b_else hM c30
      refine lv_ldc2 (v := (31 : Int64)) hx hb X.1.1.2.2.2.1 (X.1.1.2.2.2.2 _ (gw_in mw1057 rfl)) dL_asks_339 ?_
      refine lv_lload_n hx hb dL_asks_342 rfl (lv_at hl 1 rfl) ?_
      refine lv_lmul hx hb dL_asks_343 ?_
      refine lv_aload_n hx hb dL_asks_344 rfl (lv_at hl 0 rfl) ?_
      refine lv_iload hx hb dL_asks_345 (lv_at hl 2 rfl) ?_
      refine g_callV_i (nA := 1) (o := M_X10_wouldFall σ a0 x4) (As := [.int x4]) X.1 hG hA0 rfl rfl (fun _ _ h => C_X10_wouldFall l E h hA0) mw939 mw940 mw941 mw12 (gw_ok mw942 rfl) (by decide +kernel) rfl ⟨Nat.le_of_ble_eq_true rfl, Nat.le_of_ble_eq_true rfl⟩ hl.1 rfl (Nat.le_of_ble_eq_true rfl) ⟨Nat.le_refl _, Nat.le_refl _⟩ dL_asks_347 hM (fun σ26 r27 H locs hG hM => ?_)
      refine lv_i2l hx hb dL_asks_350 rfl ?_
      refine lv_ladd hx hb dL_asks_351 ?_
      refine g_nameL hM (fun v28 hM => ?_)
      refine lv_lstore_n (lv' := [(1, .long v28), (0, .ref (E.1 a0)), (4, .int x4)]) hx hb dL_asks_352 rfl hl (by decide) rfl (fun ls hl => ?_)
      obtain ⟨v29, ev29, hM⟩ := g_nm hM
      refine lv_iinc (v := v29) (lv' := [(4, .int v29), (1, .long v28), (0, .ref (E.1 a0))]) hx hb dL_asks_353 hl (k := 2) rfl (by rw [ev29]; rfl) (by decide) rfl (fun ls hl => ?_)
      refine lv_goto (tgt := 332) hx hb dL_asks_356 (by decide) ?_
      exact ih σ26 v28 v29 _ _ _ z hG (lv_sub hl [2, 1, 0] rfl) hM
set_option maxRecDepth 20000 in
set_option maxHeartbeats 4000000 in
theorem w_L_asks_302 {p : Program} {l : Launch} {e : Env} {s : State} {m : MethodId} {below : List Frame} {meth : Method} {c : Code} {args : Array Value} {E : Ev} {s0 : State} {a0 : Nat} (X : Bx E p m meth c cL_asks 5 (some .long) s args RL) (hs0 : Dr s0 s) (hA0 : lay 10 a0) : ∀ (n : Nat) (σ : St) (x1 : Int64) (x3 : Int32) (x4 : Int32) (H : Heap) (locs : List Loc) (ls : Array Slot) (z : St × Int64), GS E σ s.heap H locs → lv_has ls 5 [(0, .ref (E.1 a0)), (1, .long x1), (3, .int x3), (4, .int x4)] → B_L_asks_302 n σ a0 x1 x3 x4 = some z → W p l e (rmd 7) s m args below meth c H locs 0 0 (QLD E z below args s0) (F0 m 302 ls []) := by
  have hx := X.1.1.1
  have hb := X.1.1.2.1
  intro n
  induction n with
  | zero => intro σ x1 x3 x4 H locs ls z  hG hl hM; cases hM
  | succ n ih =>
    intro σ x1 x3 x4 H locs ls z  hG hl hM
    unfold B_L_asks_302 at hM
    refine lv_iload hx hb dL_asks_302 (lv_at hl 3 rfl) ?_
    refine lv_iload_n hx hb dL_asks_304 rfl (lv_at hl 2 rfl) ?_
    refine lv_icmp_ge (tgt := 328) hx hb dL_asks_305 (by decide) (fun c35 => ?_) (fun c35 => ?_)
    · have hM := b_if hM c35
      refine lv_bipush (v := (8 : Int32)) hx hb dL_asks_328 (by decide) ?_
      refine lv_istore (lv' := [(4, .int (8 : Int32)), (0, .ref (E.1 a0)), (1, .long x1), (3, .int x3)]) hx hb dL_asks_330 hl (by decide) rfl (fun ls hl => ?_)
      exact w_L_asks_332 X hs0 hA0 FU σ x1 (8 : Int32) _ _ _ z hG (lv_sub hl [1, 2, 0] rfl) hM
    · have hM := b_else hM c35
      refine lv_ldc2 (v := (31 : Int64)) hx hb X.1.1.2.2.2.1 (X.1.1.2.2.2.2 _ (gw_in mw1057 rfl)) dL_asks_308 ?_
      refine lv_lload_n hx hb dL_asks_311 rfl (lv_at hl 1 rfl) ?_
      refine lv_lmul hx hb dL_asks_312 ?_
      refine lv_aload_n hx hb dL_asks_313 rfl (lv_at hl 0 rfl) ?_
      refine lv_iload hx hb dL_asks_314 (lv_at hl 3 rfl) ?_
      refine g_callV_i (nA := 1) (o := M_X10_written σ a0 x4) (As := [.int x4]) X.1 hG hA0 rfl rfl (fun _ _ h => C_X10_written l E h hA0) mw1045 mw1046 mw1047 mw12 (gw_ok mw1048 rfl) (by decide +kernel) rfl ⟨Nat.le_of_ble_eq_true rfl, Nat.le_of_ble_eq_true rfl⟩ hl.1 rfl (Nat.le_of_ble_eq_true rfl) ⟨Nat.le_refl _, Nat.le_refl _⟩ dL_asks_316 hM (fun σ31 r32 H locs hG hM => ?_)
      refine lv_i2l hx hb dL_asks_319 rfl ?_
      refine lv_ladd hx hb dL_asks_320 ?_
      refine g_nameL hM (fun v33 hM => ?_)
      refine lv_lstore_n (lv' := [(1, .long v33), (0, .ref (E.1 a0)), (3, .int x3), (4, .int x4)]) hx hb dL_asks_321 rfl hl (by decide) rfl (fun ls hl => ?_)
      obtain ⟨v34, ev34, hM⟩ := g_nm hM
      refine lv_iinc (v := v34) (lv' := [(4, .int v34), (1, .long v33), (0, .ref (E.1 a0)), (3, .int x3)]) hx hb dL_asks_322 hl (k := 3) rfl (by rw [ev34]; rfl) (by decide) rfl (fun ls hl => ?_)
      refine lv_goto (tgt := 302) hx hb dL_asks_325 (by decide) ?_
      exact ih σ31 v33 x3 v34 _ _ _ z hG (lv_sub hl [2, 1, 3, 0] rfl) hM
set_option maxRecDepth 20000 in
set_option maxHeartbeats 4000000 in
theorem w_L_asks_261 {p : Program} {l : Launch} {e : Env} {s : State} {m : MethodId} {below : List Frame} {meth : Method} {c : Code} {args : Array Value} {E : Ev} {s0 : State} {a0 : Nat} (X : Bx E p m meth c cL_asks 5 (some .long) s args RL) (hs0 : Dr s0 s) (hA0 : lay 10 a0) (K248 : St → Int64 → Int32 → Option (St × Int64)) : ∀ (n : Nat) (σ : St) (x1 : Int64) (x3 : Int32) (x4 : Int32) (H : Heap) (locs : List Loc) (ls : Array Slot) (z : St × Int64) (hK248 : ∀ (σ : St) (x1 : Int64) (x3 : Int32) (H : Heap) (locs : List Loc) (ls : Array Slot), GS E σ s.heap H locs → lv_has ls 5 [(0, .ref (E.1 a0)), (1, .long x1), (3, .int x3)] → K248 σ x1 x3 = some z → W p l e (rmd 7) s m args below meth c H locs 0 0 (QLD E z below args s0) (F0 m 248 ls [])), GS E σ s.heap H locs → lv_has ls 5 [(0, .ref (E.1 a0)), (1, .long x1), (3, .int x3), (4, .int x4)] → B_L_asks_261 K248 n σ a0 x1 x3 x4 = some z → W p l e (rmd 7) s m args below meth c H locs 0 0 (QLD E z below args s0) (F0 m 261 ls []) := by
  have hx := X.1.1.1
  have hb := X.1.1.2.1
  intro n
  induction n with
  | zero => intro σ x1 x3 x4 H locs ls z hK248 hG hl hM; cases hM
  | succ n ih0 =>
    intro σ x1 x3 x4 H locs ls z hK248 hG hl hM
    unfold B_L_asks_261 at hM
    refine lv_iload hx hb dL_asks_261 (lv_at hl 3 rfl) ?_
    refine lv_iconst (v := (3 : Int32)) hx hb dL_asks_263 (by decide) ?_
    refine lv_icmp_ge (tgt := 288) hx hb dL_asks_264 (by decide) (fun c41 => ?_) (fun c41 => ?_)
    · have hM := b_if hM c41
      obtain ⟨v36, ev36, hM⟩ := g_nm hM
      refine lv_iinc (v := v36) (lv' := [(3, .int v36), (0, .ref (E.1 a0)), (1, .long x1), (4, .int x4)]) hx hb dL_asks_288 hl (k := 2) rfl (by rw [ev36]; rfl) (by decide) rfl (fun ls hl => ?_)
      refine lv_goto (tgt := 248) hx hb dL_asks_291 (by decide) ?_
      exact hK248 σ x1 v36 _ _ _ hG (lv_sub hl [1, 2, 0] rfl) hM
    · have hM := b_else hM c41
      refine lv_ldc2 (v := (31 : Int64)) hx hb X.1.1.2.2.2.1 (X.1.1.2.2.2.2 _ (gw_in mw1057 rfl)) dL_asks_267 ?_
      refine lv_lload_n hx hb dL_asks_270 rfl (lv_at hl 1 rfl) ?_
      refine lv_lmul hx hb dL_asks_271 ?_
      refine lv_aload_n hx hb dL_asks_272 rfl (lv_at hl 0 rfl) ?_
      refine lv_iload_n hx hb dL_asks_273 rfl (lv_at hl 2 rfl) ?_
      refine lv_iload hx hb dL_asks_274 (lv_at hl 3 rfl) ?_
      refine g_callV_i (nA := 2) (o := M_X10_inspectorOf σ a0 x3 x4) (As := [.int x3, .int x4]) X.1 hG hA0 rfl rfl (fun _ _ h => C_X10_inspectorOf l E h hA0) mw928 mw929 mw930 mw12 (gw_ok mw931 rfl) (by decide +kernel) rfl ⟨Nat.le_of_ble_eq_true rfl, Nat.le_of_ble_eq_true rfl⟩ hl.1 rfl (Nat.le_of_ble_eq_true rfl) ⟨Nat.le_refl _, Nat.le_refl _⟩ dL_asks_276 hM (fun σ37 r38 H locs hG hM => ?_)
      refine lv_i2l hx hb dL_asks_279 rfl ?_
      refine lv_ladd hx hb dL_asks_280 ?_
      refine g_nameL hM (fun v39 hM => ?_)
      refine lv_lstore_n (lv' := [(1, .long v39), (0, .ref (E.1 a0)), (3, .int x3), (4, .int x4)]) hx hb dL_asks_281 rfl hl (by decide) rfl (fun ls hl => ?_)
      obtain ⟨v40, ev40, hM⟩ := g_nm hM
      refine lv_iinc (v := v40) (lv' := [(4, .int v40), (1, .long v39), (0, .ref (E.1 a0)), (3, .int x3)]) hx hb dL_asks_282 hl (k := 3) rfl (by rw [ev40]; rfl) (by decide) rfl (fun ls hl => ?_)
      refine lv_goto (tgt := 261) hx hb dL_asks_285 (by decide) ?_
      exact ih0 σ37 v39 x3 v40 _ _ _ z hK248 hG (lv_sub hl [2, 1, 3, 0] rfl) hM
set_option maxRecDepth 20000 in
set_option maxHeartbeats 4000000 in
theorem w_L_asks_248 {p : Program} {l : Launch} {e : Env} {s : State} {m : MethodId} {below : List Frame} {meth : Method} {c : Code} {args : Array Value} {E : Ev} {s0 : State} {a0 : Nat} (X : Bx E p m meth c cL_asks 5 (some .long) s args RL) (hs0 : Dr s0 s) (hA0 : lay 10 a0) : ∀ (n : Nat) (σ : St) (x1 : Int64) (x3 : Int32) (H : Heap) (locs : List Loc) (ls : Array Slot) (z : St × Int64), GS E σ s.heap H locs → lv_has ls 5 [(0, .ref (E.1 a0)), (1, .long x1), (3, .int x3)] → B_L_asks_248 n σ a0 x1 x3 = some z → W p l e (rmd 7) s m args below meth c H locs 0 0 (QLD E z below args s0) (F0 m 248 ls []) := by
  have hx := X.1.1.1
  have hb := X.1.1.2.1
  intro n
  induction n with
  | zero => intro σ x1 x3 H locs ls z  hG hl hM; cases hM
  | succ n ih =>
    intro σ x1 x3 H locs ls z  hG hl hM
    unfold B_L_asks_248 at hM
    refine lv_iload_n hx hb dL_asks_248 rfl (lv_at hl 2 rfl) ?_
    refine lv_aload_n hx hb dL_asks_249 rfl (lv_at hl 0 rfl) ?_
    refine lv_bipush (v := (12 : Int32)) hx hb dL_asks_250 (by decide) ?_
    refine g_callV_i (nA := 1) (o := M_X10_account σ a0 (12 : Int32)) (As := [.int (12 : Int32)]) X.1 hG hA0 rfl rfl (fun _ _ h => C_X10_account l E h hA0) mw959 mw960 mw961 mw12 (gw_ok mw962 rfl) (by decide +kernel) rfl ⟨Nat.le_of_ble_eq_true rfl, Nat.le_of_ble_eq_true rfl⟩ hl.1 rfl (Nat.le_of_ble_eq_true rfl) ⟨Nat.le_refl _, Nat.le_refl _⟩ dL_asks_252 hM (fun σ14 r15 H locs hG hM => ?_)
    refine lv_icmp_ge (tgt := 294) hx hb dL_asks_255 (by decide) (fun c42 => ?_) (fun c42 => ?_)
    · have hM := b_if hM c42
      refine lv_aload_n hx hb dL_asks_294 rfl (lv_at hl 0 rfl) ?_
      refine g_callV_i (nA := 0) (o := M_X10_describe σ14 a0) (As := []) X.1 hG hA0 rfl rfl (fun _ _ h => C_X10_describe l E h hA0) mw1026 mw1027 mw1028 mw12 (gw_ok mw1029 rfl) (by decide +kernel) rfl ⟨Nat.le_of_ble_eq_true rfl, Nat.le_of_ble_eq_true rfl⟩ hl.1 rfl (Nat.le_of_ble_eq_true rfl) ⟨Nat.le_refl _, Nat.le_refl _⟩ dL_asks_295 hM (fun σ16 r17 H locs hG hM => ?_)
      refine lv_istore_n (lv' := [(3, .int r17), (0, .ref (E.1 a0)), (1, .long x1)]) hx hb dL_asks_298 rfl hl (by decide) rfl (fun ls hl => ?_)
      refine lv_iconst (v := (0 : Int32)) hx hb dL_asks_299 (by decide) ?_
      refine lv_istore (lv' := [(4, .int (0 : Int32)), (3, .int r17), (0, .ref (E.1 a0)), (1, .long x1)]) hx hb dL_asks_300 hl (by decide) rfl (fun ls hl => ?_)
      exact w_L_asks_302 X hs0 hA0 FU σ16 x1 r17 (0 : Int32) _ _ _ z hG (lv_sub hl [2, 3, 1, 0] rfl) hM
    · have hM := b_else hM c42
      refine lv_iconst (v := (0 : Int32)) hx hb dL_asks_258 (by decide) ?_
      refine lv_istore (lv' := [(4, .int (0 : Int32)), (0, .ref (E.1 a0)), (1, .long x1), (3, .int x3)]) hx hb dL_asks_259 hl (by decide) rfl (fun ls hl => ?_)
      exact w_L_asks_261 X hs0 hA0 (fun σ9 y0 y1 => B_L_asks_248 n σ9 a0 y0 y1) FU σ14 x1 x3 (0 : Int32) _ _ _ z (fun σ9 y0 y1 H9 locs9 ls9 hG9 hl9 hM9 => ih σ9 y0 y1 H9 locs9 ls9 z hG9 hl9 hM9) hG (lv_sub hl [1, 2, 3, 0] rfl) hM
set_option maxRecDepth 20000 in
set_option maxHeartbeats 4000000 in
theorem w_L_asks_213 {p : Program} {l : Launch} {e : Env} {s : State} {m : MethodId} {below : List Frame} {meth : Method} {c : Code} {args : Array Value} {E : Ev} {s0 : State} {a0 : Nat} (X : Bx E p m meth c cL_asks 5 (some .long) s args RL) (hs0 : Dr s0 s) (hA0 : lay 10 a0) (K200 : St → Int64 → Int32 → Option (St × Int64)) : ∀ (n : Nat) (σ : St) (x1 : Int64) (x3 : Int32) (x4 : Int32) (H : Heap) (locs : List Loc) (ls : Array Slot) (z : St × Int64) (hK200 : ∀ (σ : St) (x1 : Int64) (x3 : Int32) (H : Heap) (locs : List Loc) (ls : Array Slot), GS E σ s.heap H locs → lv_has ls 5 [(0, .ref (E.1 a0)), (1, .long x1), (3, .int x3)] → K200 σ x1 x3 = some z → W p l e (rmd 7) s m args below meth c H locs 0 0 (QLD E z below args s0) (F0 m 200 ls [])), GS E σ s.heap H locs → lv_has ls 5 [(0, .ref (E.1 a0)), (1, .long x1), (3, .int x3), (4, .int x4)] → B_L_asks_213 K200 n σ a0 x1 x3 x4 = some z → W p l e (rmd 7) s m args below meth c H locs 0 0 (QLD E z below args s0) (F0 m 213 ls []) := by
  have hx := X.1.1.1
  have hb := X.1.1.2.1
  intro n
  induction n with
  | zero => intro σ x1 x3 x4 H locs ls z hK200 hG hl hM; cases hM
  | succ n ih0 =>
    intro σ x1 x3 x4 H locs ls z hK200 hG hl hM
    unfold B_L_asks_213 at hM
    refine lv_iload hx hb dL_asks_213 (lv_at hl 3 rfl) ?_
    refine lv_iconst (v := (4 : Int32)) hx hb dL_asks_215 (by decide) ?_
    refine lv_icmp_ge (tgt := 240) hx hb dL_asks_216 (by decide) (fun c48 => ?_) (fun c48 => ?_)
    · have hM := b_if hM c48
      obtain ⟨v43, ev43, hM⟩ := g_nm hM
      refine lv_iinc (v := v43) (lv' := [(3, .int v43), (0, .ref (E.1 a0)), (1, .long x1), (4, .int x4)]) hx hb dL_asks_240 hl (k := 2) rfl (by rw [ev43]; rfl) (by decide) rfl (fun ls hl => ?_)
      refine lv_goto (tgt := 200) hx hb dL_asks_243 (by decide) ?_
      exact hK200 σ x1 v43 _ _ _ hG (lv_sub hl [1, 2, 0] rfl) hM
    · have hM := b_else hM c48
      refine lv_ldc2 (v := (31 : Int64)) hx hb X.1.1.2.2.2.1 (X.1.1.2.2.2.2 _ (gw_in mw1057 rfl)) dL_asks_219 ?_
      refine lv_lload_n hx hb dL_asks_222 rfl (lv_at hl 1 rfl) ?_
      refine lv_lmul hx hb dL_asks_223 ?_
      refine lv_aload_n hx hb dL_asks_224 rfl (lv_at hl 0 rfl) ?_
      refine lv_iload_n hx hb dL_asks_225 rfl (lv_at hl 2 rfl) ?_
      refine lv_iload hx hb dL_asks_226 (lv_at hl 3 rfl) ?_
      refine g_callV_i (nA := 2) (o := M_X10_crewOf σ a0 x3 x4) (As := [.int x3, .int x4]) X.1 hG hA0 rfl rfl (fun _ _ h => C_X10_crewOf l E h hA0) mw911 mw912 mw913 mw12 (gw_ok mw914 rfl) (by decide +kernel) rfl ⟨Nat.le_of_ble_eq_true rfl, Nat.le_of_ble_eq_true rfl⟩ hl.1 rfl (Nat.le_of_ble_eq_true rfl) ⟨Nat.le_refl _, Nat.le_refl _⟩ dL_asks_228 hM (fun σ44 r45 H locs hG hM => ?_)
      refine lv_i2l hx hb dL_asks_231 rfl ?_
      refine lv_ladd hx hb dL_asks_232 ?_
      refine g_nameL hM (fun v46 hM => ?_)
      refine lv_lstore_n (lv' := [(1, .long v46), (0, .ref (E.1 a0)), (3, .int x3), (4, .int x4)]) hx hb dL_asks_233 rfl hl (by decide) rfl (fun ls hl => ?_)
      obtain ⟨v47, ev47, hM⟩ := g_nm hM
      refine lv_iinc (v := v47) (lv' := [(4, .int v47), (1, .long v46), (0, .ref (E.1 a0)), (3, .int x3)]) hx hb dL_asks_234 hl (k := 3) rfl (by rw [ev47]; rfl) (by decide) rfl (fun ls hl => ?_)
      refine lv_goto (tgt := 213) hx hb dL_asks_237 (by decide) ?_
      exact ih0 σ44 v46 x3 v47 _ _ _ z hK200 hG (lv_sub hl [2, 1, 3, 0] rfl) hM
set_option maxRecDepth 20000 in
set_option maxHeartbeats 4000000 in
theorem w_L_asks_200 {p : Program} {l : Launch} {e : Env} {s : State} {m : MethodId} {below : List Frame} {meth : Method} {c : Code} {args : Array Value} {E : Ev} {s0 : State} {a0 : Nat} (X : Bx E p m meth c cL_asks 5 (some .long) s args RL) (hs0 : Dr s0 s) (hA0 : lay 10 a0) : ∀ (n : Nat) (σ : St) (x1 : Int64) (x3 : Int32) (H : Heap) (locs : List Loc) (ls : Array Slot) (z : St × Int64), GS E σ s.heap H locs → lv_has ls 5 [(0, .ref (E.1 a0)), (1, .long x1), (3, .int x3)] → B_L_asks_200 n σ a0 x1 x3 = some z → W p l e (rmd 7) s m args below meth c H locs 0 0 (QLD E z below args s0) (F0 m 200 ls []) := by
  have hx := X.1.1.1
  have hb := X.1.1.2.1
  intro n
  induction n with
  | zero => intro σ x1 x3 H locs ls z  hG hl hM; cases hM
  | succ n ih =>
    intro σ x1 x3 H locs ls z  hG hl hM
    unfold B_L_asks_200 at hM
    refine lv_iload_n hx hb dL_asks_200 rfl (lv_at hl 2 rfl) ?_
    refine lv_aload_n hx hb dL_asks_201 rfl (lv_at hl 0 rfl) ?_
    refine lv_bipush (v := (7 : Int32)) hx hb dL_asks_202 (by decide) ?_
    refine g_callV_i (nA := 1) (o := M_X10_account σ a0 (7 : Int32)) (As := [.int (7 : Int32)]) X.1 hG hA0 rfl rfl (fun _ _ h => C_X10_account l E h hA0) mw959 mw960 mw961 mw12 (gw_ok mw962 rfl) (by decide +kernel) rfl ⟨Nat.le_of_ble_eq_true rfl, Nat.le_of_ble_eq_true rfl⟩ hl.1 rfl (Nat.le_of_ble_eq_true rfl) ⟨Nat.le_refl _, Nat.le_refl _⟩ dL_asks_204 hM (fun σ12 r13 H locs hG hM => ?_)
    refine lv_icmp_ge (tgt := 246) hx hb dL_asks_207 (by decide) (fun c49 => ?_) (fun c49 => ?_)
    · have hM := b_if hM c49
      refine lv_iconst (v := (0 : Int32)) hx hb dL_asks_246 (by decide) ?_
      refine lv_istore_n (lv' := [(3, .int (0 : Int32)), (0, .ref (E.1 a0)), (1, .long x1)]) hx hb dL_asks_247 rfl hl (by decide) rfl (fun ls hl => ?_)
      exact w_L_asks_248 X hs0 hA0 FU σ12 x1 (0 : Int32) _ _ _ z hG (lv_sub hl [1, 2, 0] rfl) hM
    · have hM := b_else hM c49
      refine lv_iconst (v := (0 : Int32)) hx hb dL_asks_210 (by decide) ?_
      refine lv_istore (lv' := [(4, .int (0 : Int32)), (0, .ref (E.1 a0)), (1, .long x1), (3, .int x3)]) hx hb dL_asks_211 hl (by decide) rfl (fun ls hl => ?_)
      exact w_L_asks_213 X hs0 hA0 (fun σ9 y0 y1 => B_L_asks_200 n σ9 a0 y0 y1) FU σ12 x1 x3 (0 : Int32) _ _ _ z (fun σ9 y0 y1 H9 locs9 ls9 hG9 hl9 hM9 => ih σ9 y0 y1 H9 locs9 ls9 z hG9 hl9 hM9) hG (lv_sub hl [1, 2, 3, 0] rfl) hM
set_option maxRecDepth 20000 in
set_option maxHeartbeats 4000000 in
theorem w_L_asks_105 {p : Program} {l : Launch} {e : Env} {s : State} {m : MethodId} {below : List Frame} {meth : Method} {c : Code} {args : Array Value} {E : Ev} {s0 : State} {a0 : Nat} (X : Bx E p m meth c cL_asks 5 (some .long) s args RL) (hs0 : Dr s0 s) (hA0 : lay 10 a0) (K93 : St → Int64 → Int32 → Option (St × Int64)) : ∀ (n : Nat) (σ : St) (x1 : Int64) (x3 : Int32) (x4 : Int32) (H : Heap) (locs : List Loc) (ls : Array Slot) (z : St × Int64) (hK93 : ∀ (σ : St) (x1 : Int64) (x3 : Int32) (H : Heap) (locs : List Loc) (ls : Array Slot), GS E σ s.heap H locs → lv_has ls 5 [(0, .ref (E.1 a0)), (1, .long x1), (3, .int x3)] → K93 σ x1 x3 = some z → W p l e (rmd 7) s m args below meth c H locs 0 0 (QLD E z below args s0) (F0 m 93 ls [])), GS E σ s.heap H locs → lv_has ls 5 [(0, .ref (E.1 a0)), (1, .long x1), (3, .int x3), (4, .int x4)] → B_L_asks_105 K93 n σ a0 x1 x3 x4 = some z → W p l e (rmd 7) s m args below meth c H locs 0 0 (QLD E z below args s0) (F0 m 105 ls []) := by
  have hx := X.1.1.1
  have hb := X.1.1.2.1
  intro n
  induction n with
  | zero => intro σ x1 x3 x4 H locs ls z hK93 hG hl hM; cases hM
  | succ n ih0 =>
    intro σ x1 x3 x4 H locs ls z hK93 hG hl hM
    unfold B_L_asks_105 at hM
    refine lv_iload hx hb dL_asks_105 (lv_at hl 3 rfl) ?_
    refine lv_bipush (v := (7 : Int32)) hx hb dL_asks_107 (by decide) ?_
    refine lv_icmp_ge (tgt := 133) hx hb dL_asks_109 (by decide) (fun c66 => ?_) (fun c66 => ?_)
    · have hM := b_if hM c66
      refine lv_ldc2 (v := (31 : Int64)) hx hb X.1.1.2.2.2.1 (X.1.1.2.2.2.2 _ (gw_in mw1057 rfl)) dL_asks_133 ?_
      refine lv_ldc2 (v := (31 : Int64)) hx hb X.1.1.2.2.2.1 (X.1.1.2.2.2.2 _ (gw_in mw1057 rfl)) dL_asks_136 ?_
      refine lv_ldc2 (v := (31 : Int64)) hx hb X.1.1.2.2.2.1 (X.1.1.2.2.2.2 _ (gw_in mw1057 rfl)) dL_asks_139 ?_
      refine lv_ldc2 (v := (31 : Int64)) hx hb X.1.1.2.2.2.1 (X.1.1.2.2.2.2 _ (gw_in mw1057 rfl)) dL_asks_142 ?_
      refine lv_ldc2 (v := (31 : Int64)) hx hb X.1.1.2.2.2.1 (X.1.1.2.2.2.2 _ (gw_in mw1057 rfl)) dL_asks_145 ?_
      refine lv_lload_n hx hb dL_asks_148 rfl (lv_at hl 1 rfl) ?_
      refine lv_lmul hx hb dL_asks_149 ?_
      refine lv_aload_n hx hb dL_asks_150 rfl (lv_at hl 0 rfl) ?_
      refine lv_iload_n hx hb dL_asks_151 rfl (lv_at hl 2 rfl) ?_
      refine lv_iconst (v := (1 : Int32)) hx hb dL_asks_152 (by decide) ?_
      refine g_callV_i16 (nA := 2) (o := M_X10_strength σ a0 x3 (1 : Int32)) (As := [.int x3, .int (1 : Int32)]) X.1 hG hA0 rfl rfl (fun _ _ h => C_X10_strength l E h hA0) mw880 mw881 mw882 mw12 (gw_ok mw883 rfl) (by decide +kernel) rfl ⟨Nat.le_of_ble_eq_true rfl, Nat.le_of_ble_eq_true rfl⟩ hl.1 rfl (Nat.le_of_ble_eq_true rfl) ⟨Nat.le_refl _, Nat.le_refl _⟩ dL_asks_153 hM (fun σ50 r51 H locs hG hM => ?_)
      refine lv_i2l hx hb dL_asks_156 rfl ?_
      refine lv_ladd hx hb dL_asks_157 ?_
      refine lv_lmul hx hb dL_asks_158 ?_
      refine lv_aload_n hx hb dL_asks_159 rfl (lv_at hl 0 rfl) ?_
      refine lv_iload_n hx hb dL_asks_160 rfl (lv_at hl 2 rfl) ?_
      refine lv_iconst (v := (0 : Int32)) hx hb dL_asks_161 (by decide) ?_
      refine g_callV_i (nA := 2) (o := M_X10_strength σ50 a0 x3 (0 : Int32)) (As := [.int x3, .int (0 : Int32)]) X.1 hG hA0 rfl rfl (fun _ _ h => C_X10_strength l E h hA0) mw880 mw881 mw882 mw12 (gw_ok mw883 rfl) (by decide +kernel) rfl ⟨Nat.le_of_ble_eq_true rfl, Nat.le_of_ble_eq_true rfl⟩ hl.1 rfl (Nat.le_of_ble_eq_true rfl) ⟨Nat.le_refl _, Nat.le_refl _⟩ dL_asks_162 hM (fun σ52 r53 H locs hG hM => ?_)
      refine lv_i2l hx hb dL_asks_165 rfl ?_
      refine lv_ladd hx hb dL_asks_166 ?_
      refine lv_lmul hx hb dL_asks_167 ?_
      refine lv_aload_n hx hb dL_asks_168 rfl (lv_at hl 0 rfl) ?_
      refine lv_iload_n hx hb dL_asks_169 rfl (lv_at hl 2 rfl) ?_
      refine g_callV_i (nA := 1) (o := M_X10_oldest σ52 a0 x3) (As := [.int x3]) X.1 hG hA0 rfl rfl (fun _ _ h => C_X10_oldest l E h hA0) mw899 mw900 mw901 mw12 (gw_ok mw902 rfl) (by decide +kernel) rfl ⟨Nat.le_of_ble_eq_true rfl, Nat.le_of_ble_eq_true rfl⟩ hl.1 rfl (Nat.le_of_ble_eq_true rfl) ⟨Nat.le_refl _, Nat.le_refl _⟩ dL_asks_170 hM (fun σ54 r55 H locs hG hM => ?_)
      refine lv_i2l hx hb dL_asks_173 rfl ?_
      refine lv_ladd hx hb dL_asks_174 ?_
      refine lv_lmul hx hb dL_asks_175 ?_
      refine lv_aload_n hx hb dL_asks_176 rfl (lv_at hl 0 rfl) ?_
      refine lv_iload_n hx hb dL_asks_177 rfl (lv_at hl 2 rfl) ?_
      refine g_callV_i (nA := 1) (o := M_X10_oldIn σ54 a0 x3) (As := [.int x3]) X.1 hG hA0 rfl rfl (fun _ _ h => C_X10_oldIn l E h hA0) mw1093 mw1094 mw1095 mw12 (gw_ok mw1096 rfl) (by decide +kernel) rfl ⟨Nat.le_of_ble_eq_true rfl, Nat.le_of_ble_eq_true rfl⟩ hl.1 rfl (Nat.le_of_ble_eq_true rfl) ⟨Nat.le_refl _, Nat.le_refl _⟩ dL_asks_178 hM (fun σ56 r57 H locs hG hM => ?_)
      refine lv_i2l hx hb dL_asks_181 rfl ?_
      refine lv_ladd hx hb dL_asks_182 ?_
      refine lv_lmul hx hb dL_asks_183 ?_
      refine lv_aload_n hx hb dL_asks_184 rfl (lv_at hl 0 rfl) ?_
      refine lv_iload_n hx hb dL_asks_185 rfl (lv_at hl 2 rfl) ?_
      refine g_callV_i (nA := 1) (o := M_X10_doneIn σ56 a0 x3) (As := [.int x3]) X.1 hG hA0 rfl rfl (fun _ _ h => C_X10_doneIn l E h hA0) mw1099 mw1100 mw1101 mw12 (gw_ok mw1102 rfl) (by decide +kernel) rfl ⟨Nat.le_of_ble_eq_true rfl, Nat.le_of_ble_eq_true rfl⟩ hl.1 rfl (Nat.le_of_ble_eq_true rfl) ⟨Nat.le_refl _, Nat.le_refl _⟩ dL_asks_186 hM (fun σ58 r59 H locs hG hM => ?_)
      refine lv_i2l hx hb dL_asks_189 rfl ?_
      refine lv_ladd hx hb dL_asks_190 ?_
      refine g_nameL hM (fun v60 hM => ?_)
      refine lv_lstore_n (lv' := [(1, .long v60), (0, .ref (E.1 a0)), (3, .int x3), (4, .int x4)]) hx hb dL_asks_191 rfl hl (by decide) rfl (fun ls hl => ?_)
      obtain ⟨v61, ev61, hM⟩ := g_nm hM
      refine lv_iinc (v := v61) (lv' := [(3, .int v61), (1, .long v60), (0, .ref (E.1 a0)), (4, .int x4)]) hx hb dL_asks_192 hl (k := 2) rfl (by rw [ev61]; rfl) (by decide) rfl (fun ls hl => ?_)
      refine lv_goto (tgt := 93) hx hb dL_asks_195 (by decide) ?_
      exact hK93 σ58 v60 v61 _ _ _ hG (lv_sub hl [2, 1, 0] rfl) hM
    · have hM := b_else hM c66
      refine lv_ldc2 (v := (31 : Int64)) hx hb X.1.1.2.2.2.1 (X.1.1.2.2.2.2 _ (gw_in mw1057 rfl)) dL_asks_112 ?_
      refine lv_lload_n hx hb dL_asks_115 rfl (lv_at hl 1 rfl) ?_
      refine lv_lmul hx hb dL_asks_116 ?_
      refine lv_aload_n hx hb dL_asks_117 rfl (lv_at hl 0 rfl) ?_
      refine lv_iload_n hx hb dL_asks_118 rfl (lv_at hl 2 rfl) ?_
      refine lv_iload hx hb dL_asks_119 (lv_at hl 3 rfl) ?_
      refine g_callV_i (nA := 2) (o := M_X10_storeyOf σ a0 x3 x4) (As := [.int x3, .int x4]) X.1 hG hA0 rfl rfl (fun _ _ h => C_X10_storeyOf l E h hA0) mw865 mw866 mw867 mw12 (gw_ok mw868 rfl) (by decide +kernel) rfl ⟨Nat.le_of_ble_eq_true rfl, Nat.le_of_ble_eq_true rfl⟩ hl.1 rfl (Nat.le_of_ble_eq_true rfl) ⟨Nat.le_refl _, Nat.le_refl _⟩ dL_asks_121 hM (fun σ62 r63 H locs hG hM => ?_)
      refine lv_i2l hx hb dL_asks_124 rfl ?_
      refine lv_ladd hx hb dL_asks_125 ?_
      refine g_nameL hM (fun v64 hM => ?_)
      refine lv_lstore_n (lv' := [(1, .long v64), (0, .ref (E.1 a0)), (3, .int x3), (4, .int x4)]) hx hb dL_asks_126 rfl hl (by decide) rfl (fun ls hl => ?_)
      obtain ⟨v65, ev65, hM⟩ := g_nm hM
      refine lv_iinc (v := v65) (lv' := [(4, .int v65), (1, .long v64), (0, .ref (E.1 a0)), (3, .int x3)]) hx hb dL_asks_127 hl (k := 3) rfl (by rw [ev65]; rfl) (by decide) rfl (fun ls hl => ?_)
      refine lv_goto (tgt := 105) hx hb dL_asks_130 (by decide) ?_
      exact ih0 σ62 v64 x3 v65 _ _ _ z hK93 hG (lv_sub hl [2, 1, 3, 0] rfl) hM
set_option maxRecDepth 20000 in
set_option maxHeartbeats 4000000 in
theorem w_L_asks_93 {p : Program} {l : Launch} {e : Env} {s : State} {m : MethodId} {below : List Frame} {meth : Method} {c : Code} {args : Array Value} {E : Ev} {s0 : State} {a0 : Nat} (X : Bx E p m meth c cL_asks 5 (some .long) s args RL) (hs0 : Dr s0 s) (hA0 : lay 10 a0) : ∀ (n : Nat) (σ : St) (x1 : Int64) (x3 : Int32) (H : Heap) (locs : List Loc) (ls : Array Slot) (z : St × Int64), GS E σ s.heap H locs → lv_has ls 5 [(0, .ref (E.1 a0)), (1, .long x1), (3, .int x3)] → B_L_asks_93 n σ a0 x1 x3 = some z → W p l e (rmd 7) s m args below meth c H locs 0 0 (QLD E z below args s0) (F0 m 93 ls []) := by
  have hx := X.1.1.1
  have hb := X.1.1.2.1
  intro n
  induction n with
  | zero => intro σ x1 x3 H locs ls z  hG hl hM; cases hM
  | succ n ih =>
    intro σ x1 x3 H locs ls z  hG hl hM
    unfold B_L_asks_93 at hM
    refine lv_iload_n hx hb dL_asks_93 rfl (lv_at hl 2 rfl) ?_
    refine lv_aload_n hx hb dL_asks_94 rfl (lv_at hl 0 rfl) ?_
    refine lv_iconst (v := (4 : Int32)) hx hb dL_asks_95 (by decide) ?_
    refine g_callV_i (nA := 1) (o := M_X10_account σ a0 (4 : Int32)) (As := [.int (4 : Int32)]) X.1 hG hA0 rfl rfl (fun _ _ h => C_X10_account l E h hA0) mw959 mw960 mw961 mw12 (gw_ok mw962 rfl) (by decide +kernel) rfl ⟨Nat.le_of_ble_eq_true rfl, Nat.le_of_ble_eq_true rfl⟩ hl.1 rfl (Nat.le_of_ble_eq_true rfl) ⟨Nat.le_refl _, Nat.le_refl _⟩ dL_asks_96 hM (fun σ10 r11 H locs hG hM => ?_)
    refine lv_icmp_ge (tgt := 198) hx hb dL_asks_99 (by decide) (fun c67 => ?_) (fun c67 => ?_)
    · have hM := b_if hM c67
      refine lv_iconst (v := (0 : Int32)) hx hb dL_asks_198 (by decide) ?_
      refine lv_istore_n (lv' := [(3, .int (0 : Int32)), (0, .ref (E.1 a0)), (1, .long x1)]) hx hb dL_asks_199 rfl hl (by decide) rfl (fun ls hl => ?_)
      exact w_L_asks_200 X hs0 hA0 FU σ10 x1 (0 : Int32) _ _ _ z hG (lv_sub hl [1, 2, 0] rfl) hM
    · have hM := b_else hM c67
      refine lv_iconst (v := (0 : Int32)) hx hb dL_asks_102 (by decide) ?_
      refine lv_istore (lv' := [(4, .int (0 : Int32)), (0, .ref (E.1 a0)), (1, .long x1), (3, .int x3)]) hx hb dL_asks_103 hl (by decide) rfl (fun ls hl => ?_)
      exact w_L_asks_105 X hs0 hA0 (fun σ9 y0 y1 => B_L_asks_93 n σ9 a0 y0 y1) FU σ10 x1 x3 (0 : Int32) _ _ _ z (fun σ9 y0 y1 H9 locs9 ls9 hG9 hl9 hM9 => ih σ9 y0 y1 H9 locs9 ls9 z hG9 hl9 hM9) hG (lv_sub hl [1, 2, 3, 0] rfl) hM
set_option maxRecDepth 20000 in
set_option maxHeartbeats 4000000 in
theorem w_L_asks_50 {p : Program} {l : Launch} {e : Env} {s : State} {m : MethodId} {below : List Frame} {meth : Method} {c : Code} {args : Array Value} {E : Ev} {s0 : State} {a0 : Nat} (X : Bx E p m meth c cL_asks 5 (some .long) s args RL) (hs0 : Dr s0 s) (hA0 : lay 10 a0) : ∀ (n : Nat) (σ : St) (x1 : Int64) (x3 : Int32) (H : Heap) (locs : List Loc) (ls : Array Slot) (z : St × Int64), GS E σ s.heap H locs → lv_has ls 5 [(0, .ref (E.1 a0)), (1, .long x1), (3, .int x3)] → B_L_asks_50 n σ a0 x1 x3 = some z → W p l e (rmd 7) s m args below meth c H locs 0 0 (QLD E z below args s0) (F0 m 50 ls []) := by
  have hx := X.1.1.1
  have hb := X.1.1.2.1
  intro n
  induction n with
  | zero => intro σ x1 x3 H locs ls z  hG hl hM; cases hM
  | succ n ih =>
    intro σ x1 x3 H locs ls z  hG hl hM
    unfold B_L_asks_50 at hM
    refine lv_iload_n hx hb dL_asks_50 rfl (lv_at hl 2 rfl) ?_
    refine lv_aload_n hx hb dL_asks_51 rfl (lv_at hl 0 rfl) ?_
    refine lv_iconst (v := (2 : Int32)) hx hb dL_asks_52 (by decide) ?_
    refine g_callV_i (nA := 1) (o := M_X10_account σ a0 (2 : Int32)) (As := [.int (2 : Int32)]) X.1 hG hA0 rfl rfl (fun _ _ h => C_X10_account l E h hA0) mw959 mw960 mw961 mw12 (gw_ok mw962 rfl) (by decide +kernel) rfl ⟨Nat.le_of_ble_eq_true rfl, Nat.le_of_ble_eq_true rfl⟩ hl.1 rfl (Nat.le_of_ble_eq_true rfl) ⟨Nat.le_refl _, Nat.le_refl _⟩ dL_asks_53 hM (fun σ8 r9 H locs hG hM => ?_)
    refine lv_icmp_ge (tgt := 91) hx hb dL_asks_56 (by decide) (fun c74 => ?_) (fun c74 => ?_)
    · have hM := b_if hM c74
      refine lv_iconst (v := (0 : Int32)) hx hb dL_asks_91 (by decide) ?_
      refine lv_istore_n (lv' := [(3, .int (0 : Int32)), (0, .ref (E.1 a0)), (1, .long x1)]) hx hb dL_asks_92 rfl hl (by decide) rfl (fun ls hl => ?_)
      exact w_L_asks_93 X hs0 hA0 FU σ8 x1 (0 : Int32) _ _ _ z hG (lv_sub hl [1, 2, 0] rfl) hM
    · have hM := b_else hM c74
      refine lv_ldc2 (v := (31 : Int64)) hx hb X.1.1.2.2.2.1 (X.1.1.2.2.2.2 _ (gw_in mw1057 rfl)) dL_asks_59 ?_
      refine lv_ldc2 (v := (31 : Int64)) hx hb X.1.1.2.2.2.1 (X.1.1.2.2.2.2 _ (gw_in mw1057 rfl)) dL_asks_62 ?_
      refine lv_lload_n hx hb dL_asks_65 rfl (lv_at hl 1 rfl) ?_
      refine lv_lmul hx hb dL_asks_66 ?_
      refine lv_aload_n hx hb dL_asks_67 rfl (lv_at hl 0 rfl) ?_
      refine lv_iload_n hx hb dL_asks_68 rfl (lv_at hl 2 rfl) ?_
      refine lv_iconst (v := (1 : Int32)) hx hb dL_asks_69 (by decide) ?_
      refine g_callV_i (nA := 2) (o := M_X10_bundleOf σ8 a0 x3 (1 : Int32)) (As := [.int x3, .int (1 : Int32)]) X.1 hG hA0 rfl rfl (fun _ _ h => C_X10_bundleOf l E h hA0) mw1086 mw1087 mw1088 mw12 (gw_ok mw1089 rfl) (by decide +kernel) rfl ⟨Nat.le_of_ble_eq_true rfl, Nat.le_of_ble_eq_true rfl⟩ hl.1 rfl (Nat.le_of_ble_eq_true rfl) ⟨Nat.le_refl _, Nat.le_refl _⟩ dL_asks_70 hM (fun σ68 r69 H locs hG hM => ?_)
      refine lv_i2l hx hb dL_asks_73 rfl ?_
      refine lv_ladd hx hb dL_asks_74 ?_
      refine lv_lmul hx hb dL_asks_75 ?_
      refine lv_aload_n hx hb dL_asks_76 rfl (lv_at hl 0 rfl) ?_
      refine lv_iload_n hx hb dL_asks_77 rfl (lv_at hl 2 rfl) ?_
      refine lv_iconst (v := (0 : Int32)) hx hb dL_asks_78 (by decide) ?_
      refine g_callV_i (nA := 2) (o := M_X10_bundleOf σ68 a0 x3 (0 : Int32)) (As := [.int x3, .int (0 : Int32)]) X.1 hG hA0 rfl rfl (fun _ _ h => C_X10_bundleOf l E h hA0) mw1086 mw1087 mw1088 mw12 (gw_ok mw1089 rfl) (by decide +kernel) rfl ⟨Nat.le_of_ble_eq_true rfl, Nat.le_of_ble_eq_true rfl⟩ hl.1 rfl (Nat.le_of_ble_eq_true rfl) ⟨Nat.le_refl _, Nat.le_refl _⟩ dL_asks_79 hM (fun σ70 r71 H locs hG hM => ?_)
      refine lv_i2l hx hb dL_asks_82 rfl ?_
      refine lv_ladd hx hb dL_asks_83 ?_
      refine g_nameL hM (fun v72 hM => ?_)
      refine lv_lstore_n (lv' := [(1, .long v72), (0, .ref (E.1 a0)), (3, .int x3)]) hx hb dL_asks_84 rfl hl (by decide) rfl (fun ls hl => ?_)
      obtain ⟨v73, ev73, hM⟩ := g_nm hM
      refine lv_iinc (v := v73) (lv' := [(3, .int v73), (1, .long v72), (0, .ref (E.1 a0))]) hx hb dL_asks_85 hl (k := 2) rfl (by rw [ev73]; rfl) (by decide) rfl (fun ls hl => ?_)
      refine lv_goto (tgt := 50) hx hb dL_asks_88 (by decide) ?_
      exact ih σ70 v72 v73 _ _ _ z hG (lv_sub hl [2, 1, 0] rfl) hM
set_option maxRecDepth 20000 in
set_option maxHeartbeats 4000000 in
theorem w_L_asks_23 {p : Program} {l : Launch} {e : Env} {s : State} {m : MethodId} {below : List Frame} {meth : Method} {c : Code} {args : Array Value} {E : Ev} {s0 : State} {a0 : Nat} (X : Bx E p m meth c cL_asks 5 (some .long) s args RL) (hs0 : Dr s0 s) (hA0 : lay 10 a0) : ∀ (n : Nat) (σ : St) (x1 : Int64) (x3 : Int32) (H : Heap) (locs : List Loc) (ls : Array Slot) (z : St × Int64), GS E σ s.heap H locs → lv_has ls 5 [(0, .ref (E.1 a0)), (1, .long x1), (3, .int x3)] → B_L_asks_23 n σ a0 x1 x3 = some z → W p l e (rmd 7) s m args below meth c H locs 0 0 (QLD E z below args s0) (F0 m 23 ls []) := by
  have hx := X.1.1.1
  have hb := X.1.1.2.1
  intro n
  induction n with
  | zero => intro σ x1 x3 H locs ls z  hG hl hM; cases hM
  | succ n ih =>
    intro σ x1 x3 H locs ls z  hG hl hM
    unfold B_L_asks_23 at hM
    refine lv_iload_n hx hb dL_asks_23 rfl (lv_at hl 2 rfl) ?_
    refine lv_bipush (v := (17 : Int32)) hx hb dL_asks_24 (by decide) ?_
    refine lv_icmp_ge (tgt := 48) hx hb dL_asks_26 (by decide) (fun c79 => ?_) (fun c79 => ?_)
    · have hM := b_if hM c79
      refine lv_iconst (v := (0 : Int32)) hx hb dL_asks_48 (by decide) ?_
      refine lv_istore_n (lv' := [(3, .int (0 : Int32)), (0, .ref (E.1 a0)), (1, .long x1)]) hx hb dL_asks_49 rfl hl (by decide) rfl (fun ls hl => ?_)
      exact w_L_asks_50 X hs0 hA0 FU σ x1 (0 : Int32) _ _ _ z hG (lv_sub hl [1, 2, 0] rfl) hM
    · have hM := b_else hM c79
      refine lv_ldc2 (v := (31 : Int64)) hx hb X.1.1.2.2.2.1 (X.1.1.2.2.2.2 _ (gw_in mw1057 rfl)) dL_asks_29 ?_
      refine lv_lload_n hx hb dL_asks_32 rfl (lv_at hl 1 rfl) ?_
      refine lv_lmul hx hb dL_asks_33 ?_
      refine lv_aload_n hx hb dL_asks_34 rfl (lv_at hl 0 rfl) ?_
      refine lv_iload_n hx hb dL_asks_35 rfl (lv_at hl 2 rfl) ?_
      refine g_callV_i (nA := 1) (o := M_X10_account σ a0 x3) (As := [.int x3]) X.1 hG hA0 rfl rfl (fun _ _ h => C_X10_account l E h hA0) mw959 mw960 mw961 mw12 (gw_ok mw962 rfl) (by decide +kernel) rfl ⟨Nat.le_of_ble_eq_true rfl, Nat.le_of_ble_eq_true rfl⟩ hl.1 rfl (Nat.le_of_ble_eq_true rfl) ⟨Nat.le_refl _, Nat.le_refl _⟩ dL_asks_36 hM (fun σ75 r76 H locs hG hM => ?_)
      refine lv_i2l hx hb dL_asks_39 rfl ?_
      refine lv_ladd hx hb dL_asks_40 ?_
      refine g_nameL hM (fun v77 hM => ?_)
      refine lv_lstore_n (lv' := [(1, .long v77), (0, .ref (E.1 a0)), (3, .int x3)]) hx hb dL_asks_41 rfl hl (by decide) rfl (fun ls hl => ?_)
      obtain ⟨v78, ev78, hM⟩ := g_nm hM
      refine lv_iinc (v := v78) (lv' := [(3, .int v78), (1, .long v77), (0, .ref (E.1 a0))]) hx hb dL_asks_42 hl (k := 2) rfl (by rw [ev78]; rfl) (by decide) rfl (fun ls hl => ?_)
      refine lv_goto (tgt := 23) hx hb dL_asks_45 (by decide) ?_
      exact ih σ75 v77 v78 _ _ _ z hG (lv_sub hl [2, 1, 0] rfl) hM
set_option maxRecDepth 20000 in
set_option maxHeartbeats 4000000 in
theorem C_L_asks (l : Launch) (E : Ev) {σ σ' : St} {a0 : Nat} {r : Int64} (h : M_L_asks σ a0 = some (σ', r)) (hA0 : lay 10 a0) : MlD l E yL_asks cL_asks 5 7 [.ref (E.1 a0)] σ σ' r := by
  refine MlD_of (C := RL) rfl (by decide) (Nat.le_of_ble_eq_true rfl) (z := (σ', r)) (fun p e s0 s m below meth c ls X hs0 hG hl => ?_)
  have hx := X.1.1.1
  have hb := X.1.1.2.1
  have hM := h
  unfold M_L_asks at hM
  generalize (σ', r) = z at hM ⊢
  have hl : lv_has ls 5 [(0, .ref (E.1 a0))] := hl
  refine lv_ldc2 (v := (31 : Int64)) hx hb X.1.1.2.2.2.1 (X.1.1.2.2.2.2 _ (gw_in mw1057 rfl)) dL_asks_0 ?_
  refine lv_aload_n hx hb dL_asks_3 rfl (lv_at hl 0 rfl) ?_
  refine g_callDS X hs0 hG hA0 mw955 ⟨Nat.le_of_ble_eq_true rfl, Nat.le_of_ble_eq_true rfl⟩ hl.1 (Nat.le_of_ble_eq_true rfl) ⟨Nat.le_refl _, Nat.le_refl _⟩ dL_asks_4 hM (fun σ1 r2 s H locs u3 X hs0 hG hau3 hM => ?_)
  have hx := X.1.1.1
  have hb := X.1.1.2.1
  refine g_callS_l (nA := 1) (K := fun σ1 r1 => some (σ1, r1)) (z := (σ1, dlB u3)) (o := some (σ1, dlB u3)) (As := [.double u3]) X.1 hG (fun σ' r h => by cases h; exact C_Jxe99ae_doubleToLongBits_ccdee l E u3) mw1058 mw1059 mw30 (gw_ok mw1060 rfl) (by decide +kernel) rfl ⟨Nat.le_of_ble_eq_true rfl, Nat.le_of_ble_eq_true rfl⟩ hl.1 rfl (Nat.le_of_ble_eq_true rfl) ⟨Nat.le_refl _, Nat.le_refl _⟩ dL_asks_7 rfl (fun σ9 r9 H locs hG9 hM9 => ?_)
  obtain ⟨e91, e92⟩ := Prod.mk.inj (Option.some.inj hM9)
  rw [e91] at hG9
  have hG := hG9
  rw [e92, dlB_alike hau3]
  refine lv_lmul hx hb dL_asks_10 ?_
  refine lv_aload_n hx hb dL_asks_11 rfl (lv_at hl 0 rfl) ?_
  refine g_callMS X hs0 hG hA0 mw1068 ⟨Nat.le_of_ble_eq_true rfl, Nat.le_of_ble_eq_true rfl⟩ hl.1 (Nat.le_of_ble_eq_true rfl) ⟨Nat.le_refl _, Nat.le_refl _⟩ dL_asks_12 hM (fun σ4 r5 s H locs u6 X hs0 hG hau6 hM => ?_)
  have hx := X.1.1.1
  have hb := X.1.1.2.1
  refine g_callS_i (nA := 1) (K := fun σ1 r1 => some (σ1, r1)) (z := (σ4, flB u6)) (o := some (σ4, flB u6)) (As := [.float u6]) X.1 hG (fun σ' r h => by cases h; exact C_Jxf58ca_floatToIntBits_5c35a l E u6) mw1076 mw1077 mw31 (gw_ok mw1078 rfl) (by decide +kernel) rfl ⟨Nat.le_of_ble_eq_true rfl, Nat.le_of_ble_eq_true rfl⟩ hl.1 rfl (Nat.le_of_ble_eq_true rfl) ⟨Nat.le_refl _, Nat.le_refl _⟩ dL_asks_15 rfl (fun σ9 r9 H locs hG9 hM9 => ?_)
  obtain ⟨e91, e92⟩ := Prod.mk.inj (Option.some.inj hM9)
  rw [e91] at hG9
  have hG := hG9
  rw [e92, flB_alike hau6]
  refine lv_i2l hx hb dL_asks_18 rfl ?_
  refine lv_ladd hx hb dL_asks_19 ?_
  refine g_nameL hM (fun v7 hM => ?_)
  refine lv_lstore_n (lv' := [(1, .long v7), (0, .ref (E.1 a0))]) hx hb dL_asks_20 rfl hl (by decide) rfl (fun ls hl => ?_)
  refine lv_iconst (v := (0 : Int32)) hx hb dL_asks_21 (by decide) ?_
  refine lv_istore_n (lv' := [(3, .int (0 : Int32)), (1, .long v7), (0, .ref (E.1 a0))]) hx hb dL_asks_22 rfl hl (by decide) rfl (fun ls hl => ?_)
  exact w_L_asks_23 X hs0 hA0 FU σ4 v7 (0 : Int32) _ _ _ z hG (lv_sub hl [2, 1, 0] rfl) hM
