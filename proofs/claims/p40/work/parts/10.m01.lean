def M_X10_put (σ : St) (a0 : Nat) (p1 p2 : Int32) : Option (St × Int32) := if p1 < 0 then some (σ, 0) else (if (Int32.ofNat (ln a0)) ≤ p1 then some (σ, 0) else (bast σ a0 p1 p2 fun σ1 => some (σ1, 0)))
set_option maxRecDepth 20000 in
set_option maxHeartbeats 4000000 in
theorem C_X10_put (l : Launch) (E : Ev) {σ σ' : St} {a0 : Nat} {p1 : Int32} {p2 : Int32} {r : Int32} (h : M_X10_put σ a0 p1 p2 = some (σ', r)) (hA0 : arr 13 a0) : Mv l E yX10_put cX10_put 3 1 [.ref (E.1 a0), .int p1, .int p2] σ σ' := by
  refine Mv_of (C := RX10) rfl (by decide) (Nat.le_of_ble_eq_true rfl) (z := (σ', r)) (fun p e s m below meth c ls X hG hl => ?_)
  have hx := X.1.1.1
  have hb := X.1.1.2.1
  have hM := h
  unfold M_X10_put at hM
  generalize (σ', r) = z at hM ⊢
  have hl : lv_has ls 3 [(0, .ref (E.1 a0)), (1, .int p1), (2, .int p2)] := hl
  refine lv_iload_n hx hb dX10_put_0 rfl (lv_at hl 1 rfl) ?_
  refine lv_if_lt (tgt := 14) hx hb dX10_put_1 (by decide) (fun c3 => ?_) (fun c3 => ?_)
  · have hM := b_if hM c3
    exact e_vret X hG dX10_put_14 hM
  · have hM := b_else hM c3
    refine lv_iload_n hx hb dX10_put_4 rfl (lv_at hl 1 rfl) ?_
    refine lv_aload_n hx hb dX10_put_5 rfl (lv_at hl 0 rfl) ?_
    refine g_len X.1 hG hA0 dX10_put_6 ?_
    refine lv_icmp_ge (tgt := 14) hx hb dX10_put_7 (by decide) (fun c2 => ?_) (fun c2 => ?_)
    · have hM := b_if hM c2
      exact e_vret X hG dX10_put_14 hM
    · have hM := b_else hM c2
      refine lv_aload_n hx hb dX10_put_10 rfl (lv_at hl 0 rfl) ?_
      refine lv_iload_n hx hb dX10_put_11 rfl (lv_at hl 1 rfl) ?_
      refine lv_iload_n hx hb dX10_put_12 rfl (lv_at hl 2 rfl) ?_
      refine g_ast X.1 hG hA0 dX10_put_13 hM (fun σ1 H locs hG hM => ?_)
      exact e_vret X hG dX10_put_14 hM
def B_X10_sum_4  : Nat → St → Nat → Int32 → Int32 → Int32 → Option (St × Int32)
  | 0, _, _, _, _, _ => none
  | n + 1, σ, a0, x1, x2, x3 => if x1 ≤ x3 then some (σ, x2) else (bcall (M_X10_at σ a0 x3) fun σ1 r2 => blet (x2 + r2) fun v3 => blet (x3 + (1 : Int32)) fun v4 => B_X10_sum_4 n σ1 a0 x1 v3 v4)
def M_X10_sum (σ : St) (a0 : Nat) (p1 : Int32) : Option (St × Int32) := B_X10_sum_4 FU σ a0 p1 (0 : Int32) (0 : Int32)
set_option maxRecDepth 20000 in
set_option maxHeartbeats 4000000 in
theorem w_X10_sum_4 {p : Program} {l : Launch} {e : Env} {s : State} {m : MethodId} {below : List Frame} {meth : Method} {c : Code} {args : Array Value} {E : Ev} {a0 : Nat} (X : Bx E p m meth c cX10_sum 4 (some .int) s args RX10) (hA0 : arr 13 a0) : ∀ (n : Nat) (σ : St) (x1 x2 x3 : Int32) (H : Heap) (locs : List Loc) (ls : Array Slot) (z : St × Int32), GS E σ s.heap H locs → lv_has ls 4 [(0, .ref (E.1 a0)), (1, .int x1), (2, .int x2), (3, .int x3)] → B_X10_sum_4 n σ a0 x1 x2 x3 = some z → W p l e (rmd 2) s m args below meth c H locs 0 0 (QI E z below args s) (F0 m 4 ls []) := by
  have hx := X.1.1.1
  have hb := X.1.1.2.1
  intro n
  induction n with
  | zero => intro σ x1 x2 x3 H locs ls z  hG hl hM; cases hM
  | succ n ih =>
    intro σ x1 x2 x3 H locs ls z  hG hl hM
    unfold B_X10_sum_4 at hM
    refine lv_iload_n hx hb dX10_sum_4 rfl (lv_at hl 3 rfl) ?_
    refine lv_iload_n hx hb dX10_sum_5 rfl (lv_at hl 1 rfl) ?_
    refine lv_icmp_ge (tgt := 23) hx hb dX10_sum_6 (by decide) (fun c5 => ?_) (fun c5 => ?_)
    · have hM := b_if hM c5
      refine lv_iload_n hx hb dX10_sum_23 rfl (lv_at hl 2 rfl) ?_
      exact e_iret X hG dX10_sum_24 hM
    · have hM := b_else hM c5
      refine lv_iload_n hx hb dX10_sum_9 rfl (lv_at hl 2 rfl) ?_
      refine lv_aload_n hx hb dX10_sum_10 rfl (lv_at hl 0 rfl) ?_
      refine lv_iload_n hx hb dX10_sum_11 rfl (lv_at hl 3 rfl) ?_
      refine g_callS_i (nA := 2) (o := M_X10_at σ a0 x3) (As := [.ref (E.1 a0), .int x3]) X.1 hG (fun _ _ h => C_X10_at l E h hA0) mw709 mw477 mw12 (gw_ok mw478 rfl) (by decide +kernel) rfl ⟨Nat.le_of_ble_eq_true rfl, Nat.le_of_ble_eq_true rfl⟩ hl.1 rfl (Nat.le_of_ble_eq_true rfl) ⟨Nat.le_refl _, Nat.le_refl _⟩ dX10_sum_12 hM (fun σ1 r2 H locs hG hM => ?_)
      refine lv_iadd hx hb dX10_sum_15 ?_
      refine g_name hM (fun v3 hM => ?_)
      refine lv_istore_n (lv' := [(2, .int v3), (0, .ref (E.1 a0)), (1, .int x1), (3, .int x3)]) hx hb dX10_sum_16 rfl hl (by decide) rfl (fun ls hl => ?_)
      obtain ⟨v4, ev4, hM⟩ := g_nm hM
      refine lv_iinc (v := v4) (lv' := [(3, .int v4), (2, .int v3), (0, .ref (E.1 a0)), (1, .int x1)]) hx hb dX10_sum_17 hl (k := 3) rfl (by rw [ev4]; rfl) (by decide) rfl (fun ls hl => ?_)
      refine lv_goto (tgt := 4) hx hb dX10_sum_20 (by decide) ?_
      exact ih σ1 x1 v3 v4 _ _ _ z hG (lv_sub hl [2, 3, 1, 0] rfl) hM
set_option maxRecDepth 20000 in
set_option maxHeartbeats 4000000 in
theorem C_X10_sum (l : Launch) (E : Ev) {σ σ' : St} {a0 : Nat} {p1 : Int32} {r : Int32} (h : M_X10_sum σ a0 p1 = some (σ', r)) (hA0 : arr 13 a0) : Mi l E yX10_sum cX10_sum 4 (some .int) 2 [.ref (E.1 a0), .int p1] σ σ' r := by
  refine Mi_of (C := RX10) rfl (by decide) (Nat.le_of_ble_eq_true rfl) (z := (σ', r)) (fun p e s m below meth c ls X hG hl => ?_)
  have hx := X.1.1.1
  have hb := X.1.1.2.1
  have hM := h
  unfold M_X10_sum at hM
  generalize (σ', r) = z at hM ⊢
  have hl : lv_has ls 4 [(0, .ref (E.1 a0)), (1, .int p1)] := hl
  refine lv_iconst (v := (0 : Int32)) hx hb dX10_sum_0 (by decide) ?_
  refine lv_istore_n (lv' := [(2, .int (0 : Int32)), (0, .ref (E.1 a0)), (1, .int p1)]) hx hb dX10_sum_1 rfl hl (by decide) rfl (fun ls hl => ?_)
  refine lv_iconst (v := (0 : Int32)) hx hb dX10_sum_2 (by decide) ?_
  refine lv_istore_n (lv' := [(3, .int (0 : Int32)), (2, .int (0 : Int32)), (0, .ref (E.1 a0)), (1, .int p1)]) hx hb dX10_sum_3 rfl hl (by decide) rfl (fun ls hl => ?_)
  exact w_X10_sum_4 X hA0 FU σ p1 (0 : Int32) (0 : Int32) _ _ _ z hG (lv_sub hl [2, 3, 1, 0] rfl) hM
def M_X10_copy (σ : St) (a0 a1 : Nat)  : Option (St × Int32) := blet (imin (Int32.ofNat (ln a0)) (Int32.ofNat (ln a1))) fun v1 => bcpy σ a0 (0 : Int32) a1 (0 : Int32) v1 fun σ2 => some (σ2, 0)
set_option maxRecDepth 20000 in
set_option maxHeartbeats 4000000 in
theorem C_X10_copy (l : Launch) (E : Ev) {σ σ' : St} {a0 : Nat} {a1 : Nat} {r : Int32} (h : M_X10_copy σ a0 a1 = some (σ', r)) (hA0 : arr 13 a0) (hA1 : arr 13 a1) : Mv l E yX10_copy cX10_copy 2 1 [.ref (E.1 a0), .ref (E.1 a1)] σ σ' := by
  refine Mv_of (C := RX10) rfl (by decide) (Nat.le_of_ble_eq_true rfl) (z := (σ', r)) (fun p e s m below meth c ls X hG hl => ?_)
  have hx := X.1.1.1
  have hb := X.1.1.2.1
  have hM := h
  unfold M_X10_copy at hM
  generalize (σ', r) = z at hM ⊢
  have hl : lv_has ls 2 [(0, .ref (E.1 a0)), (1, .ref (E.1 a1))] := hl
  refine lv_aload_n hx hb dX10_copy_0 rfl (lv_at hl 0 rfl) ?_
  refine lv_iconst (v := (0 : Int32)) hx hb dX10_copy_1 (by decide) ?_
  refine lv_aload_n hx hb dX10_copy_2 rfl (lv_at hl 1 rfl) ?_
  refine lv_iconst (v := (0 : Int32)) hx hb dX10_copy_3 (by decide) ?_
  refine lv_aload_n hx hb dX10_copy_4 rfl (lv_at hl 0 rfl) ?_
  refine g_len X.1 hG hA0 dX10_copy_5 ?_
  refine lv_aload_n hx hb dX10_copy_6 rfl (lv_at hl 1 rfl) ?_
  refine g_len X.1 hG hA1 dX10_copy_7 ?_
  refine g_min X.1 hl.1 mw398 (Nat.le_of_ble_eq_true rfl) (Nat.le_of_ble_eq_true rfl) (Nat.le_of_ble_eq_true rfl) (Nat.le_of_ble_eq_true rfl) dX10_copy_8 hM (fun v1 hM => ?_)
  refine g_copy X.1 hG hl.1 hA0 hA1 mw399 (Nat.le_of_ble_eq_true rfl) (Nat.le_of_ble_eq_true (by decide +kernel)) dX10_copy_11 hM (fun σ2 H locs hG hM => ?_)
  exact e_vret X hG dX10_copy_14 hM
def B_X10_makeOlder_3  : Nat → St → Nat → Int32 → Int32 → Int32 → Int32 → Option (St × Int32)
  | 0, _, _, _, _, _, _ => none
  | n + 1, σ, a0, x1, x2, x3, x4 => if x1 ≤ x4 then some (σ, 0) else (bcall (M_X10_at σ a0 x4) fun σ1 r2 => blet (imin (r2 + x2) x3) fun v3 => bcall (M_X10_put σ1 a0 x4 v3) fun σ4 r5 => blet (x4 + (1 : Int32)) fun v6 => B_X10_makeOlder_3 n σ4 a0 x1 x2 x3 v6)
def M_X10_makeOlder (σ : St) (a0 : Nat) (p1 p2 p3 : Int32) : Option (St × Int32) := B_X10_makeOlder_3 FU σ a0 p1 p2 p3 (0 : Int32)
set_option maxRecDepth 20000 in
set_option maxHeartbeats 4000000 in
theorem w_X10_makeOlder_3 {p : Program} {l : Launch} {e : Env} {s : State} {m : MethodId} {below : List Frame} {meth : Method} {c : Code} {args : Array Value} {E : Ev} {a0 : Nat} (X : Bx E p m meth c cX10_makeOlder 5 none s args RX10) (hA0 : arr 13 a0) : ∀ (n : Nat) (σ : St) (x1 x2 x3 x4 : Int32) (H : Heap) (locs : List Loc) (ls : Array Slot) (z : St × Int32), GS E σ s.heap H locs → lv_has ls 5 [(0, .ref (E.1 a0)), (1, .int x1), (2, .int x2), (3, .int x3), (4, .int x4)] → B_X10_makeOlder_3 n σ a0 x1 x2 x3 x4 = some z → W p l e (rmd 2) s m args below meth c H locs 0 0 (QV E z below args s) (F0 m 3 ls []) := by
  have hx := X.1.1.1
  have hb := X.1.1.2.1
  intro n
  induction n with
  | zero => intro σ x1 x2 x3 x4 H locs ls z  hG hl hM; cases hM
  | succ n ih =>
    intro σ x1 x2 x3 x4 H locs ls z  hG hl hM
    unfold B_X10_makeOlder_3 at hM
    refine lv_iload hx hb dX10_makeOlder_3 (lv_at hl 4 rfl) ?_
    refine lv_iload_n hx hb dX10_makeOlder_5 rfl (lv_at hl 1 rfl) ?_
    refine lv_icmp_ge (tgt := 33) hx hb dX10_makeOlder_6 (by decide) (fun c7 => ?_) (fun c7 => ?_)
    · have hM := b_if hM c7
      exact e_vret X hG dX10_makeOlder_33 hM
    · have hM := b_else hM c7
      refine lv_aload_n hx hb dX10_makeOlder_9 rfl (lv_at hl 0 rfl) ?_
      refine lv_iload hx hb dX10_makeOlder_10 (lv_at hl 4 rfl) ?_
      refine lv_aload_n hx hb dX10_makeOlder_12 rfl (lv_at hl 0 rfl) ?_
      refine lv_iload hx hb dX10_makeOlder_13 (lv_at hl 4 rfl) ?_
      refine g_callS_i (nA := 2) (o := M_X10_at σ a0 x4) (As := [.ref (E.1 a0), .int x4]) X.1 hG (fun _ _ h => C_X10_at l E h hA0) mw709 mw477 mw12 (gw_ok mw478 rfl) (by decide +kernel) rfl ⟨Nat.le_of_ble_eq_true rfl, Nat.le_of_ble_eq_true rfl⟩ hl.1 rfl (Nat.le_of_ble_eq_true rfl) ⟨Nat.le_refl _, Nat.le_refl _⟩ dX10_makeOlder_15 hM (fun σ1 r2 H locs hG hM => ?_)
      refine lv_iload_n hx hb dX10_makeOlder_18 rfl (lv_at hl 2 rfl) ?_
      refine lv_iadd hx hb dX10_makeOlder_19 ?_
      refine lv_iload_n hx hb dX10_makeOlder_20 rfl (lv_at hl 3 rfl) ?_
      refine g_min X.1 hl.1 mw398 (Nat.le_of_ble_eq_true rfl) (Nat.le_of_ble_eq_true rfl) (Nat.le_of_ble_eq_true rfl) (Nat.le_of_ble_eq_true rfl) dX10_makeOlder_21 hM (fun v3 hM => ?_)
      refine g_callS_v (nA := 3) (o := M_X10_put σ1 a0 x4 v3) (As := [.ref (E.1 a0), .int x4, .int v3]) X.1 hG (fun _ _ h => C_X10_put l E h hA0) mw710 mw431 mw12 (gw_ok mw432 rfl) (by decide +kernel) rfl ⟨Nat.le_of_ble_eq_true rfl, Nat.le_of_ble_eq_true rfl⟩ hl.1 rfl (Nat.le_of_ble_eq_true rfl) ⟨Nat.le_refl _, Nat.le_refl _⟩ dX10_makeOlder_24 hM (fun σ4 r5 H locs hG hM => ?_)
      obtain ⟨v6, ev6, hM⟩ := g_nm hM
      refine lv_iinc (v := v6) (lv' := [(4, .int v6), (0, .ref (E.1 a0)), (1, .int x1), (2, .int x2), (3, .int x3)]) hx hb dX10_makeOlder_27 hl (k := 4) rfl (by rw [ev6]; rfl) (by decide) rfl (fun ls hl => ?_)
      refine lv_goto (tgt := 3) hx hb dX10_makeOlder_30 (by decide) ?_
      exact ih σ4 x1 x2 x3 v6 _ _ _ z hG (lv_sub hl [1, 2, 3, 4, 0] rfl) hM
set_option maxRecDepth 20000 in
set_option maxHeartbeats 4000000 in
theorem C_X10_makeOlder (l : Launch) (E : Ev) {σ σ' : St} {a0 : Nat} {p1 : Int32} {p2 : Int32} {p3 : Int32} {r : Int32} (h : M_X10_makeOlder σ a0 p1 p2 p3 = some (σ', r)) (hA0 : arr 13 a0) : Mv l E yX10_makeOlder cX10_makeOlder 5 2 [.ref (E.1 a0), .int p1, .int p2, .int p3] σ σ' := by
  refine Mv_of (C := RX10) rfl (by decide) (Nat.le_of_ble_eq_true rfl) (z := (σ', r)) (fun p e s m below meth c ls X hG hl => ?_)
  have hx := X.1.1.1
  have hb := X.1.1.2.1
  have hM := h
  unfold M_X10_makeOlder at hM
  generalize (σ', r) = z at hM ⊢
  have hl : lv_has ls 5 [(0, .ref (E.1 a0)), (1, .int p1), (2, .int p2), (3, .int p3)] := hl
  refine lv_iconst (v := (0 : Int32)) hx hb dX10_makeOlder_0 (by decide) ?_
  refine lv_istore (lv' := [(4, .int (0 : Int32)), (0, .ref (E.1 a0)), (1, .int p1), (2, .int p2), (3, .int p3)]) hx hb dX10_makeOlder_1 hl (by decide) rfl (fun ls hl => ?_)
  exact w_X10_makeOlder_3 X hA0 FU σ p1 p2 p3 (0 : Int32) _ _ _ z hG (lv_sub hl [1, 2, 3, 4, 0] rfl) hM
def M_J6_bitCount_0f7a4 (σ : St)  (p0 : Int32) : Option (St × Int32) := blet (p0 - (((p0.toUInt32 >>> ((1 : Int32).toUInt32 &&& Int32.toUInt32 31)).toInt32) &&& (1431655765 : Int32))) fun v1 => blet ((v1 &&& (858993459 : Int32)) + (((v1.toUInt32 >>> ((2 : Int32).toUInt32 &&& Int32.toUInt32 31)).toInt32) &&& (858993459 : Int32))) fun v2 => blet ((v2 + ((v2.toUInt32 >>> ((4 : Int32).toUInt32 &&& Int32.toUInt32 31)).toInt32)) &&& (252645135 : Int32)) fun v3 => blet (v3 + ((v3.toUInt32 >>> ((8 : Int32).toUInt32 &&& Int32.toUInt32 31)).toInt32)) fun v4 => blet (v4 + ((v4.toUInt32 >>> ((16 : Int32).toUInt32 &&& Int32.toUInt32 31)).toInt32)) fun v5 => some (σ, v5 &&& (63 : Int32))
set_option maxRecDepth 20000 in
set_option maxHeartbeats 4000000 in
theorem C_J6_bitCount_0f7a4 (l : Launch) (E : Ev) {σ σ' : St} {p0 : Int32} {r : Int32} (h : M_J6_bitCount_0f7a4 σ p0 = some (σ', r)) : Mi l E yJ6_bitCount_0f7a4 cJ6_bitCount_0f7a4 1 (some .int) 1 [.int p0] σ σ' r := by
  refine Mi_of (C := RJ6) rfl (by decide) (Nat.le_of_ble_eq_true rfl) (z := (σ', r)) (fun p e s m below meth c ls X hG hl => ?_)
  have hx := X.1.1.1
  have hb := X.1.1.2.1
  have hM := h
  unfold M_J6_bitCount_0f7a4 at hM
  generalize (σ', r) = z at hM ⊢
  have hl : lv_has ls 1 [(0, .int p0)] := hl
  refine lv_iload_n hx hb dJ6_bitCount_0f7a4_0 rfl (lv_at hl 0 rfl) ?_
  refine lv_iload_n hx hb dJ6_bitCount_0f7a4_1 rfl (lv_at hl 0 rfl) ?_
  refine lv_iconst (v := (1 : Int32)) hx hb dJ6_bitCount_0f7a4_2 (by decide) ?_
  refine lv_iushr hx hb dJ6_bitCount_0f7a4_3 rfl ?_
  refine lv_ldcw hx hb X.1.1.2.2.2.1 (X.1.1.2.2.2.2 _ (gw_in mw566 rfl)) dJ6_bitCount_0f7a4_4 ?_
  refine lv_iand hx hb dJ6_bitCount_0f7a4_7 ?_
  refine lv_isub hx hb dJ6_bitCount_0f7a4_8 ?_
  refine g_name hM (fun v1 hM => ?_)
  refine lv_istore_n (lv' := [(0, .int v1)]) hx hb dJ6_bitCount_0f7a4_9 rfl hl (by decide) rfl (fun ls hl => ?_)
  refine lv_iload_n hx hb dJ6_bitCount_0f7a4_10 rfl (lv_at hl 0 rfl) ?_
  refine lv_ldcw hx hb X.1.1.2.2.2.1 (X.1.1.2.2.2.2 _ (gw_in mw567 rfl)) dJ6_bitCount_0f7a4_11 ?_
  refine lv_iand hx hb dJ6_bitCount_0f7a4_14 ?_
  refine lv_iload_n hx hb dJ6_bitCount_0f7a4_15 rfl (lv_at hl 0 rfl) ?_
  refine lv_iconst (v := (2 : Int32)) hx hb dJ6_bitCount_0f7a4_16 (by decide) ?_
  refine lv_iushr hx hb dJ6_bitCount_0f7a4_17 rfl ?_
  refine lv_ldcw hx hb X.1.1.2.2.2.1 (X.1.1.2.2.2.2 _ (gw_in mw567 rfl)) dJ6_bitCount_0f7a4_18 ?_
  refine lv_iand hx hb dJ6_bitCount_0f7a4_21 ?_
  refine lv_iadd hx hb dJ6_bitCount_0f7a4_22 ?_
  refine g_name hM (fun v2 hM => ?_)
  refine lv_istore_n (lv' := [(0, .int v2)]) hx hb dJ6_bitCount_0f7a4_23 rfl hl (by decide) rfl (fun ls hl => ?_)
  refine lv_iload_n hx hb dJ6_bitCount_0f7a4_24 rfl (lv_at hl 0 rfl) ?_
  refine lv_iload_n hx hb dJ6_bitCount_0f7a4_25 rfl (lv_at hl 0 rfl) ?_
  refine lv_iconst (v := (4 : Int32)) hx hb dJ6_bitCount_0f7a4_26 (by decide) ?_
  refine lv_iushr hx hb dJ6_bitCount_0f7a4_27 rfl ?_
  refine lv_iadd hx hb dJ6_bitCount_0f7a4_28 ?_
  refine lv_ldcw hx hb X.1.1.2.2.2.1 (X.1.1.2.2.2.2 _ (gw_in mw568 rfl)) dJ6_bitCount_0f7a4_29 ?_
  refine lv_iand hx hb dJ6_bitCount_0f7a4_32 ?_
  refine g_name hM (fun v3 hM => ?_)
  refine lv_istore_n (lv' := [(0, .int v3)]) hx hb dJ6_bitCount_0f7a4_33 rfl hl (by decide) rfl (fun ls hl => ?_)
  refine lv_iload_n hx hb dJ6_bitCount_0f7a4_34 rfl (lv_at hl 0 rfl) ?_
  refine lv_iload_n hx hb dJ6_bitCount_0f7a4_35 rfl (lv_at hl 0 rfl) ?_
  refine lv_bipush (v := (8 : Int32)) hx hb dJ6_bitCount_0f7a4_36 (by decide) ?_
  refine lv_iushr hx hb dJ6_bitCount_0f7a4_38 rfl ?_
  refine lv_iadd hx hb dJ6_bitCount_0f7a4_39 ?_
  refine g_name hM (fun v4 hM => ?_)
  refine lv_istore_n (lv' := [(0, .int v4)]) hx hb dJ6_bitCount_0f7a4_40 rfl hl (by decide) rfl (fun ls hl => ?_)
  refine lv_iload_n hx hb dJ6_bitCount_0f7a4_41 rfl (lv_at hl 0 rfl) ?_
  refine lv_iload_n hx hb dJ6_bitCount_0f7a4_42 rfl (lv_at hl 0 rfl) ?_
  refine lv_bipush (v := (16 : Int32)) hx hb dJ6_bitCount_0f7a4_43 (by decide) ?_
  refine lv_iushr hx hb dJ6_bitCount_0f7a4_45 rfl ?_
  refine lv_iadd hx hb dJ6_bitCount_0f7a4_46 ?_
  refine g_name hM (fun v5 hM => ?_)
  refine lv_istore_n (lv' := [(0, .int v5)]) hx hb dJ6_bitCount_0f7a4_47 rfl hl (by decide) rfl (fun ls hl => ?_)
  refine lv_iload_n hx hb dJ6_bitCount_0f7a4_48 rfl (lv_at hl 0 rfl) ?_
  refine lv_bipush (v := (63 : Int32)) hx hb dJ6_bitCount_0f7a4_49 (by decide) ?_
  refine lv_iand hx hb dJ6_bitCount_0f7a4_51 ?_
  exact e_iret X hG dJ6_bitCount_0f7a4_52 hM
def M_J0_isEmpty_aae02 (σ : St) (k : Nat)  : Option (St × Int32) := if (Int32.ofNat (lnS k)) = 0 then some (σ, (1 : Int32)) else some (σ, (0 : Int32))
set_option maxRecDepth 20000 in
set_option maxHeartbeats 4000000 in
theorem C_J0_isEmpty_aae02 (l : Launch) (E : Ev) {σ σ' : St} {k : Nat} {r : Int32} (h : M_J0_isEmpty_aae02 σ k = some (σ', r)) (hL : okS E k) : Mi l E yJ0_isEmpty_aae02 cJ0_isEmpty_aae02 1 (some .boolean) 1 [.ref (eK E k)] σ σ' r := by
  refine Mi_of (C := RJ0) rfl (by decide) (Nat.le_of_ble_eq_true rfl) (z := (σ', r)) (fun p e s m below meth c ls X hG hl => ?_)
  have hx := X.1.1.1
  have hb := X.1.1.2.1
  have hM := h
  unfold M_J0_isEmpty_aae02 at hM
  generalize (σ', r) = z at hM ⊢
  have hl : lv_has ls 1 [(0, .ref (eK E k))] := hl
  refine lv_aload_n hx hb dJ0_isEmpty_aae02_0 rfl (lv_at hl 0 rfl) ?_
  refine g_sval X.1 hG hL mw1317 dJ0_isEmpty_aae02_1 ?_
  refine g_slen X.1 hG hL dJ0_isEmpty_aae02_4 ?_
  refine lv_if_ne (tgt := 12) hx hb dJ0_isEmpty_aae02_5 (by decide) (fun c1 => ?_) (fun c1 => ?_)
  · have hM := b_else hM c1
    refine lv_iconst (v := (0 : Int32)) hx hb dJ0_isEmpty_aae02_12 (by decide) ?_
    exact e_zret X hG (by decide) dJ0_isEmpty_aae02_13 hM
  · have hM := b_if hM c1
    refine lv_iconst (v := (1 : Int32)) hx hb dJ0_isEmpty_aae02_8 (by decide) ?_
    refine lv_goto (tgt := 13) hx hb dJ0_isEmpty_aae02_9 (by decide) ?_
    exact e_zret X hG (by decide) dJ0_isEmpty_aae02_13 hM
def M_J0_coder_7d493 (σ : St) (k : Nat)  : Option (St × Int32) := if (1 : Int32) = 0 then some (σ, (1 : Int32)) else some (σ, (0 : Int32))
set_option maxRecDepth 20000 in
set_option maxHeartbeats 4000000 in
theorem C_J0_coder_7d493 (l : Launch) (E : Ev) {σ σ' : St} {k : Nat} {r : Int32} (h : M_J0_coder_7d493 σ k = some (σ', r)) (hL : okS E k) : Mi l E yJ0_coder_7d493 cJ0_coder_7d493 1 (some .byte) 1 [.ref (eK E k)] σ σ' r := by
  refine Mi_of (C := RJ0) rfl (by decide) (Nat.le_of_ble_eq_true rfl) (z := (σ', r)) (fun p e s m below meth c ls X hG hl => ?_)
  have hx := X.1.1.1
  have hb := X.1.1.2.1
  have hM := h
  unfold M_J0_coder_7d493 at hM
  generalize (σ', r) = z at hM ⊢
  have hl : lv_has ls 1 [(0, .ref (eK E k))] := hl
  refine g_stC X.1 hG mw774 dJ0_coder_7d493_0 ?_
  refine lv_if_eq (tgt := 13) hx hb dJ0_coder_7d493_3 (by decide) (fun c1 => ?_) (fun c1 => ?_)
  · have hM := b_if hM c1
    refine lv_iconst (v := (1 : Int32)) hx hb dJ0_coder_7d493_13 (by decide) ?_
    exact e_zret X hG (by decide) dJ0_coder_7d493_14 hM
  · have hM := b_else hM c1
    refine lv_aload_n hx hb dJ0_coder_7d493_6 rfl (lv_at hl 0 rfl) ?_
    refine g_scod X.1 hG hL mw1318 dJ0_coder_7d493_7 ?_
    refine lv_goto (tgt := 14) hx hb dJ0_coder_7d493_10 (by decide) ?_
    exact e_zret X hG (by decide) dJ0_coder_7d493_14 hM
def M_J0_isLatin1_aae02 (σ : St) (k : Nat)  : Option (St × Int32) := if (1 : Int32) = 0 then some (σ, (0 : Int32)) else (if (0 : Int32) = 0 then some (σ, (1 : Int32)) else some (σ, (0 : Int32)))
set_option maxRecDepth 20000 in
set_option maxHeartbeats 4000000 in
theorem C_J0_isLatin1_aae02 (l : Launch) (E : Ev) {σ σ' : St} {k : Nat} {r : Int32} (h : M_J0_isLatin1_aae02 σ k = some (σ', r)) (hL : okS E k) : Mi l E yJ0_isLatin1_aae02 cJ0_isLatin1_aae02 1 (some .boolean) 1 [.ref (eK E k)] σ σ' r := by
  refine Mi_of (C := RJ0) rfl (by decide) (Nat.le_of_ble_eq_true rfl) (z := (σ', r)) (fun p e s m below meth c ls X hG hl => ?_)
  have hx := X.1.1.1
  have hb := X.1.1.2.1
  have hM := h
  unfold M_J0_isLatin1_aae02 at hM
  generalize (σ', r) = z at hM ⊢
  have hl : lv_has ls 1 [(0, .ref (eK E k))] := hl
  refine g_stC X.1 hG mw774 dJ0_isLatin1_aae02_0 ?_
  refine lv_if_eq (tgt := 17) hx hb dJ0_isLatin1_aae02_3 (by decide) (fun c2 => ?_) (fun c2 => ?_)
  · have hM := b_if hM c2
    refine lv_iconst (v := (0 : Int32)) hx hb dJ0_isLatin1_aae02_17 (by decide) ?_
    exact e_zret X hG (by decide) dJ0_isLatin1_aae02_18 hM
  · have hM := b_else hM c2
    refine lv_aload_n hx hb dJ0_isLatin1_aae02_6 rfl (lv_at hl 0 rfl) ?_
    refine g_scod X.1 hG hL mw1318 dJ0_isLatin1_aae02_7 ?_
    refine lv_if_ne (tgt := 17) hx hb dJ0_isLatin1_aae02_10 (by decide) (fun c1 => ?_) (fun c1 => ?_)
    · have hM := b_else hM c1
      refine lv_iconst (v := (0 : Int32)) hx hb dJ0_isLatin1_aae02_17 (by decide) ?_
      exact e_zret X hG (by decide) dJ0_isLatin1_aae02_18 hM
    · have hM := b_if hM c1
      refine lv_iconst (v := (1 : Int32)) hx hb dJ0_isLatin1_aae02_13 (by decide) ?_
      refine lv_goto (tgt := 18) hx hb dJ0_isLatin1_aae02_14 (by decide) ?_
      exact e_zret X hG (by decide) dJ0_isLatin1_aae02_18 hM
def M_J3_checkIndex_8e157 (σ : St)  (p0 p1 : Int32) : Option (St × Int32) := if p0 < 0 then none else (if p0 < p1 then some (σ, p0) else none)
set_option maxRecDepth 20000 in
set_option maxHeartbeats 4000000 in
theorem C_J3_checkIndex_8e157 (l : Launch) (E : Ev) {σ σ' : St} {p0 : Int32} {p1 : Int32} {r : Int32} (t : Nat) (h : M_J3_checkIndex_8e157 σ p0 p1 = some (σ', r)) : Mi l E yJ3_checkIndex_8e157 cJ3_checkIndex_8e157 3 (some .int) 1 [.int p0, .int p1, .ref t] σ σ' r := by
  refine Mi_of (C := RJ3) rfl (by decide) (Nat.le_of_ble_eq_true rfl) (z := (σ', r)) (fun p e s m below meth c ls X hG hl => ?_)
  have hx := X.1.1.1
  have hb := X.1.1.2.1
  have hM := h
  unfold M_J3_checkIndex_8e157 at hM
  generalize (σ', r) = z at hM ⊢
  have hl : lv_has ls 3 [(0, .int p0), (1, .int p1), (2, .ref t)] := hl
  refine lv_iload_n hx hb dJ3_checkIndex_8e157_0 rfl (lv_at hl 0 rfl) ?_
  refine lv_if_lt (tgt := 9) hx hb dJ3_checkIndex_8e157_1 (by decide) (fun c2 => ?_) (fun c2 => ?_)
  · have hM := b_if hM c2
    refine lv_aload_n hx hb dJ3_checkIndex_8e157_9 rfl (lv_at hl 2 rfl) ?_
    refine lv_iload_n hx hb dJ3_checkIndex_8e157_10 rfl (lv_at hl 0 rfl) ?_
    refine lv_iload_n hx hb dJ3_checkIndex_8e157_11 rfl (lv_at hl 1 rfl) ?_
    cases hM
  · have hM := b_else hM c2
    refine lv_iload_n hx hb dJ3_checkIndex_8e157_4 rfl (lv_at hl 0 rfl) ?_
    refine lv_iload_n hx hb dJ3_checkIndex_8e157_5 rfl (lv_at hl 1 rfl) ?_
    refine lv_icmp_lt (tgt := 16) hx hb dJ3_checkIndex_8e157_6 (by decide) (fun c1 => ?_) (fun c1 => ?_)
    · have hM := b_if hM c1
      refine lv_iload_n hx hb dJ3_checkIndex_8e157_16 rfl (lv_at hl 0 rfl) ?_
      exact e_iret X hG dJ3_checkIndex_8e157_17 hM
    · have hM := b_else hM c1
      refine lv_aload_n hx hb dJ3_checkIndex_8e157_9 rfl (lv_at hl 2 rfl) ?_
      refine lv_iload_n hx hb dJ3_checkIndex_8e157_10 rfl (lv_at hl 0 rfl) ?_
      refine lv_iload_n hx hb dJ3_checkIndex_8e157_11 rfl (lv_at hl 1 rfl) ?_
      cases hM
set_option maxRecDepth 20000 in
set_option maxHeartbeats 4000000 in
theorem C_J3_checkIndex_8e157_n (l : Launch) (E : Ev) {σ σ' : St} {p0 : Int32} {p1 : Int32} {r : Int32} (h : M_J3_checkIndex_8e157 σ p0 p1 = some (σ', r)) : Mi l E yJ3_checkIndex_8e157 cJ3_checkIndex_8e157 3 (some .int) 1 [.int p0, .int p1, .null] σ σ' r := by
  refine Mi_of (C := RJ3) rfl (by decide) (Nat.le_of_ble_eq_true rfl) (z := (σ', r)) (fun p e s m below meth c ls X hG hl => ?_)
  have hx := X.1.1.1
  have hb := X.1.1.2.1
  have hM := h
  unfold M_J3_checkIndex_8e157 at hM
  generalize (σ', r) = z at hM ⊢
  have hl : lv_has ls 3 [(0, .int p0), (1, .int p1), (2, .null)] := hl
  refine lv_iload_n hx hb dJ3_checkIndex_8e157_0 rfl (lv_at hl 0 rfl) ?_
  refine lv_if_lt (tgt := 9) hx hb dJ3_checkIndex_8e157_1 (by decide) (fun c2 => ?_) (fun c2 => ?_)
  · have hM := b_if hM c2
    cases hM
  · have hM := b_else hM c2
    refine lv_iload_n hx hb dJ3_checkIndex_8e157_4 rfl (lv_at hl 0 rfl) ?_
    refine lv_iload_n hx hb dJ3_checkIndex_8e157_5 rfl (lv_at hl 1 rfl) ?_
    refine lv_icmp_lt (tgt := 16) hx hb dJ3_checkIndex_8e157_6 (by decide) (fun c1 => ?_) (fun c1 => ?_)
    · have hM := b_if hM c1
      refine lv_iload_n hx hb dJ3_checkIndex_8e157_16 rfl (lv_at hl 0 rfl) ?_
      exact e_iret X hG dJ3_checkIndex_8e157_17 hM
    · have hM := b_else hM c1
      cases hM
def M_X0_polesOf (σ : St) (k : Nat) (p0 : Int32) : Option (St × Int32) := bcall (M_X10_at σ (k + 1) p0) fun σ1 r2 => some (σ1, r2)
set_option maxRecDepth 20000 in
set_option maxHeartbeats 4000000 in
theorem C_X0_polesOf (l : Launch) (E : Ev) {σ σ' : St} {k : Nat} {p0 : Int32} {r : Int32} (h : M_X0_polesOf σ k p0 = some (σ', r)) (hL : lay 0 k) : Mi l E yX0_polesOf cX0_polesOf 2 (some .int) 2 [.ref (E.1 k), .int p0] σ σ' r := by
  refine Mi_of (C := RX0) rfl (by decide) (Nat.le_of_ble_eq_true rfl) (z := (σ', r)) (fun p e s m below meth c ls X hG hl => ?_)
  have hx := X.1.1.1
  have hb := X.1.1.2.1
  have hM := h
  unfold M_X0_polesOf at hM
  generalize (σ', r) = z at hM ⊢
  have hl : lv_has ls 2 [(0, .ref (E.1 k)), (1, .int p0)] := hl
  refine lv_aload_n hx hb dX0_polesOf_0 rfl (lv_at hl 0 rfl) ?_
  refine gt_0_0 X.1 hG hL mw79 dX0_polesOf_1 ?_
  refine lv_iload_n hx hb dX0_polesOf_4 rfl (lv_at hl 1 rfl) ?_
  refine g_callSN_i (nA := 2) (o := M_X10_at σ (k + 1) p0) (As := [.ref (E.1 (k + 1)), .int p0]) X.1 hG (fun _ _ h => C_X10_at l E h (lf_0_0 hL)) mw476 mw477 mw12 (gw_ok mw478 rfl) (by decide +kernel) rfl ⟨Nat.le_of_ble_eq_true rfl, Nat.le_of_ble_eq_true rfl⟩ hl.1 rfl (Nat.le_of_ble_eq_true rfl) ⟨Nat.le_refl _, Nat.le_refl _⟩ dX0_polesOf_5 hM (fun σ1 r2 H locs hG hM => ?_)
  exact e_iret X hG dX0_polesOf_8 hM
def M_X0_weeksOf (σ : St) (k : Nat) (p0 : Int32) : Option (St × Int32) := bcall (M_X10_at σ (k + 2) p0) fun σ1 r2 => some (σ1, r2)
set_option maxRecDepth 20000 in
set_option maxHeartbeats 4000000 in
theorem C_X0_weeksOf (l : Launch) (E : Ev) {σ σ' : St} {k : Nat} {p0 : Int32} {r : Int32} (h : M_X0_weeksOf σ k p0 = some (σ', r)) (hL : lay 0 k) : Mi l E yX0_weeksOf cX0_weeksOf 2 (some .int) 2 [.ref (E.1 k), .int p0] σ σ' r := by
  refine Mi_of (C := RX0) rfl (by decide) (Nat.le_of_ble_eq_true rfl) (z := (σ', r)) (fun p e s m below meth c ls X hG hl => ?_)
  have hx := X.1.1.1
  have hb := X.1.1.2.1
  have hM := h
  unfold M_X0_weeksOf at hM
  generalize (σ', r) = z at hM ⊢
  have hl : lv_has ls 2 [(0, .ref (E.1 k)), (1, .int p0)] := hl
  refine lv_aload_n hx hb dX0_weeksOf_0 rfl (lv_at hl 0 rfl) ?_
  refine gt_0_1 X.1 hG hL mw80 dX0_weeksOf_1 ?_
  refine lv_iload_n hx hb dX0_weeksOf_4 rfl (lv_at hl 1 rfl) ?_
  refine g_callSN_i (nA := 2) (o := M_X10_at σ (k + 2) p0) (As := [.ref (E.1 (k + 2)), .int p0]) X.1 hG (fun _ _ h => C_X10_at l E h (lf_0_1 hL)) mw476 mw477 mw12 (gw_ok mw478 rfl) (by decide +kernel) rfl ⟨Nat.le_of_ble_eq_true rfl, Nat.le_of_ble_eq_true rfl⟩ hl.1 rfl (Nat.le_of_ble_eq_true rfl) ⟨Nat.le_refl _, Nat.le_refl _⟩ dX0_weeksOf_5 hM (fun σ1 r2 H locs hG hM => ?_)
  exact e_iret X hG dX0_weeksOf_8 hM
def M_X0_allPoles (σ : St) (k : Nat)  : Option (St × Int32) := bcall (M_X10_sum σ (k + 1) (σ k 2)) fun σ1 r2 => some (σ1, r2)
set_option maxRecDepth 20000 in
set_option maxHeartbeats 4000000 in
theorem C_X0_allPoles (l : Launch) (E : Ev) {σ σ' : St} {k : Nat} {r : Int32} (h : M_X0_allPoles σ k = some (σ', r)) (hL : lay 0 k) : Mi l E yX0_allPoles cX0_allPoles 1 (some .int) 3 [.ref (E.1 k)] σ σ' r := by
  refine Mi_of (C := RX0) rfl (by decide) (Nat.le_of_ble_eq_true rfl) (z := (σ', r)) (fun p e s m below meth c ls X hG hl => ?_)
  have hx := X.1.1.1
  have hb := X.1.1.2.1
  have hM := h
  unfold M_X0_allPoles at hM
  generalize (σ', r) = z at hM ⊢
  have hl : lv_has ls 1 [(0, .ref (E.1 k))] := hl
  refine lv_aload_n hx hb dX0_allPoles_0 rfl (lv_at hl 0 rfl) ?_
  refine gt_0_0 X.1 hG hL mw79 dX0_allPoles_1 ?_
  refine lv_aload_n hx hb dX0_allPoles_4 rfl (lv_at hl 0 rfl) ?_
  refine gt_0_2 X.1 hG hL mw81 dX0_allPoles_5 ?_
  refine g_callSN_i (nA := 2) (o := M_X10_sum σ (k + 1) (σ k 2)) (As := [.ref (E.1 (k + 1)), .int (σ k 2)]) X.1 hG (fun _ _ h => C_X10_sum l E h (lf_0_0 hL)) mw967 mw953 mw12 (gw_ok mw954 rfl) (by decide +kernel) rfl ⟨Nat.le_of_ble_eq_true rfl, Nat.le_of_ble_eq_true rfl⟩ hl.1 rfl (Nat.le_of_ble_eq_true rfl) ⟨Nat.le_refl _, Nat.le_refl _⟩ dX0_allPoles_8 hM (fun σ1 r2 H locs hG hM => ?_)
  exact e_iret X hG dX0_allPoles_11 hM
def M_X0_add (σ : St) (k : Nat) (p0 p1 : Int32) : Option (St × Int32) := bcall (M_X10_put σ (k + 1) (σ k 2) p0) fun σ1 r2 => bcall (M_X10_put σ1 (k + 2) (σ1 k 2) p1) fun σ3 r4 => bput σ3 k 2 ((σ3 k 2) + (1 : Int32)) fun σ5 => some (σ5, (σ5 k 2) - (1 : Int32))
set_option maxRecDepth 20000 in
set_option maxHeartbeats 4000000 in
theorem C_X0_add (l : Launch) (E : Ev) {σ σ' : St} {k : Nat} {p0 : Int32} {p1 : Int32} {r : Int32} (h : M_X0_add σ k p0 p1 = some (σ', r)) (hL : lay 0 k) : Mi l E yX0_add cX0_add 3 (some .int) 2 [.ref (E.1 k), .int p0, .int p1] σ σ' r := by
  refine Mi_of (C := RX0) rfl (by decide) (Nat.le_of_ble_eq_true rfl) (z := (σ', r)) (fun p e s m below meth c ls X hG hl => ?_)
  have hx := X.1.1.1
  have hb := X.1.1.2.1
  have hM := h
  unfold M_X0_add at hM
  generalize (σ', r) = z at hM ⊢
  have hl : lv_has ls 3 [(0, .ref (E.1 k)), (1, .int p0), (2, .int p1)] := hl
  refine lv_aload_n hx hb dX0_add_0 rfl (lv_at hl 0 rfl) ?_
  refine gt_0_0 X.1 hG hL mw79 dX0_add_1 ?_
  refine lv_aload_n hx hb dX0_add_4 rfl (lv_at hl 0 rfl) ?_
  refine gt_0_2 X.1 hG hL mw81 dX0_add_5 ?_
  refine lv_iload_n hx hb dX0_add_8 rfl (lv_at hl 1 rfl) ?_
  refine g_callSN_v (nA := 3) (o := M_X10_put σ (k + 1) (σ k 2) p0) (As := [.ref (E.1 (k + 1)), .int (σ k 2), .int p0]) X.1 hG (fun _ _ h => C_X10_put l E h (lf_0_0 hL)) mw437 mw431 mw12 (gw_ok mw432 rfl) (by decide +kernel) rfl ⟨Nat.le_of_ble_eq_true rfl, Nat.le_of_ble_eq_true rfl⟩ hl.1 rfl (Nat.le_of_ble_eq_true rfl) ⟨Nat.le_refl _, Nat.le_refl _⟩ dX0_add_9 hM (fun σ1 r2 H locs hG hM => ?_)
  refine lv_aload_n hx hb dX0_add_12 rfl (lv_at hl 0 rfl) ?_
  refine gt_0_1 X.1 hG hL mw80 dX0_add_13 ?_
  refine lv_aload_n hx hb dX0_add_16 rfl (lv_at hl 0 rfl) ?_
  refine gt_0_2 X.1 hG hL mw81 dX0_add_17 ?_
  refine lv_iload_n hx hb dX0_add_20 rfl (lv_at hl 2 rfl) ?_
  refine g_callSN_v (nA := 3) (o := M_X10_put σ1 (k + 2) (σ1 k 2) p1) (As := [.ref (E.1 (k + 2)), .int (σ1 k 2), .int p1]) X.1 hG (fun _ _ h => C_X10_put l E h (lf_0_1 hL)) mw437 mw431 mw12 (gw_ok mw432 rfl) (by decide +kernel) rfl ⟨Nat.le_of_ble_eq_true rfl, Nat.le_of_ble_eq_true rfl⟩ hl.1 rfl (Nat.le_of_ble_eq_true rfl) ⟨Nat.le_refl _, Nat.le_refl _⟩ dX0_add_21 hM (fun σ3 r4 H locs hG hM => ?_)
  refine lv_aload_n hx hb dX0_add_24 rfl (lv_at hl 0 rfl) ?_
  refine lv_dup hx hb dX0_add_25 rfl ?_
  refine gt_0_2 X.1 hG hL mw81 dX0_add_26 ?_
  refine lv_iconst (v := (1 : Int32)) hx hb dX0_add_29 (by decide) ?_
  refine lv_iadd hx hb dX0_add_30 ?_
  refine pt_0_2 X.1 hG hL mw81 dX0_add_31 hM (fun σ5 H locs hG hM => ?_)
  refine lv_aload_n hx hb dX0_add_34 rfl (lv_at hl 0 rfl) ?_
  refine gt_0_2 X.1 hG hL mw81 dX0_add_35 ?_
  refine lv_iconst (v := (1 : Int32)) hx hb dX0_add_38 (by decide) ?_
  refine lv_isub hx hb dX0_add_39 ?_
  exact e_iret X hG dX0_add_40 hM
def M_X0_takeOut (σ : St) (k : Nat) (p0 p1 : Int32) : Option (St × Int32) := bcall (M_X0_polesOf σ k p0) fun σ1 r2 => bcall (M_X10_put σ1 (k + 1) p0 (r2 - p1)) fun σ3 r4 => some (σ3, 0)
set_option maxRecDepth 20000 in
set_option maxHeartbeats 4000000 in
theorem C_X0_takeOut (l : Launch) (E : Ev) {σ σ' : St} {k : Nat} {p0 : Int32} {p1 : Int32} {r : Int32} (h : M_X0_takeOut σ k p0 p1 = some (σ', r)) (hL : lay 0 k) : Mv l E yX0_takeOut cX0_takeOut 3 3 [.ref (E.1 k), .int p0, .int p1] σ σ' := by
  refine Mv_of (C := RX0) rfl (by decide) (Nat.le_of_ble_eq_true rfl) (z := (σ', r)) (fun p e s m below meth c ls X hG hl => ?_)
  have hx := X.1.1.1
  have hb := X.1.1.2.1
  have hM := h
  unfold M_X0_takeOut at hM
  generalize (σ', r) = z at hM ⊢
  have hl : lv_has ls 3 [(0, .ref (E.1 k)), (1, .int p0), (2, .int p1)] := hl
  refine lv_aload_n hx hb dX0_takeOut_0 rfl (lv_at hl 0 rfl) ?_
  refine gt_0_0 X.1 hG hL mw79 dX0_takeOut_1 ?_
  refine lv_iload_n hx hb dX0_takeOut_4 rfl (lv_at hl 1 rfl) ?_
  refine lv_aload_n hx hb dX0_takeOut_5 rfl (lv_at hl 0 rfl) ?_
  refine lv_iload_n hx hb dX0_takeOut_6 rfl (lv_at hl 1 rfl) ?_
  refine g_callV_i (nA := 1) (o := M_X0_polesOf σ k p0) (As := [.int p0]) X.1 hG hL rfl rfl (fun _ _ h => C_X0_polesOf l E h hL) mw483 mw473 mw474 mw16 (gw_ok mw475 rfl) (by decide +kernel) rfl ⟨Nat.le_of_ble_eq_true rfl, Nat.le_of_ble_eq_true rfl⟩ hl.1 rfl (Nat.le_of_ble_eq_true rfl) ⟨Nat.le_refl _, Nat.le_refl _⟩ dX0_takeOut_7 hM (fun σ1 r2 H locs hG hM => ?_)
  refine lv_iload_n hx hb dX0_takeOut_10 rfl (lv_at hl 2 rfl) ?_
  refine lv_isub hx hb dX0_takeOut_11 ?_
  refine g_callSN_v (nA := 3) (o := M_X10_put σ1 (k + 1) p0 (r2 - p1)) (As := [.ref (E.1 (k + 1)), .int p0, .int (r2 - p1)]) X.1 hG (fun _ _ h => C_X10_put l E h (lf_0_0 hL)) mw437 mw431 mw12 (gw_ok mw432 rfl) (by decide +kernel) rfl ⟨Nat.le_of_ble_eq_true rfl, Nat.le_of_ble_eq_true rfl⟩ hl.1 rfl (Nat.le_of_ble_eq_true rfl) ⟨Nat.le_refl _, Nat.le_refl _⟩ dX0_takeOut_12 hM (fun σ3 r4 H locs hG hM => ?_)
  exact e_vret X hG dX0_takeOut_15 hM
def M_X0_getOlder (σ : St) (k : Nat)  : Option (St × Int32) := bcall (M_X10_makeOlder σ (k + 2) (σ k 2) (1 : Int32) (60 : Int32)) fun σ1 r2 => some (σ1, 0)
set_option maxRecDepth 20000 in
set_option maxHeartbeats 4000000 in
theorem C_X0_getOlder (l : Launch) (E : Ev) {σ σ' : St} {k : Nat} {r : Int32} (h : M_X0_getOlder σ k = some (σ', r)) (hL : lay 0 k) : Mv l E yX0_getOlder cX0_getOlder 1 3 [.ref (E.1 k)] σ σ' := by
  refine Mv_of (C := RX0) rfl (by decide) (Nat.le_of_ble_eq_true rfl) (z := (σ', r)) (fun p e s m below meth c ls X hG hl => ?_)
  have hx := X.1.1.1
  have hb := X.1.1.2.1
  have hM := h
  unfold M_X0_getOlder at hM
  generalize (σ', r) = z at hM ⊢
  have hl : lv_has ls 1 [(0, .ref (E.1 k))] := hl
  refine lv_aload_n hx hb dX0_getOlder_0 rfl (lv_at hl 0 rfl) ?_
  refine gt_0_1 X.1 hG hL mw80 dX0_getOlder_1 ?_
  refine lv_aload_n hx hb dX0_getOlder_4 rfl (lv_at hl 0 rfl) ?_
  refine gt_0_2 X.1 hG hL mw81 dX0_getOlder_5 ?_
  refine lv_iconst (v := (1 : Int32)) hx hb dX0_getOlder_8 (by decide) ?_
  refine lv_bipush (v := (60 : Int32)) hx hb dX0_getOlder_9 (by decide) ?_
  refine g_callSN_v (nA := 4) (o := M_X10_makeOlder σ (k + 2) (σ k 2) (1 : Int32) (60 : Int32)) (As := [.ref (E.1 (k + 2)), .int (σ k 2), .int (1 : Int32), .int (60 : Int32)]) X.1 hG (fun _ _ h => C_X10_makeOlder l E h (lf_0_1 hL)) mw731 mw707 mw12 (gw_ok mw708 rfl) (by decide +kernel) rfl ⟨Nat.le_of_ble_eq_true rfl, Nat.le_of_ble_eq_true rfl⟩ hl.1 rfl (Nat.le_of_ble_eq_true rfl) ⟨Nat.le_refl _, Nat.le_refl _⟩ dX0_getOlder_11 hM (fun σ1 r2 H locs hG hM => ?_)
  exact e_vret X hG dX0_getOlder_14 hM
def M_X0_take (σ : St) (k a0 : Nat)  : Option (St × Int32) := bcall (M_X10_copy σ (a0 + 1) (k + 1)) fun σ1 r2 => bcall (M_X10_copy σ1 (a0 + 2) (k + 2)) fun σ3 r4 => bput σ3 k 2 (σ3 a0 2) fun σ5 => some (σ5, 0)
set_option maxRecDepth 20000 in
set_option maxHeartbeats 4000000 in
theorem C_X0_take (l : Launch) (E : Ev) {σ σ' : St} {k : Nat} {a0 : Nat} {r : Int32} (h : M_X0_take σ k a0 = some (σ', r)) (hL : lay 0 k) (hA0 : lay 0 a0) : Mv l E yX0_take cX0_take 2 2 [.ref (E.1 k), .ref (E.1 a0)] σ σ' := by
  refine Mv_of (C := RX0) rfl (by decide) (Nat.le_of_ble_eq_true rfl) (z := (σ', r)) (fun p e s m below meth c ls X hG hl => ?_)
  have hx := X.1.1.1
  have hb := X.1.1.2.1
  have hM := h
  unfold M_X0_take at hM
  generalize (σ', r) = z at hM ⊢
  have hl : lv_has ls 2 [(0, .ref (E.1 k)), (1, .ref (E.1 a0))] := hl
  refine lv_aload_n hx hb dX0_take_0 rfl (lv_at hl 1 rfl) ?_
  refine gt_0_0 X.1 hG hA0 mw79 dX0_take_1 ?_
  refine lv_aload_n hx hb dX0_take_4 rfl (lv_at hl 0 rfl) ?_
  refine gt_0_0 X.1 hG hL mw79 dX0_take_5 ?_
  refine g_callSN_v (nA := 2) (o := M_X10_copy σ (a0 + 1) (k + 1)) (As := [.ref (E.1 (a0 + 1)), .ref (E.1 (k + 1))]) X.1 hG (fun _ _ h => C_X10_copy l E h (lf_0_0 hA0) (lf_0_0 hL)) mw395 mw396 mw12 (gw_ok mw397 rfl) (by decide +kernel) rfl ⟨Nat.le_of_ble_eq_true rfl, Nat.le_of_ble_eq_true rfl⟩ hl.1 rfl (Nat.le_of_ble_eq_true rfl) ⟨Nat.le_refl _, Nat.le_refl _⟩ dX0_take_8 hM (fun σ1 r2 H locs hG hM => ?_)
  refine lv_aload_n hx hb dX0_take_11 rfl (lv_at hl 1 rfl) ?_
  refine gt_0_1 X.1 hG hA0 mw80 dX0_take_12 ?_
  refine lv_aload_n hx hb dX0_take_15 rfl (lv_at hl 0 rfl) ?_
  refine gt_0_1 X.1 hG hL mw80 dX0_take_16 ?_
  refine g_callSN_v (nA := 2) (o := M_X10_copy σ1 (a0 + 2) (k + 2)) (As := [.ref (E.1 (a0 + 2)), .ref (E.1 (k + 2))]) X.1 hG (fun _ _ h => C_X10_copy l E h (lf_0_1 hA0) (lf_0_1 hL)) mw395 mw396 mw12 (gw_ok mw397 rfl) (by decide +kernel) rfl ⟨Nat.le_of_ble_eq_true rfl, Nat.le_of_ble_eq_true rfl⟩ hl.1 rfl (Nat.le_of_ble_eq_true rfl) ⟨Nat.le_refl _, Nat.le_refl _⟩ dX0_take_19 hM (fun σ3 r4 H locs hG hM => ?_)
  refine lv_aload_n hx hb dX0_take_22 rfl (lv_at hl 0 rfl) ?_
  refine lv_aload_n hx hb dX0_take_23 rfl (lv_at hl 1 rfl) ?_
  refine gt_0_2 X.1 hG hA0 mw81 dX0_take_24 ?_
  refine pt_0_2 X.1 hG hL mw81 dX0_take_27 hM (fun σ5 H locs hG hM => ?_)
  exact e_vret X hG dX0_take_30 hM
def M_X1_skillOf (σ : St) (k : Nat) (p0 : Int32) : Option (St × Int32) := bcall (M_X10_at σ (k + 1) p0) fun σ1 r2 => some (σ1, r2)
set_option maxRecDepth 20000 in
set_option maxHeartbeats 4000000 in
theorem C_X1_skillOf (l : Launch) (E : Ev) {σ σ' : St} {k : Nat} {p0 : Int32} {r : Int32} (h : M_X1_skillOf σ k p0 = some (σ', r)) (hL : lay 1 k) : Mi l E yX1_skillOf cX1_skillOf 2 (some .int) 2 [.ref (E.1 k), .int p0] σ σ' r := by
  refine Mi_of (C := RX1) rfl (by decide) (Nat.le_of_ble_eq_true rfl) (z := (σ', r)) (fun p e s m below meth c ls X hG hl => ?_)
  have hx := X.1.1.1
  have hb := X.1.1.2.1
  have hM := h
  unfold M_X1_skillOf at hM
  generalize (σ', r) = z at hM ⊢
  have hl : lv_has ls 2 [(0, .ref (E.1 k)), (1, .int p0)] := hl
  refine lv_aload_n hx hb dX1_skillOf_0 rfl (lv_at hl 0 rfl) ?_
  refine gt_1_0 X.1 hG hL mw128 dX1_skillOf_1 ?_
  refine lv_iload_n hx hb dX1_skillOf_4 rfl (lv_at hl 1 rfl) ?_
  refine g_callSN_i (nA := 2) (o := M_X10_at σ (k + 1) p0) (As := [.ref (E.1 (k + 1)), .int p0]) X.1 hG (fun _ _ h => C_X10_at l E h (lf_1_0 hL)) mw530 mw477 mw12 (gw_ok mw478 rfl) (by decide +kernel) rfl ⟨Nat.le_of_ble_eq_true rfl, Nat.le_of_ble_eq_true rfl⟩ hl.1 rfl (Nat.le_of_ble_eq_true rfl) ⟨Nat.le_refl _, Nat.le_refl _⟩ dX1_skillOf_5 hM (fun σ1 r2 H locs hG hM => ?_)
  exact e_iret X hG dX1_skillOf_8 hM
def M_X1_placeOf (σ : St) (k : Nat) (p0 : Int32) : Option (St × Int32) := bcall (M_X10_at σ (k + 2) p0) fun σ1 r2 => some (σ1, r2)
set_option maxRecDepth 20000 in
set_option maxHeartbeats 4000000 in
theorem C_X1_placeOf (l : Launch) (E : Ev) {σ σ' : St} {k : Nat} {p0 : Int32} {r : Int32} (h : M_X1_placeOf σ k p0 = some (σ', r)) (hL : lay 1 k) : Mi l E yX1_placeOf cX1_placeOf 2 (some .int) 2 [.ref (E.1 k), .int p0] σ σ' r := by
  refine Mi_of (C := RX1) rfl (by decide) (Nat.le_of_ble_eq_true rfl) (z := (σ', r)) (fun p e s m below meth c ls X hG hl => ?_)
  have hx := X.1.1.1
  have hb := X.1.1.2.1
  have hM := h
  unfold M_X1_placeOf at hM
  generalize (σ', r) = z at hM ⊢
  have hl : lv_has ls 2 [(0, .ref (E.1 k)), (1, .int p0)] := hl
  refine lv_aload_n hx hb dX1_placeOf_0 rfl (lv_at hl 0 rfl) ?_
  refine gt_1_1 X.1 hG hL mw129 dX1_placeOf_1 ?_
  refine lv_iload_n hx hb dX1_placeOf_4 rfl (lv_at hl 1 rfl) ?_
  refine g_callSN_i (nA := 2) (o := M_X10_at σ (k + 2) p0) (As := [.ref (E.1 (k + 2)), .int p0]) X.1 hG (fun _ _ h => C_X10_at l E h (lf_1_1 hL)) mw530 mw477 mw12 (gw_ok mw478 rfl) (by decide +kernel) rfl ⟨Nat.le_of_ble_eq_true rfl, Nat.le_of_ble_eq_true rfl⟩ hl.1 rfl (Nat.le_of_ble_eq_true rfl) ⟨Nat.le_refl _, Nat.le_refl _⟩ dX1_placeOf_5 hM (fun σ1 r2 H locs hG hM => ?_)
  exact e_iret X hG dX1_placeOf_8 hM
def M_X1_hoursOf (σ : St) (k : Nat) (p0 : Int32) : Option (St × Int32) := bcall (M_X10_at σ (k + 3) p0) fun σ1 r2 => some (σ1, r2)
set_option maxRecDepth 20000 in
set_option maxHeartbeats 4000000 in
theorem C_X1_hoursOf (l : Launch) (E : Ev) {σ σ' : St} {k : Nat} {p0 : Int32} {r : Int32} (h : M_X1_hoursOf σ k p0 = some (σ', r)) (hL : lay 1 k) : Mi l E yX1_hoursOf cX1_hoursOf 2 (some .int) 2 [.ref (E.1 k), .int p0] σ σ' r := by
  refine Mi_of (C := RX1) rfl (by decide) (Nat.le_of_ble_eq_true rfl) (z := (σ', r)) (fun p e s m below meth c ls X hG hl => ?_)
  have hx := X.1.1.1
  have hb := X.1.1.2.1
  have hM := h
  unfold M_X1_hoursOf at hM
  generalize (σ', r) = z at hM ⊢
  have hl : lv_has ls 2 [(0, .ref (E.1 k)), (1, .int p0)] := hl
  refine lv_aload_n hx hb dX1_hoursOf_0 rfl (lv_at hl 0 rfl) ?_
  refine gt_1_2 X.1 hG hL mw130 dX1_hoursOf_1 ?_
  refine lv_iload_n hx hb dX1_hoursOf_4 rfl (lv_at hl 1 rfl) ?_
  refine g_callSN_i (nA := 2) (o := M_X10_at σ (k + 3) p0) (As := [.ref (E.1 (k + 3)), .int p0]) X.1 hG (fun _ _ h => C_X10_at l E h (lf_1_2 hL)) mw530 mw477 mw12 (gw_ok mw478 rfl) (by decide +kernel) rfl ⟨Nat.le_of_ble_eq_true rfl, Nat.le_of_ble_eq_true rfl⟩ hl.1 rfl (Nat.le_of_ble_eq_true rfl) ⟨Nat.le_refl _, Nat.le_refl _⟩ dX1_hoursOf_5 hM (fun σ1 r2 H locs hG hM => ?_)
  exact e_iret X hG dX1_hoursOf_8 hM
def M_X1_isUp (σ : St) (k : Nat) (p0 : Int32) : Option (St × Int32) := bcall (M_X10_at σ (k + 2) p0) fun σ1 r2 => if r2 = (-4 : Int32) then some (σ1, (0 : Int32)) else some (σ1, (1 : Int32))
set_option maxRecDepth 20000 in
set_option maxHeartbeats 4000000 in
theorem C_X1_isUp (l : Launch) (E : Ev) {σ σ' : St} {k : Nat} {p0 : Int32} {r : Int32} (h : M_X1_isUp σ k p0 = some (σ', r)) (hL : lay 1 k) : Mi l E yX1_isUp cX1_isUp 2 (some .boolean) 2 [.ref (E.1 k), .int p0] σ σ' r := by
  refine Mi_of (C := RX1) rfl (by decide) (Nat.le_of_ble_eq_true rfl) (z := (σ', r)) (fun p e s m below meth c ls X hG hl => ?_)
  have hx := X.1.1.1
  have hb := X.1.1.2.1
  have hM := h
  unfold M_X1_isUp at hM
  generalize (σ', r) = z at hM ⊢
  have hl : lv_has ls 2 [(0, .ref (E.1 k)), (1, .int p0)] := hl
  refine lv_aload_n hx hb dX1_isUp_0 rfl (lv_at hl 0 rfl) ?_
  refine gt_1_1 X.1 hG hL mw129 dX1_isUp_1 ?_
  refine lv_iload_n hx hb dX1_isUp_4 rfl (lv_at hl 1 rfl) ?_
  refine g_callSN_i (nA := 2) (o := M_X10_at σ (k + 2) p0) (As := [.ref (E.1 (k + 2)), .int p0]) X.1 hG (fun _ _ h => C_X10_at l E h (lf_1_1 hL)) mw530 mw477 mw12 (gw_ok mw478 rfl) (by decide +kernel) rfl ⟨Nat.le_of_ble_eq_true rfl, Nat.le_of_ble_eq_true rfl⟩ hl.1 rfl (Nat.le_of_ble_eq_true rfl) ⟨Nat.le_refl _, Nat.le_refl _⟩ dX1_isUp_5 hM (fun σ1 r2 H locs hG hM => ?_)
  refine lv_bipush (v := (-4 : Int32)) hx hb dX1_isUp_8 (by decide) ?_
  refine lv_icmp_eq (tgt := 17) hx hb dX1_isUp_10 (by decide) (fun c3 => ?_) (fun c3 => ?_)
  · have hM := b_if hM c3
    refine lv_iconst (v := (0 : Int32)) hx hb dX1_isUp_17 (by decide) ?_
    exact e_zret X hG (by decide) dX1_isUp_18 hM
  · have hM := b_else hM c3
    refine lv_iconst (v := (1 : Int32)) hx hb dX1_isUp_13 (by decide) ?_
    refine lv_goto (tgt := 18) hx hb dX1_isUp_14 (by decide) ?_
    exact e_zret X hG (by decide) dX1_isUp_18 hM
def B_X1_bitsOn_4  : Nat → St → Nat → Int32 → Int32 → Int32 → Option (St × Int32)
  | 0, _, _, _, _, _ => none
  | n + 1, σ, k, x1, x2, x3 => if (σ k 3) ≤ x3 then some (σ, x2) else (bcall (M_X1_placeOf σ k x3) fun σ1 r2 => if r2 = x1 then (blet (x2 ||| ((1 : Int32) <<< (x3 &&& 31))) fun v5 => blet (x3 + (1 : Int32)) fun v6 => B_X1_bitsOn_4 n σ1 k x1 v5 v6) else (blet (x2 ||| (0 : Int32)) fun v3 => blet (x3 + (1 : Int32)) fun v4 => B_X1_bitsOn_4 n σ1 k x1 v3 v4))
def M_X1_bitsOn (σ : St) (k : Nat) (p0 : Int32) : Option (St × Int32) := B_X1_bitsOn_4 FU σ k p0 (0 : Int32) (0 : Int32)
set_option maxRecDepth 20000 in
set_option maxHeartbeats 4000000 in
theorem w_X1_bitsOn_4 {p : Program} {l : Launch} {e : Env} {s : State} {m : MethodId} {below : List Frame} {meth : Method} {c : Code} {args : Array Value} {E : Ev} {k : Nat} (X : Bx E p m meth c cX1_bitsOn 4 (some .int) s args RX1) (hL : lay 1 k) : ∀ (n : Nat) (σ : St) (x1 x2 x3 : Int32) (H : Heap) (locs : List Loc) (ls : Array Slot) (z : St × Int32), GS E σ s.heap H locs → lv_has ls 4 [(0, .ref (E.1 k)), (1, .int x1), (2, .int x2), (3, .int x3)] → B_X1_bitsOn_4 n σ k x1 x2 x3 = some z → W p l e (rmd 3) s m args below meth c H locs 0 0 (QI E z below args s) (F0 m 4 ls []) := by
  have hx := X.1.1.1
  have hb := X.1.1.2.1
  intro n
  induction n with
  | zero => intro σ x1 x2 x3 H locs ls z  hG hl hM; cases hM
  | succ n ih =>
    intro σ x1 x2 x3 H locs ls z  hG hl hM
    unfold B_X1_bitsOn_4 at hM
    refine lv_iload_n hx hb dX1_bitsOn_4 rfl (lv_at hl 3 rfl) ?_
    refine lv_aload_n hx hb dX1_bitsOn_5 rfl (lv_at hl 0 rfl) ?_
    refine gt_1_3 X.1 hG hL mw131 dX1_bitsOn_6 ?_
    refine lv_icmp_ge (tgt := 37) hx hb dX1_bitsOn_9 (by decide) (fun c8 => ?_) (fun c8 => ?_)
    · have hM := b_if hM c8
      refine lv_iload_n hx hb dX1_bitsOn_37 rfl (lv_at hl 2 rfl) ?_
      exact e_iret X hG dX1_bitsOn_38 hM
    · have hM := b_else hM c8
      refine lv_iload_n hx hb dX1_bitsOn_12 rfl (lv_at hl 2 rfl) ?_
      refine lv_aload_n hx hb dX1_bitsOn_13 rfl (lv_at hl 0 rfl) ?_
      refine lv_iload_n hx hb dX1_bitsOn_14 rfl (lv_at hl 3 rfl) ?_
      refine g_callV_i (nA := 1) (o := M_X1_placeOf σ k x3) (As := [.int x3]) X.1 hG hL rfl rfl (fun _ _ h => C_X1_placeOf l E h hL) mw562 mw527 mw528 mw18 (gw_ok mw529 rfl) (by decide +kernel) rfl ⟨Nat.le_of_ble_eq_true rfl, Nat.le_of_ble_eq_true rfl⟩ hl.1 rfl (Nat.le_of_ble_eq_true rfl) ⟨Nat.le_refl _, Nat.le_refl _⟩ dX1_bitsOn_15 hM (fun σ1 r2 H locs hG hM => ?_)
      refine lv_iload_n hx hb dX1_bitsOn_18 rfl (lv_at hl 1 rfl) ?_
      refine lv_icmp_ne (tgt := 28) hx hb dX1_bitsOn_19 (by decide) (fun c7 => ?_) (fun c7 => ?_)
      · have hM := b_else hM c7
        refine lv_iconst (v := (0 : Int32)) hx hb dX1_bitsOn_28 (by decide) ?_
        refine lv_ior hx hb dX1_bitsOn_29 ?_
        refine g_name hM (fun v3 hM => ?_)
        refine lv_istore_n (lv' := [(2, .int v3), (0, .ref (E.1 k)), (1, .int x1), (3, .int x3)]) hx hb dX1_bitsOn_30 rfl hl (by decide) rfl (fun ls hl => ?_)
        obtain ⟨v4, ev4, hM⟩ := g_nm hM
        refine lv_iinc (v := v4) (lv' := [(3, .int v4), (2, .int v3), (0, .ref (E.1 k)), (1, .int x1)]) hx hb dX1_bitsOn_31 hl (k := 3) rfl (by rw [ev4]; rfl) (by decide) rfl (fun ls hl => ?_)
        refine lv_goto (tgt := 4) hx hb dX1_bitsOn_34 (by decide) ?_
        exact ih σ1 x1 v3 v4 _ _ _ z hG (lv_sub hl [2, 3, 1, 0] rfl) hM
      · have hM := b_if hM c7
        refine lv_iconst (v := (1 : Int32)) hx hb dX1_bitsOn_22 (by decide) ?_
        refine lv_iload_n hx hb dX1_bitsOn_23 rfl (lv_at hl 3 rfl) ?_
        refine lv_ishl hx hb dX1_bitsOn_24 ?_
        refine lv_goto (tgt := 29) hx hb dX1_bitsOn_25 (by decide) ?_
        refine lv_ior hx hb dX1_bitsOn_29 ?_
        refine g_name hM (fun v5 hM => ?_)
        refine lv_istore_n (lv' := [(2, .int v5), (0, .ref (E.1 k)), (1, .int x1), (3, .int x3)]) hx hb dX1_bitsOn_30 rfl hl (by decide) rfl (fun ls hl => ?_)
        obtain ⟨v6, ev6, hM⟩ := g_nm hM
        refine lv_iinc (v := v6) (lv' := [(3, .int v6), (2, .int v5), (0, .ref (E.1 k)), (1, .int x1)]) hx hb dX1_bitsOn_31 hl (k := 3) rfl (by rw [ev6]; rfl) (by decide) rfl (fun ls hl => ?_)
        refine lv_goto (tgt := 4) hx hb dX1_bitsOn_34 (by decide) ?_
        exact ih σ1 x1 v5 v6 _ _ _ z hG (lv_sub hl [2, 3, 1, 0] rfl) hM
set_option maxRecDepth 20000 in
set_option maxHeartbeats 4000000 in
theorem C_X1_bitsOn (l : Launch) (E : Ev) {σ σ' : St} {k : Nat} {p0 : Int32} {r : Int32} (h : M_X1_bitsOn σ k p0 = some (σ', r)) (hL : lay 1 k) : Mi l E yX1_bitsOn cX1_bitsOn 4 (some .int) 3 [.ref (E.1 k), .int p0] σ σ' r := by
  refine Mi_of (C := RX1) rfl (by decide) (Nat.le_of_ble_eq_true rfl) (z := (σ', r)) (fun p e s m below meth c ls X hG hl => ?_)
  have hx := X.1.1.1
  have hb := X.1.1.2.1
  have hM := h
  unfold M_X1_bitsOn at hM
  generalize (σ', r) = z at hM ⊢
  have hl : lv_has ls 4 [(0, .ref (E.1 k)), (1, .int p0)] := hl
  refine lv_iconst (v := (0 : Int32)) hx hb dX1_bitsOn_0 (by decide) ?_
  refine lv_istore_n (lv' := [(2, .int (0 : Int32)), (0, .ref (E.1 k)), (1, .int p0)]) hx hb dX1_bitsOn_1 rfl hl (by decide) rfl (fun ls hl => ?_)
  refine lv_iconst (v := (0 : Int32)) hx hb dX1_bitsOn_2 (by decide) ?_
  refine lv_istore_n (lv' := [(3, .int (0 : Int32)), (2, .int (0 : Int32)), (0, .ref (E.1 k)), (1, .int p0)]) hx hb dX1_bitsOn_3 rfl hl (by decide) rfl (fun ls hl => ?_)
  exact w_X1_bitsOn_4 X hL FU σ p0 (0 : Int32) (0 : Int32) _ _ _ z hG (lv_sub hl [2, 3, 1, 0] rfl) hM
def M_X1_howManyOn (σ : St) (k : Nat) (p0 : Int32) : Option (St × Int32) := bcall (M_X1_bitsOn σ k p0) fun σ1 r2 => bcall (M_J6_bitCount_0f7a4 σ1 r2) fun σ3 r4 => some (σ3, r4)
set_option maxRecDepth 20000 in
set_option maxHeartbeats 4000000 in
theorem C_X1_howManyOn (l : Launch) (E : Ev) {σ σ' : St} {k : Nat} {p0 : Int32} {r : Int32} (h : M_X1_howManyOn σ k p0 = some (σ', r)) (hL : lay 1 k) : Mi l E yX1_howManyOn cX1_howManyOn 2 (some .int) 4 [.ref (E.1 k), .int p0] σ σ' r := by
  refine Mi_of (C := RX1) rfl (by decide) (Nat.le_of_ble_eq_true rfl) (z := (σ', r)) (fun p e s m below meth c ls X hG hl => ?_)
  have hx := X.1.1.1
  have hb := X.1.1.2.1
  have hM := h
  unfold M_X1_howManyOn at hM
  generalize (σ', r) = z at hM ⊢
  have hl : lv_has ls 2 [(0, .ref (E.1 k)), (1, .int p0)] := hl
  refine lv_aload_n hx hb dX1_howManyOn_0 rfl (lv_at hl 0 rfl) ?_
  refine lv_iload_n hx hb dX1_howManyOn_1 rfl (lv_at hl 1 rfl) ?_
  refine g_callV_i (nA := 1) (o := M_X1_bitsOn σ k p0) (As := [.int p0]) X.1 hG hL rfl rfl (fun _ _ h => C_X1_bitsOn l E h hL) mw558 mw559 mw560 mw18 (gw_ok mw561 rfl) (by decide +kernel) rfl ⟨Nat.le_of_ble_eq_true rfl, Nat.le_of_ble_eq_true rfl⟩ hl.1 rfl (Nat.le_of_ble_eq_true rfl) ⟨Nat.le_refl _, Nat.le_refl _⟩ dX1_howManyOn_2 hM (fun σ1 r2 H locs hG hM => ?_)
  refine g_callS_i (nA := 1) (o := M_J6_bitCount_0f7a4 σ1 r2) (As := [.int r2]) X.1 hG (fun _ _ h => C_J6_bitCount_0f7a4 l E h ) mw563 mw564 mw29 (gw_ok mw565 rfl) (by decide +kernel) rfl ⟨Nat.le_of_ble_eq_true rfl, Nat.le_of_ble_eq_true rfl⟩ hl.1 rfl (Nat.le_of_ble_eq_true rfl) ⟨Nat.le_refl _, Nat.le_refl _⟩ dX1_howManyOn_5 hM (fun σ3 r4 H locs hG hM => ?_)
  exact e_iret X hG dX1_howManyOn_8 hM
def B_X1_howManyUp_4  : Nat → St → Nat → Int32 → Int32 → Option (St × Int32)
  | 0, _, _, _, _ => none
  | n + 1, σ, k, x1, x2 => if (σ k 3) ≤ x2 then some (σ, x1) else (bcall (M_X1_isUp σ k x2) fun σ1 r2 => if r2 = 0 then (blet (x1 + (0 : Int32)) fun v3 => blet (x2 + (1 : Int32)) fun v4 => B_X1_howManyUp_4 n σ1 k v3 v4) else (blet (x1 + (1 : Int32)) fun v5 => blet (x2 + (1 : Int32)) fun v6 => B_X1_howManyUp_4 n σ1 k v5 v6))
def M_X1_howManyUp (σ : St) (k : Nat)  : Option (St × Int32) := B_X1_howManyUp_4 FU σ k (0 : Int32) (0 : Int32)
set_option maxRecDepth 20000 in
set_option maxHeartbeats 4000000 in
theorem w_X1_howManyUp_4 {p : Program} {l : Launch} {e : Env} {s : State} {m : MethodId} {below : List Frame} {meth : Method} {c : Code} {args : Array Value} {E : Ev} {k : Nat} (X : Bx E p m meth c cX1_howManyUp 3 (some .int) s args RX1) (hL : lay 1 k) : ∀ (n : Nat) (σ : St) (x1 x2 : Int32) (H : Heap) (locs : List Loc) (ls : Array Slot) (z : St × Int32), GS E σ s.heap H locs → lv_has ls 3 [(0, .ref (E.1 k)), (1, .int x1), (2, .int x2)] → B_X1_howManyUp_4 n σ k x1 x2 = some z → W p l e (rmd 3) s m args below meth c H locs 0 0 (QI E z below args s) (F0 m 4 ls []) := by
  have hx := X.1.1.1
  have hb := X.1.1.2.1
  intro n
  induction n with
  | zero => intro σ x1 x2 H locs ls z  hG hl hM; cases hM
  | succ n ih =>
    intro σ x1 x2 H locs ls z  hG hl hM
    unfold B_X1_howManyUp_4 at hM
    refine lv_iload_n hx hb dX1_howManyUp_4 rfl (lv_at hl 2 rfl) ?_
    refine lv_aload_n hx hb dX1_howManyUp_5 rfl (lv_at hl 0 rfl) ?_
    refine gt_1_3 X.1 hG hL mw131 dX1_howManyUp_6 ?_
    refine lv_icmp_ge (tgt := 34) hx hb dX1_howManyUp_9 (by decide) (fun c8 => ?_) (fun c8 => ?_)
    · have hM := b_if hM c8
      refine lv_iload_n hx hb dX1_howManyUp_34 rfl (lv_at hl 1 rfl) ?_
      exact e_iret X hG dX1_howManyUp_35 hM
    · have hM := b_else hM c8
      refine lv_iload_n hx hb dX1_howManyUp_12 rfl (lv_at hl 1 rfl) ?_
      refine lv_aload_n hx hb dX1_howManyUp_13 rfl (lv_at hl 0 rfl) ?_
      refine lv_iload_n hx hb dX1_howManyUp_14 rfl (lv_at hl 2 rfl) ?_
      refine g_callV_i (nA := 1) (o := M_X1_isUp σ k x2) (As := [.int x2]) X.1 hG hL rfl rfl (fun _ _ h => C_X1_isUp l E h hL) mw985 mw578 mw579 mw18 (gw_ok mw580 rfl) (by decide +kernel) rfl ⟨Nat.le_of_ble_eq_true rfl, Nat.le_of_ble_eq_true rfl⟩ hl.1 rfl (Nat.le_of_ble_eq_true rfl) ⟨Nat.le_refl _, Nat.le_refl _⟩ dX1_howManyUp_15 hM (fun σ1 r2 H locs hG hM => ?_)
      refine lv_if_eq (tgt := 25) hx hb dX1_howManyUp_18 (by decide) (fun c7 => ?_) (fun c7 => ?_)
      · have hM := b_if hM c7
        refine lv_iconst (v := (0 : Int32)) hx hb dX1_howManyUp_25 (by decide) ?_
        refine lv_iadd hx hb dX1_howManyUp_26 ?_
        refine g_name hM (fun v3 hM => ?_)
        refine lv_istore_n (lv' := [(1, .int v3), (0, .ref (E.1 k)), (2, .int x2)]) hx hb dX1_howManyUp_27 rfl hl (by decide) rfl (fun ls hl => ?_)
        obtain ⟨v4, ev4, hM⟩ := g_nm hM
        refine lv_iinc (v := v4) (lv' := [(2, .int v4), (1, .int v3), (0, .ref (E.1 k))]) hx hb dX1_howManyUp_28 hl (k := 2) rfl (by rw [ev4]; rfl) (by decide) rfl (fun ls hl => ?_)
        refine lv_goto (tgt := 4) hx hb dX1_howManyUp_31 (by decide) ?_
        exact ih σ1 v3 v4 _ _ _ z hG (lv_sub hl [2, 1, 0] rfl) hM
      · have hM := b_else hM c7
        refine lv_iconst (v := (1 : Int32)) hx hb dX1_howManyUp_21 (by decide) ?_
        refine lv_goto (tgt := 26) hx hb dX1_howManyUp_22 (by decide) ?_
        refine lv_iadd hx hb dX1_howManyUp_26 ?_
        refine g_name hM (fun v5 hM => ?_)
        refine lv_istore_n (lv' := [(1, .int v5), (0, .ref (E.1 k)), (2, .int x2)]) hx hb dX1_howManyUp_27 rfl hl (by decide) rfl (fun ls hl => ?_)
        obtain ⟨v6, ev6, hM⟩ := g_nm hM
        refine lv_iinc (v := v6) (lv' := [(2, .int v6), (1, .int v5), (0, .ref (E.1 k))]) hx hb dX1_howManyUp_28 hl (k := 2) rfl (by rw [ev6]; rfl) (by decide) rfl (fun ls hl => ?_)
        refine lv_goto (tgt := 4) hx hb dX1_howManyUp_31 (by decide) ?_
        exact ih σ1 v5 v6 _ _ _ z hG (lv_sub hl [2, 1, 0] rfl) hM
set_option maxRecDepth 20000 in
set_option maxHeartbeats 4000000 in
theorem C_X1_howManyUp (l : Launch) (E : Ev) {σ σ' : St} {k : Nat} {r : Int32} (h : M_X1_howManyUp σ k = some (σ', r)) (hL : lay 1 k) : Mi l E yX1_howManyUp cX1_howManyUp 3 (some .int) 3 [.ref (E.1 k)] σ σ' r := by
  refine Mi_of (C := RX1) rfl (by decide) (Nat.le_of_ble_eq_true rfl) (z := (σ', r)) (fun p e s m below meth c ls X hG hl => ?_)
  have hx := X.1.1.1
  have hb := X.1.1.2.1
  have hM := h
  unfold M_X1_howManyUp at hM
  generalize (σ', r) = z at hM ⊢
  have hl : lv_has ls 3 [(0, .ref (E.1 k))] := hl
  refine lv_iconst (v := (0 : Int32)) hx hb dX1_howManyUp_0 (by decide) ?_
  refine lv_istore_n (lv' := [(1, .int (0 : Int32)), (0, .ref (E.1 k))]) hx hb dX1_howManyUp_1 rfl hl (by decide) rfl (fun ls hl => ?_)
  refine lv_iconst (v := (0 : Int32)) hx hb dX1_howManyUp_2 (by decide) ?_
  refine lv_istore_n (lv' := [(2, .int (0 : Int32)), (1, .int (0 : Int32)), (0, .ref (E.1 k))]) hx hb dX1_howManyUp_3 rfl hl (by decide) rfl (fun ls hl => ?_)
  exact w_X1_howManyUp_4 X hL FU σ (0 : Int32) (0 : Int32) _ _ _ z hG (lv_sub hl [2, 1, 0] rfl) hM
def M_X1_add (σ : St) (k : Nat) (p0 : Int32) : Option (St × Int32) := bcall (M_X10_put σ (k + 1) (σ k 3) p0) fun σ1 r2 => bcall (M_X10_put σ1 (k + 2) (σ1 k 3) (-4 : Int32)) fun σ3 r4 => bcall (M_X10_put σ3 (k + 3) (σ3 k 3) (0 : Int32)) fun σ5 r6 => bput σ5 k 3 ((σ5 k 3) + (1 : Int32)) fun σ7 => some (σ7, (σ7 k 3) - (1 : Int32))
set_option maxRecDepth 20000 in
set_option maxHeartbeats 4000000 in
theorem C_X1_add (l : Launch) (E : Ev) {σ σ' : St} {k : Nat} {p0 : Int32} {r : Int32} (h : M_X1_add σ k p0 = some (σ', r)) (hL : lay 1 k) : Mi l E yX1_add cX1_add 2 (some .int) 2 [.ref (E.1 k), .int p0] σ σ' r := by
  refine Mi_of (C := RX1) rfl (by decide) (Nat.le_of_ble_eq_true rfl) (z := (σ', r)) (fun p e s m below meth c ls X hG hl => ?_)
  have hx := X.1.1.1
  have hb := X.1.1.2.1
  have hM := h
  unfold M_X1_add at hM
  generalize (σ', r) = z at hM ⊢
  have hl : lv_has ls 2 [(0, .ref (E.1 k)), (1, .int p0)] := hl
  refine lv_aload_n hx hb dX1_add_0 rfl (lv_at hl 0 rfl) ?_
  refine gt_1_0 X.1 hG hL mw128 dX1_add_1 ?_
  refine lv_aload_n hx hb dX1_add_4 rfl (lv_at hl 0 rfl) ?_
  refine gt_1_3 X.1 hG hL mw131 dX1_add_5 ?_
  refine lv_iload_n hx hb dX1_add_8 rfl (lv_at hl 1 rfl) ?_
  refine g_callSN_v (nA := 3) (o := M_X10_put σ (k + 1) (σ k 3) p0) (As := [.ref (E.1 (k + 1)), .int (σ k 3), .int p0]) X.1 hG (fun _ _ h => C_X10_put l E h (lf_1_0 hL)) mw509 mw431 mw12 (gw_ok mw432 rfl) (by decide +kernel) rfl ⟨Nat.le_of_ble_eq_true rfl, Nat.le_of_ble_eq_true rfl⟩ hl.1 rfl (Nat.le_of_ble_eq_true rfl) ⟨Nat.le_refl _, Nat.le_refl _⟩ dX1_add_9 hM (fun σ1 r2 H locs hG hM => ?_)
  refine lv_aload_n hx hb dX1_add_12 rfl (lv_at hl 0 rfl) ?_
  refine gt_1_1 X.1 hG hL mw129 dX1_add_13 ?_
  refine lv_aload_n hx hb dX1_add_16 rfl (lv_at hl 0 rfl) ?_
  refine gt_1_3 X.1 hG hL mw131 dX1_add_17 ?_
  refine lv_bipush (v := (-4 : Int32)) hx hb dX1_add_20 (by decide) ?_
  refine g_callSN_v (nA := 3) (o := M_X10_put σ1 (k + 2) (σ1 k 3) (-4 : Int32)) (As := [.ref (E.1 (k + 2)), .int (σ1 k 3), .int (-4 : Int32)]) X.1 hG (fun _ _ h => C_X10_put l E h (lf_1_1 hL)) mw509 mw431 mw12 (gw_ok mw432 rfl) (by decide +kernel) rfl ⟨Nat.le_of_ble_eq_true rfl, Nat.le_of_ble_eq_true rfl⟩ hl.1 rfl (Nat.le_of_ble_eq_true rfl) ⟨Nat.le_refl _, Nat.le_refl _⟩ dX1_add_22 hM (fun σ3 r4 H locs hG hM => ?_)
  refine lv_aload_n hx hb dX1_add_25 rfl (lv_at hl 0 rfl) ?_
  refine gt_1_2 X.1 hG hL mw130 dX1_add_26 ?_
  refine lv_aload_n hx hb dX1_add_29 rfl (lv_at hl 0 rfl) ?_
  refine gt_1_3 X.1 hG hL mw131 dX1_add_30 ?_
  refine lv_iconst (v := (0 : Int32)) hx hb dX1_add_33 (by decide) ?_
  refine g_callSN_v (nA := 3) (o := M_X10_put σ3 (k + 3) (σ3 k 3) (0 : Int32)) (As := [.ref (E.1 (k + 3)), .int (σ3 k 3), .int (0 : Int32)]) X.1 hG (fun _ _ h => C_X10_put l E h (lf_1_2 hL)) mw509 mw431 mw12 (gw_ok mw432 rfl) (by decide +kernel) rfl ⟨Nat.le_of_ble_eq_true rfl, Nat.le_of_ble_eq_true rfl⟩ hl.1 rfl (Nat.le_of_ble_eq_true rfl) ⟨Nat.le_refl _, Nat.le_refl _⟩ dX1_add_34 hM (fun σ5 r6 H locs hG hM => ?_)
  refine lv_aload_n hx hb dX1_add_37 rfl (lv_at hl 0 rfl) ?_
  refine lv_dup hx hb dX1_add_38 rfl ?_
  refine gt_1_3 X.1 hG hL mw131 dX1_add_39 ?_
  refine lv_iconst (v := (1 : Int32)) hx hb dX1_add_42 (by decide) ?_
  refine lv_iadd hx hb dX1_add_43 ?_
  refine pt_1_3 X.1 hG hL mw131 dX1_add_44 hM (fun σ7 H locs hG hM => ?_)
  refine lv_aload_n hx hb dX1_add_47 rfl (lv_at hl 0 rfl) ?_
  refine gt_1_3 X.1 hG hL mw131 dX1_add_48 ?_
  refine lv_iconst (v := (1 : Int32)) hx hb dX1_add_51 (by decide) ?_
  refine lv_isub hx hb dX1_add_52 ?_
  exact e_iret X hG dX1_add_53 hM
def M_X1_moveTo (σ : St) (k : Nat) (p0 p1 : Int32) : Option (St × Int32) := bcall (M_X10_put σ (k + 2) p0 p1) fun σ1 r2 => some (σ1, 0)
set_option maxRecDepth 20000 in
set_option maxHeartbeats 4000000 in
theorem C_X1_moveTo (l : Launch) (E : Ev) {σ σ' : St} {k : Nat} {p0 : Int32} {p1 : Int32} {r : Int32} (h : M_X1_moveTo σ k p0 p1 = some (σ', r)) (hL : lay 1 k) : Mv l E yX1_moveTo cX1_moveTo 3 2 [.ref (E.1 k), .int p0, .int p1] σ σ' := by
  refine Mv_of (C := RX1) rfl (by decide) (Nat.le_of_ble_eq_true rfl) (z := (σ', r)) (fun p e s m below meth c ls X hG hl => ?_)
  have hx := X.1.1.1
  have hb := X.1.1.2.1
  have hM := h
  unfold M_X1_moveTo at hM
  generalize (σ', r) = z at hM ⊢
  have hl : lv_has ls 3 [(0, .ref (E.1 k)), (1, .int p0), (2, .int p1)] := hl
  refine lv_aload_n hx hb dX1_moveTo_0 rfl (lv_at hl 0 rfl) ?_
  refine gt_1_1 X.1 hG hL mw129 dX1_moveTo_1 ?_
  refine lv_iload_n hx hb dX1_moveTo_4 rfl (lv_at hl 1 rfl) ?_
  refine lv_iload_n hx hb dX1_moveTo_5 rfl (lv_at hl 2 rfl) ?_
  refine g_callSN_v (nA := 3) (o := M_X10_put σ (k + 2) p0 p1) (As := [.ref (E.1 (k + 2)), .int p0, .int p1]) X.1 hG (fun _ _ h => C_X10_put l E h (lf_1_1 hL)) mw509 mw431 mw12 (gw_ok mw432 rfl) (by decide +kernel) rfl ⟨Nat.le_of_ble_eq_true rfl, Nat.le_of_ble_eq_true rfl⟩ hl.1 rfl (Nat.le_of_ble_eq_true rfl) ⟨Nat.le_refl _, Nat.le_refl _⟩ dX1_moveTo_6 hM (fun σ1 r2 H locs hG hM => ?_)
  exact e_vret X hG dX1_moveTo_9 hM
