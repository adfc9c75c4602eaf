def M_X10_put (σ : St) (a0 : Nat) (p1 p2 : Int32) : Option (St × Int32) := if p1 < 0 then some (σ, 0) else (if (Int32.ofNat (ln a0)) ≤ p1 then some (σ, 0) else (bast σ a0 p1 p2 fun σ1 => some (σ1, 0)))
set_option maxRecDepth 20000 in
set_option maxHeartbeats 4000000 in
theorem C_X10_put (l : Launch) (E : Ev) {σ σ' : St} {a0 : Nat} {p1 : Int32} {p2 : Int32} {r : Int32} (h : M_X10_put σ a0 p1 p2 = some (σ', r)) (hA0 : arr 13 a0) : Mv l E yX10_put cX10_put 3 1 [.ref (E.1 a0), .int p1, .int p2] σ σ' := by
  refine Mv_of (C := RX10) rfl (by decide) (Nat.le_of_ble_eq_true rfl) (z := (σ', r)) (fun p e s m below meth c ls X hG hl => ?_)
  have hx := X.1.1.1
  have hb := X.1.1.2.1
  have hM := h
  unfold M_X10_put at hM
  generalize (σ', r) = z at hM ⊢
  have hl : lv_has ls 3 [(0, .ref (E.1 a0)), (1, .int p1), (2, .int p2)] := hl
  refine lv_iload_n hx hb dX10_put_0 rfl (lv_at hl 1 rfl) ?_
  refine lv_if_lt (tgt := 14) hx hb dX10_put_1 (by decide) (fun c3 => ?_) (fun c3 => ?_)
  · have hM := b_if hM c3
    exact e_vret X hG dX10_put_14 hM
  · have hM := b_else hM c3
    refine lv_iload_n hx hb dX10_put_4 rfl (lv_at hl 1 rfl) ?_
    refine lv_aload_n hx hb dX10_put_5 rfl (lv_at hl 0 rfl) ?_
    refine g_len X.1 hG hA0 dX10_put_6 ?_
    refine lv_icmp_ge (tgt := 14) hx hb dX10_put_7 (by decide) (fun c2 => ?_) (fun c2 => ?_)
    · have hM := b_if hM c2
      exact e_vret X hG dX10_put_14 hM
    · have hM := b_else hM c2
      refine lv_aload_n hx hb dX10_put_10 rfl (lv_at hl 0 rfl) ?_
      refine lv_iload_n hx hb dX10_put_11 rfl (lv_at hl 1 rfl) ?_
      refine lv_iload_n hx hb dX10_put_12 rfl (lv_at hl 2 rfl) ?_
      refine g_ast X.1 hG hA0 dX10_put_13 hM (fun σ1 H locs hG hM => ?_)
      exact e_vret X hG dX10_put_14 hM
def B_X10_sum_4  : Nat → St → Nat → Int32 → Int32 → Int32 → Option (St × Int32)
  | 0, _, _, _, _, _ => none
  | n + 1, σ, a0, x1, x2, x3 => if x1 ≤ x3 then some (σ, x2) else (bcall (M_X10_at σ a0 x3) fun σ1 r2 => blet (x2 + r2) fun v3 => blet (x3 + (1 : Int32)) fun v4 => B_X10_sum_4 n σ1 a0 x1 v3 v4)
def M_X10_sum (σ : St) (a0 : Nat) (p1 : Int32) : Option (St × Int32) := B_X10_sum_4 FU σ a0 p1 (0 : Int32) (0 : Int32)
set_option maxRecDepth 20000 in
set_option maxHeartbeats 4000000 in
theorem w_X10_sum_4 {p : Program} {l : Launch} {e : Env} {s : State} {m : MethodId} {below : List Frame} {meth : Method} {c : Code} {args : Array Value} {E : Ev} {a0 : Nat} (X : Bx E p m meth c cX10_sum 4 (some .int) s args RX10) (hA0 : arr 13 a0) : ∀ (n : Nat) (σ : St) (x1 x2 x3 : Int32) (H : Heap) (locs : List Loc) (ls : Array Slot) (z : St × Int32), GS E σ s.heap H locs → lv_has ls 4 [(0, .ref (E.1 a0)), (1, .int x1), (2, .int x2), (3, .int x3)] → B_X10_sum_4 n σ a0 x1 x2 x3 = some z → W p l e (rmd 2) s m args below meth c H locs 0 0 (QI E z below args s) (F0 m 4 ls []) := by
  have hx := X.1.1.1
  have hb := X.1.1.2.1
  intro n
  induction n with
  | zero => intro σ x1 x2 x3 H locs ls z  hG hl hM; cases hM
  | succ n ih =>
    intro σ x1 x2 x3 H locs ls z  hG hl hM
    unfold B_X10_sum_4 at hM
    refine lv_iload_n hx hb dX10_sum_4 rfl (lv_at hl 3 rfl) ?_
    refine lv_iload_n hx hb dX10_sum_5 rfl (lv_at hl 1 rfl) ?_
    refine lv_icmp_ge (tgt := 23) hx hb dX10_sum_6 (by decide) (fun c5 => ?_) (fun c5 => ?_)
    · have hM := b_if hM c5
      refine lv_iload_n hx hb dX10_sum_23 rfl (lv_at hl 2 rfl) ?_
      exact e_iret X hG dX10_sum_24 hM
    · have hM := b_else hM c5
      refine lv_iload_n hx hb dX10_sum_9 rfl (lv_at hl 2 rfl) ?_
      refine lv_aload_n hx hb dX10_sum_10 rfl (lv_at hl 0 rfl) ?_
      refine lv_iload_n hx hb dX10_sum_11 rfl (lv_at hl 3 rfl) ?_
      refine g_callS_i (nA := 2) (o := M_X10_at σ a0 x3) (As := [.ref (E.1 a0), .int x3]) X.1 hG (fun _ _ h => C_X10_at l E h hA0) mw760 mw511 mw51 (gw_ok mw512 rfl) (by decide +kernel) rfl ⟨Nat.le_of_ble_eq_true rfl, Nat.le_of_ble_eq_true rfl⟩ hl.1 rfl (Nat.le_of_ble_eq_true rfl) ⟨Nat.le_refl _, Nat.le_refl _⟩ dX10_sum_12 hM (fun σ1 r2 H locs hG hM => ?_)
      refine lv_iadd hx hb dX10_sum_15 ?_
      refine g_name hM (fun v3 hM => ?_)
      refine lv_istore_n (lv' := [(2, .int v3), (0, .ref (E.1 a0)), (1, .int x1), (3, .int x3)]) hx hb dX10_sum_16 rfl hl (by decide) rfl (fun ls hl => ?_)
      obtain ⟨v4, ev4, hM⟩ := g_nm hM
      refine lv_iinc (v := v4) (lv' := [(3, .int v4), (2, .int v3), (0, .ref (E.1 a0)), (1, .int x1)]) hx hb dX10_sum_17 hl (k := 3) rfl (by rw [ev4]; rfl) (by decide) rfl (fun ls hl => ?_)
      refine lv_goto (tgt := 4) hx hb dX10_sum_20 (by decide) ?_
      exact ih σ1 x1 v3 v4 _ _ _ z hG (lv_sub hl [2, 3, 1, 0] rfl) hM
set_option maxRecDepth 20000 in
set_option maxHeartbeats 4000000 in
theorem C_X10_sum (l : Launch) (E : Ev) {σ σ' : St} {a0 : Nat} {p1 : Int32} {r : Int32} (h : M_X10_sum σ a0 p1 = some (σ', r)) (hA0 : arr 13 a0) : Mi l E yX10_sum cX10_sum 4 (some .int) 2 [.ref (E.1 a0), .int p1] σ σ' r := by
  refine Mi_of (C := RX10) rfl (by decide) (Nat.le_of_ble_eq_true rfl) (z := (σ', r)) (fun p e s m below meth c ls X hG hl => ?_)
  have hx := X.1.1.1
  have hb := X.1.1.2.1
  have hM := h
  unfold M_X10_sum at hM
  generalize (σ', r) = z at hM ⊢
  have hl : lv_has ls 4 [(0, .ref (E.1 a0)), (1, .int p1)] := hl
  refine lv_iconst (v := (0 : Int32)) hx hb dX10_sum_0 (by decide) ?_
  refine lv_istore_n (lv' := [(2, .int (0 : Int32)), (0, .ref (E.1 a0)), (1, .int p1)]) hx hb dX10_sum_1 rfl hl (by decide) rfl (fun ls hl => ?_)
  refine lv_iconst (v := (0 : Int32)) hx hb dX10_sum_2 (by decide) ?_
  refine lv_istore_n (lv' := [(3, .int (0 : Int32)), (2, .int (0 : Int32)), (0, .ref (E.1 a0)), (1, .int p1)]) hx hb dX10_sum_3 rfl hl (by decide) rfl (fun ls hl => ?_)
  exact w_X10_sum_4 X hA0 FU σ p1 (0 : Int32) (0 : Int32) _ _ _ z hG (lv_sub hl [2, 3, 1, 0] rfl) hM
def M_X10_copy (σ : St) (a0 a1 : Nat)  : Option (St × Int32) := blet (imin (Int32.ofNat (ln a0)) (Int32.ofNat (ln a1))) fun v1 => bcpy σ a0 (0 : Int32) a1 (0 : Int32) v1 fun σ2 => some (σ2, 0)
set_option maxRecDepth 20000 in
set_option maxHeartbeats 4000000 in
theorem C_X10_copy (l : Launch) (E : Ev) {σ σ' : St} {a0 : Nat} {a1 : Nat} {r : Int32} (h : M_X10_copy σ a0 a1 = some (σ', r)) (hA0 : arr 13 a0) (hA1 : arr 13 a1) : Mv l E yX10_copy cX10_copy 2 1 [.ref (E.1 a0), .ref (E.1 a1)] σ σ' := by
  refine Mv_of (C := RX10) rfl (by decide) (Nat.le_of_ble_eq_true rfl) (z := (σ', r)) (fun p e s m below meth c ls X hG hl => ?_)
  have hx := X.1.1.1
  have hb := X.1.1.2.1
  have hM := h
  unfold M_X10_copy at hM
  generalize (σ', r) = z at hM ⊢
  have hl : lv_has ls 2 [(0, .ref (E.1 a0)), (1, .ref (E.1 a1))] := hl
  refine lv_aload_n hx hb dX10_copy_0 rfl (lv_at hl 0 rfl) ?_
  refine lv_iconst (v := (0 : Int32)) hx hb dX10_copy_1 (by decide) ?_
  refine lv_aload_n hx hb dX10_copy_2 rfl (lv_at hl 1 rfl) ?_
  refine lv_iconst (v := (0 : Int32)) hx hb dX10_copy_3 (by decide) ?_
  refine lv_aload_n hx hb dX10_copy_4 rfl (lv_at hl 0 rfl) ?_
  refine g_len X.1 hG hA0 dX10_copy_5 ?_
  refine lv_aload_n hx hb dX10_copy_6 rfl (lv_at hl 1 rfl) ?_
  refine g_len X.1 hG hA1 dX10_copy_7 ?_
  refine g_min X.1 hl.1 mw432 (Nat.le_of_ble_eq_true rfl) (Nat.le_of_ble_eq_true rfl) (Nat.le_of_ble_eq_true rfl) (Nat.le_of_ble_eq_true rfl) dX10_copy_8 hM (fun v1 hM => ?_)
  refine g_copy X.1 hG hl.1 hA0 hA1 mw433 (Nat.le_of_ble_eq_true rfl) (Nat.le_of_ble_eq_true (by decide +kernel)) dX10_copy_11 hM (fun σ2 H locs hG hM => ?_)
  exact e_vret X hG dX10_copy_14 hM
def B_X10_makeOlder_3  : Nat → St → Nat → Int32 → Int32 → Int32 → Int32 → Option (St × Int32)
  | 0, _, _, _, _, _, _ => none
  | n + 1, σ, a0, x1, x2, x3, x4 => if x1 ≤ x4 then some (σ, 0) else (bcall (M_X10_at σ a0 x4) fun σ1 r2 => blet (imin (r2 + x2) x3) fun v3 => bcall (M_X10_put σ1 a0 x4 v3) fun σ4 r5 => blet (x4 + (1 : Int32)) fun v6 => B_X10_makeOlder_3 n σ4 a0 x1 x2 x3 v6)
def M_X10_makeOlder (σ : St) (a0 : Nat) (p1 p2 p3 : Int32) : Option (St × Int32) := B_X10_makeOlder_3 FU σ a0 p1 p2 p3 (0 : Int32)
set_option maxRecDepth 20000 in
set_option maxHeartbeats 4000000 in
theorem w_X10_makeOlder_3 {p : Program} {l : Launch} {e : Env} {s : State} {m : MethodId} {below : List Frame} {meth : Method} {c : Code} {args : Array Value} {E : Ev} {a0 : Nat} (X : Bx E p m meth c cX10_makeOlder 5 none s args RX10) (hA0 : arr 13 a0) : ∀ (n : Nat) (σ : St) (x1 x2 x3 x4 : Int32) (H : Heap) (locs : List Loc) (ls : Array Slot) (z : St × Int32), GS E σ s.heap H locs → lv_has ls 5 [(0, .ref (E.1 a0)), (1, .int x1), (2, .int x2), (3, .int x3), (4, .int x4)] → B_X10_makeOlder_3 n σ a0 x1 x2 x3 x4 = some z → W p l e (rmd 2) s m args below meth c H locs 0 0 (QV E z below args s) (F0 m 3 ls []) := by
  have hx := X.1.1.1
  have hb := X.1.1.2.1
  intro n
  induction n with
  | zero => intro σ x1 x2 x3 x4 H locs ls z  hG hl hM; cases hM
  | succ n ih =>
    intro σ x1 x2 x3 x4 H locs ls z  hG hl hM
    unfold B_X10_makeOlder_3 at hM
    refine lv_iload hx hb dX10_makeOlder_3 (lv_at hl 4 rfl) ?_
    refine lv_iload_n hx hb dX10_makeOlder_5 rfl (lv_at hl 1 rfl) ?_
    refine lv_icmp_ge (tgt := 33) hx hb dX10_makeOlder_6 (by decide) (fun c7 => ?_) (fun c7 => ?_)
    · have hM := b_if hM c7
      exact e_vret X hG dX10_makeOlder_33 hM
    · have hM := b_else hM c7
      refine lv_aload_n hx hb dX10_makeOlder_9 rfl (lv_at hl 0 rfl) ?_
      refine lv_iload hx hb dX10_makeOlder_10 (lv_at hl 4 rfl) ?_
      refine lv_aload_n hx hb dX10_makeOlder_12 rfl (lv_at hl 0 rfl) ?_
      refine lv_iload hx hb dX10_makeOlder_13 (lv_at hl 4 rfl) ?_
      refine g_callS_i (nA := 2) (o := M_X10_at σ a0 x4) (As := [.ref (E.1 a0), .int x4]) X.1 hG (fun _ _ h => C_X10_at l E h hA0) mw760 mw511 mw51 (gw_ok mw512 rfl) (by decide +kernel) rfl ⟨Nat.le_of_ble_eq_true rfl, Nat.le_of_ble_eq_true rfl⟩ hl.1 rfl (Nat.le_of_ble_eq_true rfl) ⟨Nat.le_refl _, Nat.le_refl _⟩ dX10_makeOlder_15 hM (fun σ1 r2 H locs hG hM => ?_)
      refine lv_iload_n hx hb dX10_makeOlder_18 rfl (lv_at hl 2 rfl) ?_
      refine lv_iadd hx hb dX10_makeOlder_19 ?_
      refine lv_iload_n hx hb dX10_makeOlder_20 rfl (lv_at hl 3 rfl) ?_
      refine g_min X.1 hl.1 mw432 (Nat.le_of_ble_eq_true rfl) (Nat.le_of_ble_eq_true rfl) (Nat.le_of_ble_eq_true rfl) (Nat.le_of_ble_eq_true rfl) dX10_makeOlder_21 hM (fun v3 hM => ?_)
      refine g_callS_v (nA := 3) (o := M_X10_put σ1 a0 x4 v3) (As := [.ref (E.1 a0), .int x4, .int v3]) X.1 hG (fun _ _ h => C_X10_put l E h hA0) mw761 mw465 mw51 (gw_ok mw466 rfl) (by decide +kernel) rfl ⟨Nat.le_of_ble_eq_true rfl, Nat.le_of_ble_eq_true rfl⟩ hl.1 rfl (Nat.le_of_ble_eq_true rfl) ⟨Nat.le_refl _, Nat.le_refl _⟩ dX10_makeOlder_24 hM (fun σ4 r5 H locs hG hM => ?_)
      obtain ⟨v6, ev6, hM⟩ := g_nm hM
      refine lv_iinc (v := v6) (lv' := [(4, .int v6), (0, .ref (E.1 a0)), (1, .int x1), (2, .int x2), (3, .int x3)]) hx hb dX10_makeOlder_27 hl (k := 4) rfl (by rw [ev6]; rfl) (by decide) rfl (fun ls hl => ?_)
      refine lv_goto (tgt := 3) hx hb dX10_makeOlder_30 (by decide) ?_
      exact ih σ4 x1 x2 x3 v6 _ _ _ z hG (lv_sub hl [1, 2, 3, 4, 0] rfl) hM
set_option maxRecDepth 20000 in
set_option maxHeartbeats 4000000 in
theorem C_X10_makeOlder (l : Launch) (E : Ev) {σ σ' : St} {a0 : Nat} {p1 : Int32} {p2 : Int32} {p3 : Int32} {r : Int32} (h : M_X10_makeOlder σ a0 p1 p2 p3 = some (σ', r)) (hA0 : arr 13 a0) : Mv l E yX10_makeOlder cX10_makeOlder 5 2 [.ref (E.1 a0), .int p1, .int p2, .int p3] σ σ' := by
  refine Mv_of (C := RX10) rfl (by decide) (Nat.le_of_ble_eq_true rfl) (z := (σ', r)) (fun p e s m below meth c ls X hG hl => ?_)
  have hx := X.1.1.1
  have hb := X.1.1.2.1
  have hM := h
  unfold M_X10_makeOlder at hM
  generalize (σ', r) = z at hM ⊢
  have hl : lv_has ls 5 [(0, .ref (E.1 a0)), (1, .int p1), (2, .int p2), (3, .int p3)] := hl
  refine lv_iconst (v := (0 : Int32)) hx hb dX10_makeOlder_0 (by decide) ?_
  refine lv_istore (lv' := [(4, .int (0 : Int32)), (0, .ref (E.1 a0)), (1, .int p1), (2, .int p2), (3, .int p3)]) hx hb dX10_makeOlder_1 hl (by decide) rfl (fun ls hl => ?_)
  exact w_X10_makeOlder_3 X hA0 FU σ p1 p2 p3 (0 : Int32) _ _ _ z hG (lv_sub hl [1, 2, 3, 4, 0] rfl) hM
def B_X11_begins_2  : Nat → St → Nat → Int32 → Option (St × Int32)
  | 0, _, _, _ => none
  | n + 1, σ, k, x1 => if (111 : Int32) ≤ x1 then (bast σ (k + 1) (6 : Int32) (60 : Int32) fun σ1 => bast σ1 (k + 1) (7 : Int32) (20 : Int32) fun σ2 => some (σ2, 0)) else (bast σ (k + 1) x1 (0 : Int32) fun σ3 => blet (x1 + (1 : Int32)) fun v4 => B_X11_begins_2 n σ3 k v4)
def M_X11_begins (σ : St) (k : Nat)  : Option (St × Int32) := B_X11_begins_2 FU σ k (0 : Int32)
set_option maxRecDepth 20000 in
set_option maxHeartbeats 4000000 in
theorem w_X11_begins_2 {p : Program} {l : Launch} {e : Env} {s : State} {m : MethodId} {below : List Frame} {meth : Method} {c : Code} {args : Array Value} {E : Ev} {k : Nat} (X : Bx E p m meth c cX11_begins 2 none s args RX11) (hL : lay 11 k) : ∀ (n : Nat) (σ : St) (x1 : Int32) (H : Heap) (locs : List Loc) (ls : Array Slot) (z : St × Int32), GS E σ s.heap H locs → lv_has ls 2 [(0, .ref (E.1 k)), (1, .int x1)] → B_X11_begins_2 n σ k x1 = some z → W p l e (rmd 1) s m args below meth c H locs 0 0 (QV E z below args s) (F0 m 2 ls []) := by
  have hx := X.1.1.1
  have hb := X.1.1.2.1
  intro n
  induction n with
  | zero => intro σ x1 H locs ls z  hG hl hM; cases hM
  | succ n ih =>
    intro σ x1 H locs ls z  hG hl hM
    unfold B_X11_begins_2 at hM
    refine lv_iload_n hx hb dX11_begins_2 rfl (lv_at hl 1 rfl) ?_
    refine lv_bipush (v := (111 : Int32)) hx hb dX11_begins_3 (by decide) ?_
    refine lv_icmp_ge (tgt := 21) hx hb dX11_begins_5 (by decide) (fun c5 => ?_) (fun c5 => ?_)
    · have hM := b_if hM c5
      refine lv_aload_n hx hb dX11_begins_21 rfl (lv_at hl 0 rfl) ?_
      refine gt_11_0 X.1 hG hL mw1119 dX11_begins_22 ?_
      refine lv_bipush (v := (6 : Int32)) hx hb dX11_begins_25 (by decide) ?_
      refine lv_bipush (v := (60 : Int32)) hx hb dX11_begins_27 (by decide) ?_
      refine g_ast X.1 hG (lf_11_0 hL) dX11_begins_29 hM (fun σ1 H locs hG hM => ?_)
      refine lv_aload_n hx hb dX11_begins_30 rfl (lv_at hl 0 rfl) ?_
      refine gt_11_0 X.1 hG hL mw1119 dX11_begins_31 ?_
      refine lv_bipush (v := (7 : Int32)) hx hb dX11_begins_34 (by decide) ?_
      refine lv_bipush (v := (20 : Int32)) hx hb dX11_begins_36 (by decide) ?_
      refine g_ast X.1 hG (lf_11_0 hL) dX11_begins_38 hM (fun σ2 H locs hG hM => ?_)
      exact e_vret X hG dX11_begins_39 hM
    · have hM := b_else hM c5
      refine lv_aload_n hx hb dX11_begins_8 rfl (lv_at hl 0 rfl) ?_
      refine gt_11_0 X.1 hG hL mw1119 dX11_begins_9 ?_
      refine lv_iload_n hx hb dX11_begins_12 rfl (lv_at hl 1 rfl) ?_
      refine lv_iconst (v := (0 : Int32)) hx hb dX11_begins_13 (by decide) ?_
      refine g_ast X.1 hG (lf_11_0 hL) dX11_begins_14 hM (fun σ3 H locs hG hM => ?_)
      obtain ⟨v4, ev4, hM⟩ := g_nm hM
      refine lv_iinc (v := v4) (lv' := [(1, .int v4), (0, .ref (E.1 k))]) hx hb dX11_begins_15 hl (k := 1) rfl (by rw [ev4]; rfl) (by decide) rfl (fun ls hl => ?_)
      refine lv_goto (tgt := 2) hx hb dX11_begins_18 (by decide) ?_
      exact ih σ3 v4 _ _ _ z hG (lv_sub hl [1, 0] rfl) hM
set_option maxRecDepth 20000 in
set_option maxHeartbeats 4000000 in
theorem C_X11_begins (l : Launch) (E : Ev) {σ σ' : St} {k : Nat} {r : Int32} (h : M_X11_begins σ k = some (σ', r)) (hL : lay 11 k) : Mv l E yX11_begins cX11_begins 2 1 [.ref (E.1 k)] σ σ' := by
  refine Mv_of (C := RX11) rfl (by decide) (Nat.le_of_ble_eq_true rfl) (z := (σ', r)) (fun p e s m below meth c ls X hG hl => ?_)
  have hx := X.1.1.1
  have hb := X.1.1.2.1
  have hM := h
  unfold M_X11_begins at hM
  generalize (σ', r) = z at hM ⊢
  have hl : lv_has ls 2 [(0, .ref (E.1 k))] := hl
  refine lv_iconst (v := (0 : Int32)) hx hb dX11_begins_0 (by decide) ?_
  refine lv_istore_n (lv' := [(1, .int (0 : Int32)), (0, .ref (E.1 k))]) hx hb dX11_begins_1 rfl hl (by decide) rfl (fun ls hl => ?_)
  exact w_X11_begins_2 X hL FU σ (0 : Int32) _ _ _ z hG (lv_sub hl [1, 0] rfl) hM
def M_X11_in (σ : St)  (p0 p1 p2 : Int32) : Option (St × Int32) := if p0 < p1 then some (σ, (0 : Int32)) else (if p2 < p0 then some (σ, (0 : Int32)) else some (σ, (1 : Int32)))
set_option maxRecDepth 20000 in
set_option maxHeartbeats 4000000 in
theorem C_X11_in (l : Launch) (E : Ev) {σ σ' : St} {p0 : Int32} {p1 : Int32} {p2 : Int32} {r : Int32} (h : M_X11_in σ p0 p1 p2 = some (σ', r)) : Mi l E yX11_in cX11_in 3 (some .boolean) 1 [.int p0, .int p1, .int p2] σ σ' r := by
  refine Mi_of (C := RX11) rfl (by decide) (Nat.le_of_ble_eq_true rfl) (z := (σ', r)) (fun p e s m below meth c ls X hG hl => ?_)
  have hx := X.1.1.1
  have hb := X.1.1.2.1
  have hM := h
  unfold M_X11_in at hM
  generalize (σ', r) = z at hM ⊢
  have hl : lv_has ls 3 [(0, .int p0), (1, .int p1), (2, .int p2)] := hl
  refine lv_iload_n hx hb dX11_in_0 rfl (lv_at hl 0 rfl) ?_
  refine lv_iload_n hx hb dX11_in_1 rfl (lv_at hl 1 rfl) ?_
  refine lv_icmp_lt (tgt := 14) hx hb dX11_in_2 (by decide) (fun c2 => ?_) (fun c2 => ?_)
  · have hM := b_if hM c2
    refine lv_iconst (v := (0 : Int32)) hx hb dX11_in_14 (by decide) ?_
    exact e_zret X hG (by decide) dX11_in_15 hM
  · have hM := b_else hM c2
    refine lv_iload_n hx hb dX11_in_5 rfl (lv_at hl 0 rfl) ?_
    refine lv_iload_n hx hb dX11_in_6 rfl (lv_at hl 2 rfl) ?_
    refine lv_icmp_gt (tgt := 14) hx hb dX11_in_7 (by decide) (fun c1 => ?_) (fun c1 => ?_)
    · have hM := b_if hM c1
      refine lv_iconst (v := (0 : Int32)) hx hb dX11_in_14 (by decide) ?_
      exact e_zret X hG (by decide) dX11_in_15 hM
    · have hM := b_else hM c1
      refine lv_iconst (v := (1 : Int32)) hx hb dX11_in_10 (by decide) ?_
      refine lv_goto (tgt := 15) hx hb dX11_in_11 (by decide) ?_
      exact e_zret X hG (by decide) dX11_in_15 hM
def B_X11_tries_2  : Nat → St → Nat → Int32 → Option (St × Int32)
  | 0, _, _, _ => none
  | n + 1, σ, k, x1 => if (111 : Int32) ≤ x1 then some (σ, 0) else (bald σ (k + 1) x1 fun q1 => bast σ (k + 2) x1 q1 fun σ2 => blet (x1 + (1 : Int32)) fun v3 => B_X11_tries_2 n σ2 k v3)
def M_X11_tries (σ : St) (k : Nat)  : Option (St × Int32) := B_X11_tries_2 FU σ k (0 : Int32)
set_option maxRecDepth 20000 in
set_option maxHeartbeats 4000000 in
theorem w_X11_tries_2 {p : Program} {l : Launch} {e : Env} {s : State} {m : MethodId} {below : List Frame} {meth : Method} {c : Code} {args : Array Value} {E : Ev} {k : Nat} (X : Bx E p m meth c cX11_tries 2 none s args RX11) (hL : lay 11 k) : ∀ (n : Nat) (σ : St) (x1 : Int32) (H : Heap) (locs : List Loc) (ls : Array Slot) (z : St × Int32), GS E σ s.heap H locs → lv_has ls 2 [(0, .ref (E.1 k)), (1, .int x1)] → B_X11_tries_2 n σ k x1 = some z → W p l e (rmd 1) s m args below meth c H locs 0 0 (QV E z below args s) (F0 m 2 ls []) := by
  have hx := X.1.1.1
  have hb := X.1.1.2.1
  intro n
  induction n with
  | zero => intro σ x1 H locs ls z  hG hl hM; cases hM
  | succ n ih =>
    intro σ x1 H locs ls z  hG hl hM
    unfold B_X11_tries_2 at hM
    refine lv_iload_n hx hb dX11_tries_2 rfl (lv_at hl 1 rfl) ?_
    refine lv_bipush (v := (111 : Int32)) hx hb dX11_tries_3 (by decide) ?_
    refine lv_icmp_ge (tgt := 26) hx hb dX11_tries_5 (by decide) (fun c4 => ?_) (fun c4 => ?_)
    · have hM := b_if hM c4
      exact e_vret X hG dX11_tries_26 hM
    · have hM := b_else hM c4
      refine lv_aload_n hx hb dX11_tries_8 rfl (lv_at hl 0 rfl) ?_
      refine gt_11_1 X.1 hG hL mw1120 dX11_tries_9 ?_
      refine lv_iload_n hx hb dX11_tries_12 rfl (lv_at hl 1 rfl) ?_
      refine lv_aload_n hx hb dX11_tries_13 rfl (lv_at hl 0 rfl) ?_
      refine gt_11_0 X.1 hG hL mw1119 dX11_tries_14 ?_
      refine lv_iload_n hx hb dX11_tries_17 rfl (lv_at hl 1 rfl) ?_
      refine g_ald X.1 hG (lf_11_0 hL) dX11_tries_18 hM (fun q1 hM => ?_)
      refine g_ast X.1 hG (lf_11_1 hL) dX11_tries_19 hM (fun σ2 H locs hG hM => ?_)
      obtain ⟨v3, ev3, hM⟩ := g_nm hM
      refine lv_iinc (v := v3) (lv' := [(1, .int v3), (0, .ref (E.1 k))]) hx hb dX11_tries_20 hl (k := 1) rfl (by rw [ev3]; rfl) (by decide) rfl (fun ls hl => ?_)
      refine lv_goto (tgt := 2) hx hb dX11_tries_23 (by decide) ?_
      exact ih σ2 v3 _ _ _ z hG (lv_sub hl [1, 0] rfl) hM
set_option maxRecDepth 20000 in
set_option maxHeartbeats 4000000 in
theorem C_X11_tries (l : Launch) (E : Ev) {σ σ' : St} {k : Nat} {r : Int32} (h : M_X11_tries σ k = some (σ', r)) (hL : lay 11 k) : Mv l E yX11_tries cX11_tries 2 1 [.ref (E.1 k)] σ σ' := by
  refine Mv_of (C := RX11) rfl (by decide) (Nat.le_of_ble_eq_true rfl) (z := (σ', r)) (fun p e s m below meth c ls X hG hl => ?_)
  have hx := X.1.1.1
  have hb := X.1.1.2.1
  have hM := h
  unfold M_X11_tries at hM
  generalize (σ', r) = z at hM ⊢
  have hl : lv_has ls 2 [(0, .ref (E.1 k))] := hl
  refine lv_iconst (v := (0 : Int32)) hx hb dX11_tries_0 (by decide) ?_
  refine lv_istore_n (lv' := [(1, .int (0 : Int32)), (0, .ref (E.1 k))]) hx hb dX11_tries_1 rfl hl (by decide) rfl (fun ls hl => ?_)
  exact w_X11_tries_2 X hL FU σ (0 : Int32) _ _ _ z hG (lv_sub hl [1, 0] rfl) hM
def B_X11_comesBack_2  : Nat → St → Nat → Int32 → Option (St × Int32)
  | 0, _, _, _ => none
  | n + 1, σ, k, x1 => if (111 : Int32) ≤ x1 then some (σ, 0) else (bald σ (k + 2) x1 fun q1 => bast σ (k + 1) x1 q1 fun σ2 => blet (x1 + (1 : Int32)) fun v3 => B_X11_comesBack_2 n σ2 k v3)
def M_X11_comesBack (σ : St) (k : Nat)  : Option (St × Int32) := B_X11_comesBack_2 FU σ k (0 : Int32)
set_option maxRecDepth 20000 in
set_option maxHeartbeats 4000000 in
theorem w_X11_comesBack_2 {p : Program} {l : Launch} {e : Env} {s : State} {m : MethodId} {below : List Frame} {meth : Method} {c : Code} {args : Array Value} {E : Ev} {k : Nat} (X : Bx E p m meth c cX11_comesBack 2 none s args RX11) (hL : lay 11 k) : ∀ (n : Nat) (σ : St) (x1 : Int32) (H : Heap) (locs : List Loc) (ls : Array Slot) (z : St × Int32), GS E σ s.heap H locs → lv_has ls 2 [(0, .ref (E.1 k)), (1, .int x1)] → B_X11_comesBack_2 n σ k x1 = some z → W p l e (rmd 1) s m args below meth c H locs 0 0 (QV E z below args s) (F0 m 2 ls []) := by
  have hx := X.1.1.1
  have hb := X.1.1.2.1
  intro n
  induction n with
  | zero => intro σ x1 H locs ls z  hG hl hM; cases hM
  | succ n ih =>
    intro σ x1 H locs ls z  hG hl hM
    unfold B_X11_comesBack_2 at hM
    refine lv_iload_n hx hb dX11_comesBack_2 rfl (lv_at hl 1 rfl) ?_
    refine lv_bipush (v := (111 : Int32)) hx hb dX11_comesBack_3 (by decide) ?_
    refine lv_icmp_ge (tgt := 26) hx hb dX11_comesBack_5 (by decide) (fun c4 => ?_) (fun c4 => ?_)
    · have hM := b_if hM c4
      exact e_vret X hG dX11_comesBack_26 hM
    · have hM := b_else hM c4
      refine lv_aload_n hx hb dX11_comesBack_8 rfl (lv_at hl 0 rfl) ?_
      refine gt_11_0 X.1 hG hL mw1119 dX11_comesBack_9 ?_
      refine lv_iload_n hx hb dX11_comesBack_12 rfl (lv_at hl 1 rfl) ?_
      refine lv_aload_n hx hb dX11_comesBack_13 rfl (lv_at hl 0 rfl) ?_
      refine gt_11_1 X.1 hG hL mw1120 dX11_comesBack_14 ?_
      refine lv_iload_n hx hb dX11_comesBack_17 rfl (lv_at hl 1 rfl) ?_
      refine g_ald X.1 hG (lf_11_1 hL) dX11_comesBack_18 hM (fun q1 hM => ?_)
      refine g_ast X.1 hG (lf_11_0 hL) dX11_comesBack_19 hM (fun σ2 H locs hG hM => ?_)
      obtain ⟨v3, ev3, hM⟩ := g_nm hM
      refine lv_iinc (v := v3) (lv' := [(1, .int v3), (0, .ref (E.1 k))]) hx hb dX11_comesBack_20 hl (k := 1) rfl (by rw [ev3]; rfl) (by decide) rfl (fun ls hl => ?_)
      refine lv_goto (tgt := 2) hx hb dX11_comesBack_23 (by decide) ?_
      exact ih σ2 v3 _ _ _ z hG (lv_sub hl [1, 0] rfl) hM
set_option maxRecDepth 20000 in
set_option maxHeartbeats 4000000 in
theorem C_X11_comesBack (l : Launch) (E : Ev) {σ σ' : St} {k : Nat} {r : Int32} (h : M_X11_comesBack σ k = some (σ', r)) (hL : lay 11 k) : Mv l E yX11_comesBack cX11_comesBack 2 1 [.ref (E.1 k)] σ σ' := by
  refine Mv_of (C := RX11) rfl (by decide) (Nat.le_of_ble_eq_true rfl) (z := (σ', r)) (fun p e s m below meth c ls X hG hl => ?_)
  have hx := X.1.1.1
  have hb := X.1.1.2.1
  have hM := h
  unfold M_X11_comesBack at hM
  generalize (σ', r) = z at hM ⊢
  have hl : lv_has ls 2 [(0, .ref (E.1 k))] := hl
  refine lv_iconst (v := (0 : Int32)) hx hb dX11_comesBack_0 (by decide) ?_
  refine lv_istore_n (lv' := [(1, .int (0 : Int32)), (0, .ref (E.1 k))]) hx hb dX11_comesBack_1 rfl hl (by decide) rfl (fun ls hl => ?_)
  exact w_X11_comesBack_2 X hL FU σ (0 : Int32) _ _ _ z hG (lv_sub hl [1, 0] rfl) hM
def B_X11_thinks_2  : Nat → St → Nat → Int32 → Option (St × Int32)
  | 0, _, _, _ => none
  | n + 1, σ, k, x1 => if (111 : Int32) ≤ x1 then some (σ, 0) else (bald σ (k + 1) x1 fun q1 => bast σ (k + 3) x1 q1 fun σ2 => blet (x1 + (1 : Int32)) fun v3 => B_X11_thinks_2 n σ2 k v3)
def M_X11_thinks (σ : St) (k : Nat)  : Option (St × Int32) := B_X11_thinks_2 FU σ k (0 : Int32)
set_option maxRecDepth 20000 in
set_option maxHeartbeats 4000000 in
theorem w_X11_thinks_2 {p : Program} {l : Launch} {e : Env} {s : State} {m : MethodId} {below : List Frame} {meth : Method} {c : Code} {args : Array Value} {E : Ev} {k : Nat} (X : Bx E p m meth c cX11_thinks 2 none s args RX11) (hL : lay 11 k) : ∀ (n : Nat) (σ : St) (x1 : Int32) (H : Heap) (locs : List Loc) (ls : Array Slot) (z : St × Int32), GS E σ s.heap H locs → lv_has ls 2 [(0, .ref (E.1 k)), (1, .int x1)] → B_X11_thinks_2 n σ k x1 = some z → W p l e (rmd 1) s m args below meth c H locs 0 0 (QV E z below args s) (F0 m 2 ls []) := by
  have hx := X.1.1.1
  have hb := X.1.1.2.1
  intro n
  induction n with
  | zero => intro σ x1 H locs ls z  hG hl hM; cases hM
  | succ n ih =>
    intro σ x1 H locs ls z  hG hl hM
    unfold B_X11_thinks_2 at hM
    refine lv_iload_n hx hb dX11_thinks_2 rfl (lv_at hl 1 rfl) ?_
    refine lv_bipush (v := (111 : Int32)) hx hb dX11_thinks_3 (by decide) ?_
    refine lv_icmp_ge (tgt := 26) hx hb dX11_thinks_5 (by decide) (fun c4 => ?_) (fun c4 => ?_)
    · have hM := b_if hM c4
      exact e_vret X hG dX11_thinks_26 hM
    · have hM := b_else hM c4
      refine lv_aload_n hx hb dX11_thinks_8 rfl (lv_at hl 0 rfl) ?_
      refine gt_11_2 X.1 hG hL mw1121 dX11_thinks_9 ?_
      refine lv_iload_n hx hb dX11_thinks_12 rfl (lv_at hl 1 rfl) ?_
      refine lv_aload_n hx hb dX11_thinks_13 rfl (lv_at hl 0 rfl) ?_
      refine gt_11_0 X.1 hG hL mw1119 dX11_thinks_14 ?_
      refine lv_iload_n hx hb dX11_thinks_17 rfl (lv_at hl 1 rfl) ?_
      refine g_ald X.1 hG (lf_11_0 hL) dX11_thinks_18 hM (fun q1 hM => ?_)
      refine g_ast X.1 hG (lf_11_2 hL) dX11_thinks_19 hM (fun σ2 H locs hG hM => ?_)
      obtain ⟨v3, ev3, hM⟩ := g_nm hM
      refine lv_iinc (v := v3) (lv' := [(1, .int v3), (0, .ref (E.1 k))]) hx hb dX11_thinks_20 hl (k := 1) rfl (by rw [ev3]; rfl) (by decide) rfl (fun ls hl => ?_)
      refine lv_goto (tgt := 2) hx hb dX11_thinks_23 (by decide) ?_
      exact ih σ2 v3 _ _ _ z hG (lv_sub hl [1, 0] rfl) hM
set_option maxRecDepth 20000 in
set_option maxHeartbeats 4000000 in
theorem C_X11_thinks (l : Launch) (E : Ev) {σ σ' : St} {k : Nat} {r : Int32} (h : M_X11_thinks σ k = some (σ', r)) (hL : lay 11 k) : Mv l E yX11_thinks cX11_thinks 2 1 [.ref (E.1 k)] σ σ' := by
  refine Mv_of (C := RX11) rfl (by decide) (Nat.le_of_ble_eq_true rfl) (z := (σ', r)) (fun p e s m below meth c ls X hG hl => ?_)
  have hx := X.1.1.1
  have hb := X.1.1.2.1
  have hM := h
  unfold M_X11_thinks at hM
  generalize (σ', r) = z at hM ⊢
  have hl : lv_has ls 2 [(0, .ref (E.1 k))] := hl
  refine lv_iconst (v := (0 : Int32)) hx hb dX11_thinks_0 (by decide) ?_
  refine lv_istore_n (lv' := [(1, .int (0 : Int32)), (0, .ref (E.1 k))]) hx hb dX11_thinks_1 rfl hl (by decide) rfl (fun ls hl => ?_)
  exact w_X11_thinks_2 X hL FU σ (0 : Int32) _ _ _ z hG (lv_sub hl [1, 0] rfl) hM
def B_X11_thinksNoMore_2  : Nat → St → Nat → Int32 → Option (St × Int32)
  | 0, _, _, _ => none
  | n + 1, σ, k, x1 => if (111 : Int32) ≤ x1 then some (σ, 0) else (bald σ (k + 3) x1 fun q1 => bast σ (k + 1) x1 q1 fun σ2 => blet (x1 + (1 : Int32)) fun v3 => B_X11_thinksNoMore_2 n σ2 k v3)
def M_X11_thinksNoMore (σ : St) (k : Nat)  : Option (St × Int32) := B_X11_thinksNoMore_2 FU σ k (0 : Int32)
set_option maxRecDepth 20000 in
set_option maxHeartbeats 4000000 in
theorem w_X11_thinksNoMore_2 {p : Program} {l : Launch} {e : Env} {s : State} {m : MethodId} {below : List Frame} {meth : Method} {c : Code} {args : Array Value} {E : Ev} {k : Nat} (X : Bx E p m meth c cX11_thinksNoMore 2 none s args RX11) (hL : lay 11 k) : ∀ (n : Nat) (σ : St) (x1 : Int32) (H : Heap) (locs : List Loc) (ls : Array Slot) (z : St × Int32), GS E σ s.heap H locs → lv_has ls 2 [(0, .ref (E.1 k)), (1, .int x1)] → B_X11_thinksNoMore_2 n σ k x1 = some z → W p l e (rmd 1) s m args below meth c H locs 0 0 (QV E z below args s) (F0 m 2 ls []) := by
  have hx := X.1.1.1
  have hb := X.1.1.2.1
  intro n
  induction n with
  | zero => intro σ x1 H locs ls z  hG hl hM; cases hM
  | succ n ih =>
    intro σ x1 H locs ls z  hG hl hM
    unfold B_X11_thinksNoMore_2 at hM
    refine lv_iload_n hx hb dX11_thinksNoMore_2 rfl (lv_at hl 1 rfl) ?_
    refine lv_bipush (v := (111 : Int32)) hx hb dX11_thinksNoMore_3 (by decide) ?_
    refine lv_icmp_ge (tgt := 26) hx hb dX11_thinksNoMore_5 (by decide) (fun c4 => ?_) (fun c4 => ?_)
    · have hM := b_if hM c4
      exact e_vret X hG dX11_thinksNoMore_26 hM
    · have hM := b_else hM c4
      refine lv_aload_n hx hb dX11_thinksNoMore_8 rfl (lv_at hl 0 rfl) ?_
      refine gt_11_0 X.1 hG hL mw1119 dX11_thinksNoMore_9 ?_
      refine lv_iload_n hx hb dX11_thinksNoMore_12 rfl (lv_at hl 1 rfl) ?_
      refine lv_aload_n hx hb dX11_thinksNoMore_13 rfl (lv_at hl 0 rfl) ?_
      refine gt_11_2 X.1 hG hL mw1121 dX11_thinksNoMore_14 ?_
      refine lv_iload_n hx hb dX11_thinksNoMore_17 rfl (lv_at hl 1 rfl) ?_
      refine g_ald X.1 hG (lf_11_2 hL) dX11_thinksNoMore_18 hM (fun q1 hM => ?_)
      refine g_ast X.1 hG (lf_11_0 hL) dX11_thinksNoMore_19 hM (fun σ2 H locs hG hM => ?_)
      obtain ⟨v3, ev3, hM⟩ := g_nm hM
      refine lv_iinc (v := v3) (lv' := [(1, .int v3), (0, .ref (E.1 k))]) hx hb dX11_thinksNoMore_20 hl (k := 1) rfl (by rw [ev3]; rfl) (by decide) rfl (fun ls hl => ?_)
      refine lv_goto (tgt := 2) hx hb dX11_thinksNoMore_23 (by decide) ?_
      exact ih σ2 v3 _ _ _ z hG (lv_sub hl [1, 0] rfl) hM
set_option maxRecDepth 20000 in
set_option maxHeartbeats 4000000 in
theorem C_X11_thinksNoMore (l : Launch) (E : Ev) {σ σ' : St} {k : Nat} {r : Int32} (h : M_X11_thinksNoMore σ k = some (σ', r)) (hL : lay 11 k) : Mv l E yX11_thinksNoMore cX11_thinksNoMore 2 1 [.ref (E.1 k)] σ σ' := by
  refine Mv_of (C := RX11) rfl (by decide) (Nat.le_of_ble_eq_true rfl) (z := (σ', r)) (fun p e s m below meth c ls X hG hl => ?_)
  have hx := X.1.1.1
  have hb := X.1.1.2.1
  have hM := h
  unfold M_X11_thinksNoMore at hM
  generalize (σ', r) = z at hM ⊢
  have hl : lv_has ls 2 [(0, .ref (E.1 k))] := hl
  refine lv_iconst (v := (0 : Int32)) hx hb dX11_thinksNoMore_0 (by decide) ?_
  refine lv_istore_n (lv' := [(1, .int (0 : Int32)), (0, .ref (E.1 k))]) hx hb dX11_thinksNoMore_1 rfl hl (by decide) rfl (fun ls hl => ?_)
  exact w_X11_thinksNoMore_2 X hL FU σ (0 : Int32) _ _ _ z hG (lv_sub hl [1, 0] rfl) hM
def B_X11_keeps_51  : Nat → St → Nat → Int32 → Int32 → Option (St × Int32)
  | 0, _, _, _, _ => none
  | n + 1, σ, k, x1, x2 => if (111 : Int32) ≤ x2 then (bput σ k 4 ((σ k 4) + (1 : Int32)) fun σ1 => some (σ1, x1)) else (bald σ (k + 2) x2 fun q2 => bast σ (k + 4) (((111 : Int32) * (σ k 4)) + x2) q2 fun σ3 => blet (x2 + (1 : Int32)) fun v4 => B_X11_keeps_51 n σ3 k x1 v4)
def B_X11_keeps_49 (σ : St) (k : Nat) (x1 : Int32) : Option (St × Int32) := B_X11_keeps_51 FU σ k x1 (0 : Int32)
def B_X11_keeps_11  : Nat → St → Nat → Int32 → Int32 → Option (St × Int32)
  | 0, _, _, _, _ => none
  | n + 1, σ, k, x1, x2 => if (777 : Int32) ≤ x2 then (bput σ k 4 ((σ k 4) - (1 : Int32)) fun σ6 => B_X11_keeps_49 σ6 k x1) else (bald σ (k + 4) ((111 : Int32) + x2) fun q7 => bast σ (k + 4) x2 q7 fun σ8 => blet (x2 + (1 : Int32)) fun v9 => B_X11_keeps_11 n σ8 k x1 v9)
def M_X11_keeps (σ : St) (k : Nat) (p0 : Int32) : Option (St × Int32) := if (σ k 4) = (8 : Int32) then (B_X11_keeps_11 FU σ k p0 (0 : Int32)) else (B_X11_keeps_49 σ k p0)
set_option maxRecDepth 20000 in
set_option maxHeartbeats 4000000 in
theorem w_X11_keeps_51 {p : Program} {l : Launch} {e : Env} {s : State} {m : MethodId} {below : List Frame} {meth : Method} {c : Code} {args : Array Value} {E : Ev} {k : Nat} (X : Bx E p m meth c cX11_keeps 3 (some .int) s args RX11) (hL : lay 11 k) : ∀ (n : Nat) (σ : St) (x1 x2 : Int32) (H : Heap) (locs : List Loc) (ls : Array Slot) (z : St × Int32), GS E σ s.heap H locs → lv_has ls 3 [(0, .ref (E.1 k)), (1, .int x1), (2, .int x2)] → B_X11_keeps_51 n σ k x1 x2 = some z → W p l e (rmd 1) s m args below meth c H locs 0 0 (QI E z below args s) (F0 m 51 ls []) := by
  have hx := X.1.1.1
  have hb := X.1.1.2.1
  intro n
  induction n with
  | zero => intro σ x1 x2 H locs ls z  hG hl hM; cases hM
  | succ n ih =>
    intro σ x1 x2 H locs ls z  hG hl hM
    unfold B_X11_keeps_51 at hM
    refine lv_iload_n hx hb dX11_keeps_51 rfl (lv_at hl 2 rfl) ?_
    refine lv_bipush (v := (111 : Int32)) hx hb dX11_keeps_52 (by decide) ?_
    refine lv_icmp_ge (tgt := 83) hx hb dX11_keeps_54 (by decide) (fun c5 => ?_) (fun c5 => ?_)
    · have hM := b_if hM c5
      refine lv_aload_n hx hb dX11_keeps_83 rfl (lv_at hl 0 rfl) ?_
      refine lv_dup hx hb dX11_keeps_84 rfl ?_
      refine gt_11_4 X.1 hG hL mw1123 dX11_keeps_85 ?_
      refine lv_iconst (v := (1 : Int32)) hx hb dX11_keeps_88 (by decide) ?_
      refine lv_iadd hx hb dX11_keeps_89 ?_
      refine pt_11_4 X.1 hG hL mw1123 dX11_keeps_90 hM (fun σ1 H locs hG hM => ?_)
      refine lv_iload_n hx hb dX11_keeps_93 rfl (lv_at hl 1 rfl) ?_
      exact e_iret X hG dX11_keeps_94 hM
    · have hM := b_else hM c5
      refine lv_aload_n hx hb dX11_keeps_57 rfl (lv_at hl 0 rfl) ?_
      refine gt_11_3 X.1 hG hL mw1122 dX11_keeps_58 ?_
      refine lv_bipush (v := (111 : Int32)) hx hb dX11_keeps_61 (by decide) ?_
      refine lv_aload_n hx hb dX11_keeps_63 rfl (lv_at hl 0 rfl) ?_
      refine gt_11_4 X.1 hG hL mw1123 dX11_keeps_64 ?_
      refine lv_imul hx hb dX11_keeps_67 ?_
      refine lv_iload_n hx hb dX11_keeps_68 rfl (lv_at hl 2 rfl) ?_
      refine lv_iadd hx hb dX11_keeps_69 ?_
      refine lv_aload_n hx hb dX11_keeps_70 rfl (lv_at hl 0 rfl) ?_
      refine gt_11_1 X.1 hG hL mw1120 dX11_keeps_71 ?_
      refine lv_iload_n hx hb dX11_keeps_74 rfl (lv_at hl 2 rfl) ?_
      refine g_ald X.1 hG (lf_11_1 hL) dX11_keeps_75 hM (fun q2 hM => ?_)
      refine g_ast X.1 hG (lf_11_3 hL) dX11_keeps_76 hM (fun σ3 H locs hG hM => ?_)
      obtain ⟨v4, ev4, hM⟩ := g_nm hM
      refine lv_iinc (v := v4) (lv' := [(2, .int v4), (0, .ref (E.1 k)), (1, .int x1)]) hx hb dX11_keeps_77 hl (k := 2) rfl (by rw [ev4]; rfl) (by decide) rfl (fun ls hl => ?_)
      refine lv_goto (tgt := 51) hx hb dX11_keeps_80 (by decide) ?_
      exact ih σ3 x1 v4 _ _ _ z hG (lv_sub hl [1, 2, 0] rfl) hM
set_option maxRecDepth 20000 in
set_option maxHeartbeats 4000000 in
theorem w_X11_keeps_49 {p : Program} {l : Launch} {e : Env} {s : State} {m : MethodId} {below : List Frame} {meth : Method} {c : Code} {args : Array Value} {E : Ev} {k : Nat} (X : Bx E p m meth c cX11_keeps 3 (some .int) s args RX11) (hL : lay 11 k) : ∀ (σ : St) (x1 : Int32) (H : Heap) (locs : List Loc) (ls : Array Slot) (z : St × Int32), GS E σ s.heap H locs → lv_has ls 3 [(0, .ref (E.1 k)), (1, .int x1)] → B_X11_keeps_49 σ k x1 = some z → W p l e (rmd 1) s m args below meth c H locs 0 0 (QI E z below args s) (F0 m 49 ls []) := by
  have hx := X.1.1.1
  have hb := X.1.1.2.1
  intro σ x1 H locs ls z  hG hl hM
  unfold B_X11_keeps_49 at hM
  refine lv_iconst (v := (0 : Int32)) hx hb dX11_keeps_49 (by decide) ?_
  refine lv_istore_n (lv' := [(2, .int (0 : Int32)), (0, .ref (E.1 k)), (1, .int x1)]) hx hb dX11_keeps_50 rfl hl (by decide) rfl (fun ls hl => ?_)
  exact w_X11_keeps_51 X hL FU σ x1 (0 : Int32) _ _ _ z hG (lv_sub hl [1, 2, 0] rfl) hM
set_option maxRecDepth 20000 in
set_option maxHeartbeats 4000000 in
theorem w_X11_keeps_11 {p : Program} {l : Launch} {e : Env} {s : State} {m : MethodId} {below : List Frame} {meth : Method} {c : Code} {args : Array Value} {E : Ev} {k : Nat} (X : Bx E p m meth c cX11_keeps 3 (some .int) s args RX11) (hL : lay 11 k) : ∀ (n : Nat) (σ : St) (x1 x2 : Int32) (H : Heap) (locs : List Loc) (ls : Array Slot) (z : St × Int32), GS E σ s.heap H locs → lv_has ls 3 [(0, .ref (E.1 k)), (1, .int x1), (2, .int x2)] → B_X11_keeps_11 n σ k x1 x2 = some z → W p l e (rmd 1) s m args below meth c H locs 0 0 (QI E z below args s) (F0 m 11 ls []) := by
  have hx := X.1.1.1
  have hb := X.1.1.2.1
  intro n
  induction n with
  | zero => intro σ x1 x2 H locs ls z  hG hl hM; cases hM
  | succ n ih =>
    intro σ x1 x2 H locs ls z  hG hl hM
    unfold B_X11_keeps_11 at hM
    refine lv_iload_n hx hb dX11_keeps_11 rfl (lv_at hl 2 rfl) ?_
    refine lv_sipush (v := (777 : Int32)) hx hb dX11_keeps_12 (by decide) ?_
    refine lv_icmp_ge (tgt := 39) hx hb dX11_keeps_15 (by decide) (fun c10 => ?_) (fun c10 => ?_)
    · have hM := b_if hM c10
      refine lv_aload_n hx hb dX11_keeps_39 rfl (lv_at hl 0 rfl) ?_
      refine lv_dup hx hb dX11_keeps_40 rfl ?_
      refine gt_11_4 X.1 hG hL mw1123 dX11_keeps_41 ?_
      refine lv_iconst (v := (1 : Int32)) hx hb dX11_keeps_44 (by decide) ?_
      refine lv_isub hx hb dX11_keeps_45 ?_
      refine pt_11_4 X.1 hG hL mw1123 dX11_keeps_46 hM (fun σ6 H locs hG hM => ?_)
      exact w_X11_keeps_49 X hL σ6 x1 _ _ _ z hG (lv_sub hl [0, 1] rfl) hM
    · have hM := b_else hM c10
      refine lv_aload_n hx hb dX11_keeps_18 rfl (lv_at hl 0 rfl) ?_
      refine gt_11_3 X.1 hG hL mw1122 dX11_keeps_19 ?_
      refine lv_iload_n hx hb dX11_keeps_22 rfl (lv_at hl 2 rfl) ?_
      refine lv_aload_n hx hb dX11_keeps_23 rfl (lv_at hl 0 rfl) ?_
      refine gt_11_3 X.1 hG hL mw1122 dX11_keeps_24 ?_
      refine lv_bipush (v := (111 : Int32)) hx hb dX11_keeps_27 (by decide) ?_
      refine lv_iload_n hx hb dX11_keeps_29 rfl (lv_at hl 2 rfl) ?_
      refine lv_iadd hx hb dX11_keeps_30 ?_
      refine g_ald X.1 hG (lf_11_3 hL) dX11_keeps_31 hM (fun q7 hM => ?_)
      refine g_ast X.1 hG (lf_11_3 hL) dX11_keeps_32 hM (fun σ8 H locs hG hM => ?_)
      obtain ⟨v9, ev9, hM⟩ := g_nm hM
      refine lv_iinc (v := v9) (lv' := [(2, .int v9), (0, .ref (E.1 k)), (1, .int x1)]) hx hb dX11_keeps_33 hl (k := 2) rfl (by rw [ev9]; rfl) (by decide) rfl (fun ls hl => ?_)
      refine lv_goto (tgt := 11) hx hb dX11_keeps_36 (by decide) ?_
      exact ih σ8 x1 v9 _ _ _ z hG (lv_sub hl [1, 2, 0] rfl) hM
set_option maxRecDepth 20000 in
set_option maxHeartbeats 4000000 in
theorem C_X11_keeps (l : Launch) (E : Ev) {σ σ' : St} {k : Nat} {p0 : Int32} {r : Int32} (h : M_X11_keeps σ k p0 = some (σ', r)) (hL : lay 11 k) : Mi l E yX11_keeps cX11_keeps 3 (some .int) 1 [.ref (E.1 k), .int p0] σ σ' r := by
  refine Mi_of (C := RX11) rfl (by decide) (Nat.le_of_ble_eq_true rfl) (z := (σ', r)) (fun p e s m below meth c ls X hG hl => ?_)
  have hx := X.1.1.1
  have hb := X.1.1.2.1
  have hM := h
  unfold M_X11_keeps at hM
  generalize (σ', r) = z at hM ⊢
  have hl : lv_has ls 3 [(0, .ref (E.1 k)), (1, .int p0)] := hl
  refine lv_aload_n hx hb dX11_keeps_0 rfl (lv_at hl 0 rfl) ?_
  refine gt_11_4 X.1 hG hL mw1123 dX11_keeps_1 ?_
  refine lv_bipush (v := (8 : Int32)) hx hb dX11_keeps_4 (by decide) ?_
  refine lv_icmp_ne (tgt := 49) hx hb dX11_keeps_6 (by decide) (fun c11 => ?_) (fun c11 => ?_)
  · have hM := b_else hM c11
    exact w_X11_keeps_49 X hL σ p0 _ _ _ z hG (lv_sub hl [0, 1] rfl) hM
  · have hM := b_if hM c11
    refine lv_iconst (v := (0 : Int32)) hx hb dX11_keeps_9 (by decide) ?_
    refine lv_istore_n (lv' := [(2, .int (0 : Int32)), (0, .ref (E.1 k)), (1, .int p0)]) hx hb dX11_keeps_10 rfl hl (by decide) rfl (fun ls hl => ?_)
    exact w_X11_keeps_11 X hL FU σ p0 (0 : Int32) _ _ _ z hG (lv_sub hl [1, 2, 0] rfl) hM
def M_X11_refuses (σ : St) (k : Nat) (p0 p1 : Int32) : Option (St × Int32) := bast σ (k + 9) (0 : Int32) p0 fun σ1 => bast σ1 (k + 9) (1 : Int32) p1 fun σ2 => bput σ2 k 16 (1 : Int32) fun σ3 => some (σ3, (-3 : Int32))
set_option maxRecDepth 20000 in
set_option maxHeartbeats 4000000 in
theorem C_X11_refuses (l : Launch) (E : Ev) {σ σ' : St} {k : Nat} {p0 : Int32} {p1 : Int32} {r : Int32} (h : M_X11_refuses σ k p0 p1 = some (σ', r)) (hL : lay 11 k) : Mi l E yX11_refuses cX11_refuses 3 (some .int) 1 [.ref (E.1 k), .int p0, .int p1] σ σ' r := by
  refine Mi_of (C := RX11) rfl (by decide) (Nat.le_of_ble_eq_true rfl) (z := (σ', r)) (fun p e s m below meth c ls X hG hl => ?_)
  have hx := X.1.1.1
  have hb := X.1.1.2.1
  have hM := h
  unfold M_X11_refuses at hM
  generalize (σ', r) = z at hM ⊢
  have hl : lv_has ls 3 [(0, .ref (E.1 k)), (1, .int p0), (2, .int p1)] := hl
  refine lv_aload_n hx hb dX11_refuses_0 rfl (lv_at hl 0 rfl) ?_
  refine gt_11_15 X.1 hG hL mw1134 dX11_refuses_1 ?_
  refine lv_iconst (v := (0 : Int32)) hx hb dX11_refuses_4 (by decide) ?_
  refine lv_iload_n hx hb dX11_refuses_5 rfl (lv_at hl 1 rfl) ?_
  refine g_ast X.1 hG (lf_11_15 hL) dX11_refuses_6 hM (fun σ1 H locs hG hM => ?_)
  refine lv_aload_n hx hb dX11_refuses_7 rfl (lv_at hl 0 rfl) ?_
  refine gt_11_15 X.1 hG hL mw1134 dX11_refuses_8 ?_
  refine lv_iconst (v := (1 : Int32)) hx hb dX11_refuses_11 (by decide) ?_
  refine lv_iload_n hx hb dX11_refuses_12 rfl (lv_at hl 2 rfl) ?_
  refine g_ast X.1 hG (lf_11_15 hL) dX11_refuses_13 hM (fun σ2 H locs hG hM => ?_)
  refine lv_aload_n hx hb dX11_refuses_14 rfl (lv_at hl 0 rfl) ?_
  refine lv_iconst (v := (1 : Int32)) hx hb dX11_refuses_15 (by decide) ?_
  refine pt_11_16 X.1 hG hL mw1135 dX11_refuses_16 hM (fun σ3 H locs hG hM => ?_)
  refine lv_bipush (v := (-3 : Int32)) hx hb dX11_refuses_19 (by decide) ?_
  exact e_iret X hG dX11_refuses_21 hM
def B_X11_refusesBy_9  : Nat → St → Nat → Int32 → Int32 → Int32 → Option (St × Int32)
  | 0, _, _, _, _, _ => none
  | n + 1, σ, k, x1, x2, x3 => if x3 < 0 then (bast σ (k + 9) (0 : Int32) x1 fun σ2 => bast σ2 (k + 9) (1 : Int32) x2 fun σ3 => bput σ3 k 16 ((σ3 k 16) + (1 : Int32)) fun σ4 => some (σ4, (-3 : Int32))) else (bald σ (k + 9) x3 fun q5 => bast σ (k + 9) (x3 + (2 : Int32)) q5 fun σ6 => blet (x3 + (-1 : Int32)) fun v7 => B_X11_refusesBy_9 n σ6 k x1 x2 v7)
def M_X11_refusesBy (σ : St) (k : Nat) (p0 p1 : Int32) : Option (St × Int32) := blet (((2 : Int32) * (σ k 16)) - (1 : Int32)) fun v1 => B_X11_refusesBy_9 FU σ k p0 p1 v1
set_option maxRecDepth 20000 in
set_option maxHeartbeats 4000000 in
theorem w_X11_refusesBy_9 {p : Program} {l : Launch} {e : Env} {s : State} {m : MethodId} {below : List Frame} {meth : Method} {c : Code} {args : Array Value} {E : Ev} {k : Nat} (X : Bx E p m meth c cX11_refusesBy 4 (some .int) s args RX11) (hL : lay 11 k) : ∀ (n : Nat) (σ : St) (x1 x2 x3 : Int32) (H : Heap) (locs : List Loc) (ls : Array Slot) (z : St × Int32), GS E σ s.heap H locs → lv_has ls 4 [(0, .ref (E.1 k)), (1, .int x1), (2, .int x2), (3, .int x3)] → B_X11_refusesBy_9 n σ k x1 x2 x3 = some z → W p l e (rmd 1) s m args below meth c H locs 0 0 (QI E z below args s) (F0 m 9 ls []) := by
  have hx := X.1.1.1
  have hb := X.1.1.2.1
  intro n
  induction n with
  | zero => intro σ x1 x2 x3 H locs ls z  hG hl hM; cases hM
  | succ n ih =>
    intro σ x1 x2 x3 H locs ls z  hG hl hM
    unfold B_X11_refusesBy_9 at hM
    refine lv_iload_n hx hb dX11_refusesBy_9 rfl (lv_at hl 3 rfl) ?_
    refine lv_if_lt (tgt := 33) hx hb dX11_refusesBy_10 (by decide) (fun c8 => ?_) (fun c8 => ?_)
    · have hM := b_if hM c8
      refine lv_aload_n hx hb dX11_refusesBy_33 rfl (lv_at hl 0 rfl) ?_
      refine gt_11_15 X.1 hG hL mw1134 dX11_refusesBy_34 ?_
      refine lv_iconst (v := (0 : Int32)) hx hb dX11_refusesBy_37 (by decide) ?_
      refine lv_iload_n hx hb dX11_refusesBy_38 rfl (lv_at hl 1 rfl) ?_
      refine g_ast X.1 hG (lf_11_15 hL) dX11_refusesBy_39 hM (fun σ2 H locs hG hM => ?_)
      refine lv_aload_n hx hb dX11_refusesBy_40 rfl (lv_at hl 0 rfl) ?_
      refine gt_11_15 X.1 hG hL mw1134 dX11_refusesBy_41 ?_
      refine lv_iconst (v := (1 : Int32)) hx hb dX11_refusesBy_44 (by decide) ?_
      refine lv_iload_n hx hb dX11_refusesBy_45 rfl (lv_at hl 2 rfl) ?_
      refine g_ast X.1 hG (lf_11_15 hL) dX11_refusesBy_46 hM (fun σ3 H locs hG hM => ?_)
      refine lv_aload_n hx hb dX11_refusesBy_47 rfl (lv_at hl 0 rfl) ?_
      refine lv_dup hx hb dX11_refusesBy_48 rfl ?_
      refine gt_11_16 X.1 hG hL mw1135 dX11_refusesBy_49 ?_
      refine lv_iconst (v := (1 : Int32)) hx hb dX11_refusesBy_52 (by decide) ?_
      refine lv_iadd hx hb dX11_refusesBy_53 ?_
      refine pt_11_16 X.1 hG hL mw1135 dX11_refusesBy_54 hM (fun σ4 H locs hG hM => ?_)
      refine lv_bipush (v := (-3 : Int32)) hx hb dX11_refusesBy_57 (by decide) ?_
      exact e_iret X hG dX11_refusesBy_59 hM
    · have hM := b_else hM c8
      refine lv_aload_n hx hb dX11_refusesBy_13 rfl (lv_at hl 0 rfl) ?_
      refine gt_11_15 X.1 hG hL mw1134 dX11_refusesBy_14 ?_
      refine lv_iload_n hx hb dX11_refusesBy_17 rfl (lv_at hl 3 rfl) ?_
      refine lv_iconst (v := (2 : Int32)) hx hb dX11_refusesBy_18 (by decide) ?_
      refine lv_iadd hx hb dX11_refusesBy_19 ?_
      refine lv_aload_n hx hb dX11_refusesBy_20 rfl (lv_at hl 0 rfl) ?_
      refine gt_11_15 X.1 hG hL mw1134 dX11_refusesBy_21 ?_
      refine lv_iload_n hx hb dX11_refusesBy_24 rfl (lv_at hl 3 rfl) ?_
      refine g_ald X.1 hG (lf_11_15 hL) dX11_refusesBy_25 hM (fun q5 hM => ?_)
      refine g_ast X.1 hG (lf_11_15 hL) dX11_refusesBy_26 hM (fun σ6 H locs hG hM => ?_)
      obtain ⟨v7, ev7, hM⟩ := g_nm hM
      refine lv_iinc (v := v7) (lv' := [(3, .int v7), (0, .ref (E.1 k)), (1, .int x1), (2, .int x2)]) hx hb dX11_refusesBy_27 hl (k := 3) rfl (by rw [ev7]; rfl) (by decide) rfl (fun ls hl => ?_)
      refine lv_goto (tgt := 9) hx hb dX11_refusesBy_30 (by decide) ?_
      exact ih σ6 x1 x2 v7 _ _ _ z hG (lv_sub hl [1, 2, 3, 0] rfl) hM
set_option maxRecDepth 20000 in
set_option maxHeartbeats 4000000 in
theorem C_X11_refusesBy (l : Launch) (E : Ev) {σ σ' : St} {k : Nat} {p0 : Int32} {p1 : Int32} {r : Int32} (h : M_X11_refusesBy σ k p0 p1 = some (σ', r)) (hL : lay 11 k) : Mi l E yX11_refusesBy cX11_refusesBy 4 (some .int) 1 [.ref (E.1 k), .int p0, .int p1] σ σ' r := by
  refine Mi_of (C := RX11) rfl (by decide) (Nat.le_of_ble_eq_true rfl) (z := (σ', r)) (fun p e s m below meth c ls X hG hl => ?_)
  have hx := X.1.1.1
  have hb := X.1.1.2.1
  have hM := h
  unfold M_X11_refusesBy at hM
  generalize (σ', r) = z at hM ⊢
  have hl : lv_has ls 4 [(0, .ref (E.1 k)), (1, .int p0), (2, .int p1)] := hl
  refine lv_iconst (v := (2 : Int32)) hx hb dX11_refusesBy_0 (by decide) ?_
  refine lv_aload_n hx hb dX11_refusesBy_1 rfl (lv_at hl 0 rfl) ?_
  refine gt_11_16 X.1 hG hL mw1135 dX11_refusesBy_2 ?_
  refine lv_imul hx hb dX11_refusesBy_5 ?_
  refine lv_iconst (v := (1 : Int32)) hx hb dX11_refusesBy_6 (by decide) ?_
  refine lv_isub hx hb dX11_refusesBy_7 ?_
  refine g_name hM (fun v1 hM => ?_)
  refine lv_istore_n (lv' := [(3, .int v1), (0, .ref (E.1 k)), (1, .int p0), (2, .int p1)]) hx hb dX11_refusesBy_8 rfl hl (by decide) rfl (fun ls hl => ?_)
  exact w_X11_refusesBy_9 X hL FU σ p0 p1 v1 _ _ _ z hG (lv_sub hl [1, 2, 3, 0] rfl) hM
def M_X11_does (σ : St) (k : Nat) (p0 : Int32) : Option (St × Int32) := bput σ k 17 p0 fun σ1 => some (σ1, (0 : Int32))
set_option maxRecDepth 20000 in
set_option maxHeartbeats 4000000 in
theorem C_X11_does (l : Launch) (E : Ev) {σ σ' : St} {k : Nat} {p0 : Int32} {r : Int32} (h : M_X11_does σ k p0 = some (σ', r)) (hL : lay 11 k) : Mi l E yX11_does cX11_does 2 (some .int) 1 [.ref (E.1 k), .int p0] σ σ' r := by
  refine Mi_of (C := RX11) rfl (by decide) (Nat.le_of_ble_eq_true rfl) (z := (σ', r)) (fun p e s m below meth c ls X hG hl => ?_)
  have hx := X.1.1.1
  have hb := X.1.1.2.1
  have hM := h
  unfold M_X11_does at hM
  generalize (σ', r) = z at hM ⊢
  have hl : lv_has ls 2 [(0, .ref (E.1 k)), (1, .int p0)] := hl
  refine lv_aload_n hx hb dX11_does_0 rfl (lv_at hl 0 rfl) ?_
  refine lv_iload_n hx hb dX11_does_1 rfl (lv_at hl 1 rfl) ?_
  refine pt_11_17 X.1 hG hL mw1136 dX11_does_2 hM (fun σ1 H locs hG hM => ?_)
  refine lv_iconst (v := (0 : Int32)) hx hb dX11_does_5 (by decide) ?_
  exact e_iret X hG dX11_does_6 hM
def M_X11_ends (σ : St) (k : Nat) (p0 : Int32) : Option (St × Int32) := if p0 = 0 then (bcall (M_X11_keeps σ k (σ k 17)) fun σ1 r2 => some (σ1, r2)) else some (σ, p0)
set_option maxRecDepth 20000 in
set_option maxHeartbeats 4000000 in
theorem C_X11_ends (l : Launch) (E : Ev) {σ σ' : St} {k : Nat} {p0 : Int32} {r : Int32} (h : M_X11_ends σ k p0 = some (σ', r)) (hL : lay 11 k) : Mi l E yX11_ends cX11_ends 2 (some .int) 2 [.ref (E.1 k), .int p0] σ σ' r := by
  refine Mi_of (C := RX11) rfl (by decide) (Nat.le_of_ble_eq_true rfl) (z := (σ', r)) (fun p e s m below meth c ls X hG hl => ?_)
  have hx := X.1.1.1
  have hb := X.1.1.2.1
  have hM := h
  unfold M_X11_ends at hM
  generalize (σ', r) = z at hM ⊢
  have hl : lv_has ls 2 [(0, .ref (E.1 k)), (1, .int p0)] := hl
  refine lv_iload_n hx hb dX11_ends_0 rfl (lv_at hl 1 rfl) ?_
  refine lv_if_ne (tgt := 15) hx hb dX11_ends_1 (by decide) (fun c3 => ?_) (fun c3 => ?_)
  · have hM := b_else hM c3
    refine lv_iload_n hx hb dX11_ends_15 rfl (lv_at hl 1 rfl) ?_
    exact e_iret X hG dX11_ends_16 hM
  · have hM := b_if hM c3
    refine lv_aload_n hx hb dX11_ends_4 rfl (lv_at hl 0 rfl) ?_
    refine lv_aload_n hx hb dX11_ends_5 rfl (lv_at hl 0 rfl) ?_
    refine gt_11_17 X.1 hG hL mw1136 dX11_ends_6 ?_
    refine g_callV_i (nA := 1) (o := M_X11_keeps σ k (σ k 17)) (As := [.int (σ k 17)]) X.1 hG hL rfl rfl (fun _ _ h => C_X11_keeps l E h hL) mw1197 mw1199 mw14 mw62 (gw_ok mw1200 rfl) (by decide +kernel) rfl ⟨Nat.le_of_ble_eq_true rfl, Nat.le_of_ble_eq_true rfl⟩ hl.1 rfl (Nat.le_of_ble_eq_true rfl) ⟨Nat.le_refl _, Nat.le_refl _⟩ dX11_ends_9 hM (fun σ1 r2 H locs hG hM => ?_)
    refine lv_goto (tgt := 16) hx hb dX11_ends_12 (by decide) ?_
    exact e_iret X hG dX11_ends_16 hM
def M_X11_isBundle (σ : St) (k : Nat) (p0 : Int32) : Option (St × Int32) := bald σ (k + 1) (2 : Int32) fun q1 => bcall (M_X11_in σ p0 (0 : Int32) (q1 - (1 : Int32))) fun σ2 r3 => bchk (okZ r3) (some (σ2, r3))
set_option maxRecDepth 20000 in
set_option maxHeartbeats 4000000 in
theorem C_X11_isBundle (l : Launch) (E : Ev) {σ σ' : St} {k : Nat} {p0 : Int32} {r : Int32} (h : M_X11_isBundle σ k p0 = some (σ', r)) (hL : lay 11 k) : Mi l E yX11_isBundle cX11_isBundle 2 (some .boolean) 2 [.ref (E.1 k), .int p0] σ σ' r := by
  refine Mi_of (C := RX11) rfl (by decide) (Nat.le_of_ble_eq_true rfl) (z := (σ', r)) (fun p e s m below meth c ls X hG hl => ?_)
  have hx := X.1.1.1
  have hb := X.1.1.2.1
  have hM := h
  unfold M_X11_isBundle at hM
  generalize (σ', r) = z at hM ⊢
  have hl : lv_has ls 2 [(0, .ref (E.1 k)), (1, .int p0)] := hl
  refine lv_iload_n hx hb dX11_isBundle_0 rfl (lv_at hl 1 rfl) ?_
  refine lv_iconst (v := (0 : Int32)) hx hb dX11_isBundle_1 (by decide) ?_
  refine lv_aload_n hx hb dX11_isBundle_2 rfl (lv_at hl 0 rfl) ?_
  refine gt_11_0 X.1 hG hL mw1119 dX11_isBundle_3 ?_
  refine lv_iconst (v := (2 : Int32)) hx hb dX11_isBundle_6 (by decide) ?_
  refine g_ald X.1 hG (lf_11_0 hL) dX11_isBundle_7 hM (fun q1 hM => ?_)
  refine lv_iconst (v := (1 : Int32)) hx hb dX11_isBundle_8 (by decide) ?_
  refine lv_isub hx hb dX11_isBundle_9 ?_
  refine g_callS_i (nA := 3) (o := M_X11_in σ p0 (0 : Int32) (q1 - (1 : Int32))) (As := [.int p0, .int (0 : Int32), .int (q1 - (1 : Int32))]) X.1 hG (fun _ _ h => C_X11_in l E h ) mw1182 mw1183 mw62 (gw_ok mw1184 rfl) (by decide +kernel) rfl ⟨Nat.le_of_ble_eq_true rfl, Nat.le_of_ble_eq_true rfl⟩ hl.1 rfl (Nat.le_of_ble_eq_true rfl) ⟨Nat.le_refl _, Nat.le_refl _⟩ dX11_isBundle_10 hM (fun σ2 r3 H locs hG hM => ?_)
  obtain ⟨c4, hM⟩ := b_chk hM
  exact e_zret X hG (okZ_n c4).1 dX11_isBundle_13 hM
def M_X11_isStorey (σ : St) (k : Nat) (p0 : Int32) : Option (St × Int32) := bald σ (k + 1) (3 : Int32) fun q1 => bcall (M_X11_in σ p0 (0 : Int32) (q1 - (1 : Int32))) fun σ2 r3 => bchk (okZ r3) (some (σ2, r3))
set_option maxRecDepth 20000 in
set_option maxHeartbeats 4000000 in
theorem C_X11_isStorey (l : Launch) (E : Ev) {σ σ' : St} {k : Nat} {p0 : Int32} {r : Int32} (h : M_X11_isStorey σ k p0 = some (σ', r)) (hL : lay 11 k) : Mi l E yX11_isStorey cX11_isStorey 2 (some .boolean) 2 [.ref (E.1 k), .int p0] σ σ' r := by
  refine Mi_of (C := RX11) rfl (by decide) (Nat.le_of_ble_eq_true rfl) (z := (σ', r)) (fun p e s m below meth c ls X hG hl => ?_)
  have hx := X.1.1.1
  have hb := X.1.1.2.1
  have hM := h
  unfold M_X11_isStorey at hM
  generalize (σ', r) = z at hM ⊢
  have hl : lv_has ls 2 [(0, .ref (E.1 k)), (1, .int p0)] := hl
  refine lv_iload_n hx hb dX11_isStorey_0 rfl (lv_at hl 1 rfl) ?_
  refine lv_iconst (v := (0 : Int32)) hx hb dX11_isStorey_1 (by decide) ?_
  refine lv_aload_n hx hb dX11_isStorey_2 rfl (lv_at hl 0 rfl) ?_
  refine gt_11_0 X.1 hG hL mw1119 dX11_isStorey_3 ?_
  refine lv_iconst (v := (3 : Int32)) hx hb dX11_isStorey_6 (by decide) ?_
  refine g_ald X.1 hG (lf_11_0 hL) dX11_isStorey_7 hM (fun q1 hM => ?_)
  refine lv_iconst (v := (1 : Int32)) hx hb dX11_isStorey_8 (by decide) ?_
  refine lv_isub hx hb dX11_isStorey_9 ?_
  refine g_callS_i (nA := 3) (o := M_X11_in σ p0 (0 : Int32) (q1 - (1 : Int32))) (As := [.int p0, .int (0 : Int32), .int (q1 - (1 : Int32))]) X.1 hG (fun _ _ h => C_X11_in l E h ) mw1182 mw1183 mw62 (gw_ok mw1184 rfl) (by decide +kernel) rfl ⟨Nat.le_of_ble_eq_true rfl, Nat.le_of_ble_eq_true rfl⟩ hl.1 rfl (Nat.le_of_ble_eq_true rfl) ⟨Nat.le_refl _, Nat.le_refl _⟩ dX11_isStorey_10 hM (fun σ2 r3 H locs hG hM => ?_)
  obtain ⟨c4, hM⟩ := b_chk hM
  exact e_zret X hG (okZ_n c4).1 dX11_isStorey_13 hM
def M_X11_isCrew (σ : St) (k : Nat) (p0 : Int32) : Option (St × Int32) := bald σ (k + 1) (4 : Int32) fun q1 => bcall (M_X11_in σ p0 (0 : Int32) (q1 - (1 : Int32))) fun σ2 r3 => bchk (okZ r3) (some (σ2, r3))
set_option maxRecDepth 20000 in
set_option maxHeartbeats 4000000 in
theorem C_X11_isCrew (l : Launch) (E : Ev) {σ σ' : St} {k : Nat} {p0 : Int32} {r : Int32} (h : M_X11_isCrew σ k p0 = some (σ', r)) (hL : lay 11 k) : Mi l E yX11_isCrew cX11_isCrew 2 (some .boolean) 2 [.ref (E.1 k), .int p0] σ σ' r := by
  refine Mi_of (C := RX11) rfl (by decide) (Nat.le_of_ble_eq_true rfl) (z := (σ', r)) (fun p e s m below meth c ls X hG hl => ?_)
  have hx := X.1.1.1
  have hb := X.1.1.2.1
  have hM := h
  unfold M_X11_isCrew at hM
  generalize (σ', r) = z at hM ⊢
  have hl : lv_has ls 2 [(0, .ref (E.1 k)), (1, .int p0)] := hl
  refine lv_iload_n hx hb dX11_isCrew_0 rfl (lv_at hl 1 rfl) ?_
  refine lv_iconst (v := (0 : Int32)) hx hb dX11_isCrew_1 (by decide) ?_
  refine lv_aload_n hx hb dX11_isCrew_2 rfl (lv_at hl 0 rfl) ?_
  refine gt_11_0 X.1 hG hL mw1119 dX11_isCrew_3 ?_
  refine lv_iconst (v := (4 : Int32)) hx hb dX11_isCrew_6 (by decide) ?_
  refine g_ald X.1 hG (lf_11_0 hL) dX11_isCrew_7 hM (fun q1 hM => ?_)
  refine lv_iconst (v := (1 : Int32)) hx hb dX11_isCrew_8 (by decide) ?_
  refine lv_isub hx hb dX11_isCrew_9 ?_
  refine g_callS_i (nA := 3) (o := M_X11_in σ p0 (0 : Int32) (q1 - (1 : Int32))) (As := [.int p0, .int (0 : Int32), .int (q1 - (1 : Int32))]) X.1 hG (fun _ _ h => C_X11_in l E h ) mw1182 mw1183 mw62 (gw_ok mw1184 rfl) (by decide +kernel) rfl ⟨Nat.le_of_ble_eq_true rfl, Nat.le_of_ble_eq_true rfl⟩ hl.1 rfl (Nat.le_of_ble_eq_true rfl) ⟨Nat.le_refl _, Nat.le_refl _⟩ dX11_isCrew_10 hM (fun σ2 r3 H locs hG hM => ?_)
  obtain ⟨c4, hM⟩ := b_chk hM
  exact e_zret X hG (okZ_n c4).1 dX11_isCrew_13 hM
def M_X11_isInspector (σ : St) (k : Nat) (p0 : Int32) : Option (St × Int32) := bald σ (k + 1) (5 : Int32) fun q1 => bcall (M_X11_in σ p0 (0 : Int32) (q1 - (1 : Int32))) fun σ2 r3 => bchk (okZ r3) (some (σ2, r3))
set_option maxRecDepth 20000 in
set_option maxHeartbeats 4000000 in
theorem C_X11_isInspector (l : Launch) (E : Ev) {σ σ' : St} {k : Nat} {p0 : Int32} {r : Int32} (h : M_X11_isInspector σ k p0 = some (σ', r)) (hL : lay 11 k) : Mi l E yX11_isInspector cX11_isInspector 2 (some .boolean) 2 [.ref (E.1 k), .int p0] σ σ' r := by
  refine Mi_of (C := RX11) rfl (by decide) (Nat.le_of_ble_eq_true rfl) (z := (σ', r)) (fun p e s m below meth c ls X hG hl => ?_)
  have hx := X.1.1.1
  have hb := X.1.1.2.1
  have hM := h
  unfold M_X11_isInspector at hM
  generalize (σ', r) = z at hM ⊢
  have hl : lv_has ls 2 [(0, .ref (E.1 k)), (1, .int p0)] := hl
  refine lv_iload_n hx hb dX11_isInspector_0 rfl (lv_at hl 1 rfl) ?_
  refine lv_iconst (v := (0 : Int32)) hx hb dX11_isInspector_1 (by decide) ?_
  refine lv_aload_n hx hb dX11_isInspector_2 rfl (lv_at hl 0 rfl) ?_
  refine gt_11_0 X.1 hG hL mw1119 dX11_isInspector_3 ?_
  refine lv_iconst (v := (5 : Int32)) hx hb dX11_isInspector_6 (by decide) ?_
  refine g_ald X.1 hG (lf_11_0 hL) dX11_isInspector_7 hM (fun q1 hM => ?_)
  refine lv_iconst (v := (1 : Int32)) hx hb dX11_isInspector_8 (by decide) ?_
  refine lv_isub hx hb dX11_isInspector_9 ?_
  refine g_callS_i (nA := 3) (o := M_X11_in σ p0 (0 : Int32) (q1 - (1 : Int32))) (As := [.int p0, .int (0 : Int32), .int (q1 - (1 : Int32))]) X.1 hG (fun _ _ h => C_X11_in l E h ) mw1182 mw1183 mw62 (gw_ok mw1184 rfl) (by decide +kernel) rfl ⟨Nat.le_of_ble_eq_true rfl, Nat.le_of_ble_eq_true rfl⟩ hl.1 rfl (Nat.le_of_ble_eq_true rfl) ⟨Nat.le_refl _, Nat.le_refl _⟩ dX11_isInspector_10 hM (fun σ2 r3 H locs hG hM => ?_)
  obtain ⟨c4, hM⟩ := b_chk hM
  exact e_zret X hG (okZ_n c4).1 dX11_isInspector_13 hM
def M_X11_of (σ : St) (k : Nat) (p0 p1 : Int32) : Option (St × Int32) := bald σ (k + 1) (((30 : Int32) + ((6 : Int32) * p0)) + p1) fun q1 => some (σ, q1)
set_option maxRecDepth 20000 in
set_option maxHeartbeats 4000000 in
theorem C_X11_of (l : Launch) (E : Ev) {σ σ' : St} {k : Nat} {p0 : Int32} {p1 : Int32} {r : Int32} (h : M_X11_of σ k p0 p1 = some (σ', r)) (hL : lay 11 k) : Mi l E yX11_of cX11_of 3 (some .int) 1 [.ref (E.1 k), .int p0, .int p1] σ σ' r := by
  refine Mi_of (C := RX11) rfl (by decide) (Nat.le_of_ble_eq_true rfl) (z := (σ', r)) (fun p e s m below meth c ls X hG hl => ?_)
  have hx := X.1.1.1
  have hb := X.1.1.2.1
  have hM := h
  unfold M_X11_of at hM
  generalize (σ', r) = z at hM ⊢
  have hl : lv_has ls 3 [(0, .ref (E.1 k)), (1, .int p0), (2, .int p1)] := hl
  refine lv_aload_n hx hb dX11_of_0 rfl (lv_at hl 0 rfl) ?_
  refine gt_11_0 X.1 hG hL mw1119 dX11_of_1 ?_
  refine lv_bipush (v := (30 : Int32)) hx hb dX11_of_4 (by decide) ?_
  refine lv_bipush (v := (6 : Int32)) hx hb dX11_of_6 (by decide) ?_
  refine lv_iload_n hx hb dX11_of_8 rfl (lv_at hl 1 rfl) ?_
  refine lv_imul hx hb dX11_of_9 ?_
  refine lv_iadd hx hb dX11_of_10 ?_
  refine lv_iload_n hx hb dX11_of_11 rfl (lv_at hl 2 rfl) ?_
  refine lv_iadd hx hb dX11_of_12 ?_
  refine g_ald X.1 hG (lf_11_0 hL) dX11_of_13 hM (fun q1 hM => ?_)
  exact e_iret X hG dX11_of_14 hM
def M_X11_sets (σ : St) (k : Nat) (p0 p1 p2 : Int32) : Option (St × Int32) := bast σ (k + 1) (((30 : Int32) + ((6 : Int32) * p0)) + p1) p2 fun σ1 => some (σ1, 0)
set_option maxRecDepth 20000 in
set_option maxHeartbeats 4000000 in
theorem C_X11_sets (l : Launch) (E : Ev) {σ σ' : St} {k : Nat} {p0 : Int32} {p1 : Int32} {p2 : Int32} {r : Int32} (h : M_X11_sets σ k p0 p1 p2 = some (σ', r)) (hL : lay 11 k) : Mv l E yX11_sets cX11_sets 4 1 [.ref (E.1 k), .int p0, .int p1, .int p2] σ σ' := by
  refine Mv_of (C := RX11) rfl (by decide) (Nat.le_of_ble_eq_true rfl) (z := (σ', r)) (fun p e s m below meth c ls X hG hl => ?_)
  have hx := X.1.1.1
  have hb := X.1.1.2.1
  have hM := h
  unfold M_X11_sets at hM
  generalize (σ', r) = z at hM ⊢
  have hl : lv_has ls 4 [(0, .ref (E.1 k)), (1, .int p0), (2, .int p1), (3, .int p2)] := hl
  refine lv_aload_n hx hb dX11_sets_0 rfl (lv_at hl 0 rfl) ?_
  refine gt_11_0 X.1 hG hL mw1119 dX11_sets_1 ?_
  refine lv_bipush (v := (30 : Int32)) hx hb dX11_sets_4 (by decide) ?_
  refine lv_bipush (v := (6 : Int32)) hx hb dX11_sets_6 (by decide) ?_
  refine lv_iload_n hx hb dX11_sets_8 rfl (lv_at hl 1 rfl) ?_
  refine lv_imul hx hb dX11_sets_9 ?_
  refine lv_iadd hx hb dX11_sets_10 ?_
  refine lv_iload_n hx hb dX11_sets_11 rfl (lv_at hl 2 rfl) ?_
  refine lv_iadd hx hb dX11_sets_12 ?_
  refine lv_iload_n hx hb dX11_sets_13 rfl (lv_at hl 3 rfl) ?_
  refine g_ast X.1 hG (lf_11_0 hL) dX11_sets_14 hM (fun σ1 H locs hG hM => ?_)
  exact e_vret X hG dX11_sets_15 hM
