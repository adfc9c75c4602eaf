def B_X11_doneIn_50 (σ : St) (k : Nat) (x1 x2 : Int32) : Option (St × Int32) := if (60 : Int32) < x2 then (bcall (M_X11_thinksNoMore σ k) fun σ5 r6 => if (0 : Int32) = 0 then some (σ5, (-4 : Int32)) else some (σ5, x2)) else (bcall (M_X11_isStorey σ k x1) fun σ8 r9 => if r9 = 0 then (bcall (M_X11_thinksNoMore σ8 k) fun σ10 r11 => if (0 : Int32) = 0 then some (σ10, (-4 : Int32)) else some (σ10, x2)) else (bcall (M_X11_thinksNoMore σ8 k) fun σ13 r14 => if (1 : Int32) = 0 then some (σ13, (-4 : Int32)) else some (σ13, x2)))
def B_X11_doneIn_16  : Nat → St → Nat → Int32 → Int32 → Option (St × Int32)
  | 0, _, _, _, _ => none
  | n + 1, σ, k, x1, x2 => if (60 : Int32) < x2 then (B_X11_doneIn_50 σ k x1 x2) else (bcall (M_X11_isStorey σ k x1) fun σ18 r19 => if r19 = 0 then (B_X11_doneIn_50 σ18 k x1 x2) else (bcall (M_X11_of σ18 k x1 (3 : Int32)) fun σ20 r21 => if r21 ≤ 0 then (B_X11_doneIn_50 σ20 k x1 x2) else (bcall (M_X11_passes σ20 k) fun σ22 r23 => blet (x2 + (1 : Int32)) fun v24 => B_X11_doneIn_16 n σ22 k x1 v24)))
def M_X11_doneIn (σ : St) (k : Nat) (p0 : Int32) : Option (St × Int32) := bcall (M_X11_isStorey σ k p0) fun σ1 r2 => if r2 = 0 then some (σ1, (-1 : Int32)) else (bcall (M_X11_thinks σ1 k) fun σ3 r4 => B_X11_doneIn_16 FU σ3 k p0 (0 : Int32))
set_option maxRecDepth 20000 in
set_option maxHeartbeats 4000000 in
theorem w_X11_doneIn_50 {p : Program} {l : Launch} {e : Env} {s : State} {m : MethodId} {below : List Frame} {meth : Method} {c : Code} {args : Array Value} {E : Ev} {k : Nat} (X : Bx E p m meth c cX11_doneIn 4 (some .int) s args RX11) (hL : lay 11 k) : ∀ (σ : St) (x1 x2 : Int32) (H : Heap) (locs : List Loc) (ls : Array Slot) (z : St × Int32), GS E σ s.heap H locs → lv_has ls 4 [(0, .ref (E.1 k)), (1, .int x1), (2, .int x2)] → B_X11_doneIn_50 σ k x1 x2 = some z → W p l e (rmd 5) s m args below meth c H locs 0 0 (QI E z below args s) (F0 m 50 ls []) := by
  have hx := X.1.1.1
  have hb := X.1.1.2.1
  intro σ x1 x2 H locs ls z  hG hl hM
  unfold B_X11_doneIn_50 at hM
  refine lv_iload_n hx hb dX11_doneIn_50 rfl (lv_at hl 2 rfl) ?_
  refine lv_bipush (v := (60 : Int32)) hx hb dX11_doneIn_51 (by decide) ?_
  refine lv_icmp_gt (tgt := 68) hx hb dX11_doneIn_53 (by decide) (fun c17 => ?_) (fun c17 => ?_)
  · have hM := b_if hM c17
    refine lv_iconst (v := (0 : Int32)) hx hb dX11_doneIn_68 (by decide) ?_
    refine lv_istore_n (lv' := [(3, .int (0 : Int32)), (0, .ref (E.1 k)), (1, .int x1), (2, .int x2)]) hx hb dX11_doneIn_69 rfl hl (by decide) rfl (fun ls hl => ?_)
    refine lv_aload_n hx hb dX11_doneIn_70 rfl (lv_at hl 1 rfl) ?_
    refine g_callV_v (nA := 0) (o := M_X11_thinksNoMore σ k) (As := []) X.1 hG hL rfl rfl (fun _ _ h => C_X11_thinksNoMore l E h hL) mw1424 mw1426 mw46 mw62 (gw_ok mw1427 rfl) (by decide +kernel) rfl ⟨Nat.le_of_ble_eq_true rfl, Nat.le_of_ble_eq_true rfl⟩ hl.1 rfl (Nat.le_of_ble_eq_true rfl) ⟨Nat.le_refl _, Nat.le_refl _⟩ dX11_doneIn_71 hM (fun σ5 r6 H locs hG hM => ?_)
    refine lv_iload_n hx hb dX11_doneIn_74 rfl (lv_at hl 0 rfl) ?_
    refine lv_if_eq (tgt := 82) hx hb dX11_doneIn_75 (by decide) (fun c7 => ?_) (fun c7 => ?_)
    · have hM := b_if hM c7
      refine lv_bipush (v := (-4 : Int32)) hx hb dX11_doneIn_82 (by decide) ?_
      exact e_iret X hG dX11_doneIn_84 hM
    · have hM := b_else hM c7
      refine lv_iload_n hx hb dX11_doneIn_78 rfl (lv_at hl 3 rfl) ?_
      refine lv_goto (tgt := 84) hx hb dX11_doneIn_79 (by decide) ?_
      exact e_iret X hG dX11_doneIn_84 hM
  · have hM := b_else hM c17
    refine lv_aload_n hx hb dX11_doneIn_56 rfl (lv_at hl 0 rfl) ?_
    refine lv_iload_n hx hb dX11_doneIn_57 rfl (lv_at hl 1 rfl) ?_
    refine g_callV_i (nA := 1) (o := M_X11_isStorey σ k x1) (As := [.int x1]) X.1 hG hL rfl rfl (fun _ _ h => C_X11_isStorey l E h hL) mw1238 mw1240 mw21 mw62 (gw_ok mw1241 rfl) (by decide +kernel) rfl ⟨Nat.le_of_ble_eq_true rfl, Nat.le_of_ble_eq_true rfl⟩ hl.1 rfl (Nat.le_of_ble_eq_true rfl) ⟨Nat.le_refl _, Nat.le_refl _⟩ dX11_doneIn_58 hM (fun σ8 r9 H locs hG hM => ?_)
    refine lv_if_eq (tgt := 68) hx hb dX11_doneIn_61 (by decide) (fun c16 => ?_) (fun c16 => ?_)
    · have hM := b_if hM c16
      refine lv_iconst (v := (0 : Int32)) hx hb dX11_doneIn_68 (by decide) ?_
      refine lv_istore_n (lv' := [(3, .int (0 : Int32)), (0, .ref (E.1 k)), (1, .int x1), (2, .int x2)]) hx hb dX11_doneIn_69 rfl hl (by decide) rfl (fun ls hl => ?_)
      refine lv_aload_n hx hb dX11_doneIn_70 rfl (lv_at hl 1 rfl) ?_
      refine g_callV_v (nA := 0) (o := M_X11_thinksNoMore σ8 k) (As := []) X.1 hG hL rfl rfl (fun _ _ h => C_X11_thinksNoMore l E h hL) mw1424 mw1426 mw46 mw62 (gw_ok mw1427 rfl) (by decide +kernel) rfl ⟨Nat.le_of_ble_eq_true rfl, Nat.le_of_ble_eq_true rfl⟩ hl.1 rfl (Nat.le_of_ble_eq_true rfl) ⟨Nat.le_refl _, Nat.le_refl _⟩ dX11_doneIn_71 hM (fun σ10 r11 H locs hG hM => ?_)
      refine lv_iload_n hx hb dX11_doneIn_74 rfl (lv_at hl 0 rfl) ?_
      refine lv_if_eq (tgt := 82) hx hb dX11_doneIn_75 (by decide) (fun c12 => ?_) (fun c12 => ?_)
      · have hM := b_if hM c12
        refine lv_bipush (v := (-4 : Int32)) hx hb dX11_doneIn_82 (by decide) ?_
        exact e_iret X hG dX11_doneIn_84 hM
      · have hM := b_else hM c12
        refine lv_iload_n hx hb dX11_doneIn_78 rfl (lv_at hl 3 rfl) ?_
        refine lv_goto (tgt := 84) hx hb dX11_doneIn_79 (by decide) ?_
        exact e_iret X hG dX11_doneIn_84 hM
    · have hM := b_else hM c16
      refine lv_iconst (v := (1 : Int32)) hx hb dX11_doneIn_64 (by decide) ?_
      refine lv_goto (tgt := 69) hx hb dX11_doneIn_65 (by decide) ?_
      refine lv_istore_n (lv' := [(3, .int (1 : Int32)), (0, .ref (E.1 k)), (1, .int x1), (2, .int x2)]) hx hb dX11_doneIn_69 rfl hl (by decide) rfl (fun ls hl => ?_)
      refine lv_aload_n hx hb dX11_doneIn_70 rfl (lv_at hl 1 rfl) ?_
      refine g_callV_v (nA := 0) (o := M_X11_thinksNoMore σ8 k) (As := []) X.1 hG hL rfl rfl (fun _ _ h => C_X11_thinksNoMore l E h hL) mw1424 mw1426 mw46 mw62 (gw_ok mw1427 rfl) (by decide +kernel) rfl ⟨Nat.le_of_ble_eq_true rfl, Nat.le_of_ble_eq_true rfl⟩ hl.1 rfl (Nat.le_of_ble_eq_true rfl) ⟨Nat.le_refl _, Nat.le_refl _⟩ dX11_doneIn_71 hM (fun σ13 r14 H locs hG hM => ?_)
      refine lv_iload_n hx hb dX11_doneIn_74 rfl (lv_at hl 0 rfl) ?_
      refine lv_if_eq (tgt := 82) hx hb dX11_doneIn_75 (by decide) (fun c15 => ?_) (fun c15 => ?_)
      · have hM := b_if hM c15
        refine lv_bipush (v := (-4 : Int32)) hx hb dX11_doneIn_82 (by decide) ?_
        exact e_iret X hG dX11_doneIn_84 hM
      · have hM := b_else hM c15
        refine lv_iload_n hx hb dX11_doneIn_78 rfl (lv_at hl 3 rfl) ?_
        refine lv_goto (tgt := 84) hx hb dX11_doneIn_79 (by decide) ?_
        exact e_iret X hG dX11_doneIn_84 hM
set_option maxRecDepth 20000 in
set_option maxHeartbeats 4000000 in
theorem w_X11_doneIn_16 {p : Program} {l : Launch} {e : Env} {s : State} {m : MethodId} {below : List Frame} {meth : Method} {c : Code} {args : Array Value} {E : Ev} {k : Nat} (X : Bx E p m meth c cX11_doneIn 4 (some .int) s args RX11) (hL : lay 11 k) : ∀ (n : Nat) (σ : St) (x1 x2 : Int32) (H : Heap) (locs : List Loc) (ls : Array Slot) (z : St × Int32), GS E σ s.heap H locs → lv_has ls 4 [(0, .ref (E.1 k)), (1, .int x1), (2, .int x2)] → B_X11_doneIn_16 n σ k x1 x2 = some z → W p l e (rmd 5) s m args below meth c H locs 0 0 (QI E z below args s) (F0 m 16 ls []) := by
  have hx := X.1.1.1
  have hb := X.1.1.2.1
  intro n
  induction n with
  | zero => intro σ x1 x2 H locs ls z  hG hl hM; cases hM
  | succ n ih =>
    intro σ x1 x2 H locs ls z  hG hl hM
    unfold B_X11_doneIn_16 at hM
    refine lv_iload_n hx hb dX11_doneIn_16 rfl (lv_at hl 2 rfl) ?_
    refine lv_bipush (v := (60 : Int32)) hx hb dX11_doneIn_17 (by decide) ?_
    refine lv_icmp_gt (tgt := 50) hx hb dX11_doneIn_19 (by decide) (fun c27 => ?_) (fun c27 => ?_)
    · have hM := b_if hM c27
      exact w_X11_doneIn_50 X hL σ x1 x2 _ _ _ z hG (lv_sub hl [0, 1, 2] rfl) hM
    · have hM := b_else hM c27
      refine lv_aload_n hx hb dX11_doneIn_22 rfl (lv_at hl 0 rfl) ?_
      refine lv_iload_n hx hb dX11_doneIn_23 rfl (lv_at hl 1 rfl) ?_
      refine g_callV_i (nA := 1) (o := M_X11_isStorey σ k x1) (As := [.int x1]) X.1 hG hL rfl rfl (fun _ _ h => C_X11_isStorey l E h hL) mw1238 mw1240 mw21 mw62 (gw_ok mw1241 rfl) (by decide +kernel) rfl ⟨Nat.le_of_ble_eq_true rfl, Nat.le_of_ble_eq_true rfl⟩ hl.1 rfl (Nat.le_of_ble_eq_true rfl) ⟨Nat.le_refl _, Nat.le_refl _⟩ dX11_doneIn_24 hM (fun σ18 r19 H locs hG hM => ?_)
      refine lv_if_eq (tgt := 50) hx hb dX11_doneIn_27 (by decide) (fun c26 => ?_) (fun c26 => ?_)
      · have hM := b_if hM c26
        exact w_X11_doneIn_50 X hL σ18 x1 x2 _ _ _ z hG (lv_sub hl [0, 1, 2] rfl) hM
      · have hM := b_else hM c26
        refine lv_aload_n hx hb dX11_doneIn_30 rfl (lv_at hl 0 rfl) ?_
        refine lv_iload_n hx hb dX11_doneIn_31 rfl (lv_at hl 1 rfl) ?_
        refine lv_iconst (v := (3 : Int32)) hx hb dX11_doneIn_32 (by decide) ?_
        refine g_callV_i (nA := 2) (o := M_X11_of σ18 k x1 (3 : Int32)) (As := [.int x1, .int (3 : Int32)]) X.1 hG hL rfl rfl (fun _ _ h => C_X11_of l E h hL) mw1242 mw1244 mw22 mw62 (gw_ok mw1245 rfl) (by decide +kernel) rfl ⟨Nat.le_of_ble_eq_true rfl, Nat.le_of_ble_eq_true rfl⟩ hl.1 rfl (Nat.le_of_ble_eq_true rfl) ⟨Nat.le_refl _, Nat.le_refl _⟩ dX11_doneIn_33 hM (fun σ20 r21 H locs hG hM => ?_)
        refine lv_if_le (tgt := 50) hx hb dX11_doneIn_36 (by decide) (fun c25 => ?_) (fun c25 => ?_)
        · have hM := b_if hM c25
          exact w_X11_doneIn_50 X hL σ20 x1 x2 _ _ _ z hG (lv_sub hl [0, 1, 2] rfl) hM
        · have hM := b_else hM c25
          refine lv_aload_n hx hb dX11_doneIn_39 rfl (lv_at hl 0 rfl) ?_
          refine g_callV_i (nA := 0) (o := M_X11_passes σ20 k) (As := []) X.1 hG hL rfl rfl (fun _ _ h => C_X11_passes l E h hL) mw1327 mw1329 mw35 mw62 (gw_ok mw1330 rfl) (by decide +kernel) rfl ⟨Nat.le_of_ble_eq_true rfl, Nat.le_of_ble_eq_true rfl⟩ hl.1 rfl (Nat.le_of_ble_eq_true rfl) ⟨Nat.le_refl _, Nat.le_refl _⟩ dX11_doneIn_40 hM (fun σ22 r23 H locs hG hM => ?_)
          refine lv_istore_n (lv' := [(3, .int r23), (0, .ref (E.1 k)), (1, .int x1), (2, .int x2)]) hx hb dX11_doneIn_43 rfl hl (by decide) rfl (fun ls hl => ?_)
          obtain ⟨v24, ev24, hM⟩ := g_nm hM
          refine lv_iinc (v := v24) (lv' := [(2, .int v24), (3, .int r23), (0, .ref (E.1 k)), (1, .int x1)]) hx hb dX11_doneIn_44 hl (k := 3) rfl (by rw [ev24]; rfl) (by decide) rfl (fun ls hl => ?_)
          refine lv_goto (tgt := 16) hx hb dX11_doneIn_47 (by decide) ?_
          exact ih σ22 x1 v24 _ _ _ z hG (lv_sub hl [2, 3, 0] rfl) hM
set_option maxRecDepth 20000 in
set_option maxHeartbeats 4000000 in
theorem C_X11_doneIn (l : Launch) (E : Ev) {σ σ' : St} {k : Nat} {p0 : Int32} {r : Int32} (h : M_X11_doneIn σ k p0 = some (σ', r)) (hL : lay 11 k) : Mi l E yX11_doneIn cX11_doneIn 4 (some .int) 5 [.ref (E.1 k), .int p0] σ σ' r := by
  refine Mi_of (C := RX11) rfl (by decide) (Nat.le_of_ble_eq_true rfl) (z := (σ', r)) (fun p e s m below meth c ls X hG hl => ?_)
  have hx := X.1.1.1
  have hb := X.1.1.2.1
  have hM := h
  unfold M_X11_doneIn at hM
  generalize (σ', r) = z at hM ⊢
  have hl : lv_has ls 4 [(0, .ref (E.1 k)), (1, .int p0)] := hl
  refine lv_aload_n hx hb dX11_doneIn_0 rfl (lv_at hl 0 rfl) ?_
  refine lv_iload_n hx hb dX11_doneIn_1 rfl (lv_at hl 1 rfl) ?_
  refine g_callV_i (nA := 1) (o := M_X11_isStorey σ k p0) (As := [.int p0]) X.1 hG hL rfl rfl (fun _ _ h => C_X11_isStorey l E h hL) mw1238 mw1240 mw21 mw62 (gw_ok mw1241 rfl) (by decide +kernel) rfl ⟨Nat.le_of_ble_eq_true rfl, Nat.le_of_ble_eq_true rfl⟩ hl.1 rfl (Nat.le_of_ble_eq_true rfl) ⟨Nat.le_refl _, Nat.le_refl _⟩ dX11_doneIn_2 hM (fun σ1 r2 H locs hG hM => ?_)
  refine lv_if_ne (tgt := 10) hx hb dX11_doneIn_5 (by decide) (fun c28 => ?_) (fun c28 => ?_)
  · have hM := b_else hM c28
    refine lv_aload_n hx hb dX11_doneIn_10 rfl (lv_at hl 0 rfl) ?_
    refine g_callV_v (nA := 0) (o := M_X11_thinks σ1 k) (As := []) X.1 hG hL rfl rfl (fun _ _ h => C_X11_thinks l E h hL) mw1420 mw1422 mw45 mw62 (gw_ok mw1423 rfl) (by decide +kernel) rfl ⟨Nat.le_of_ble_eq_true rfl, Nat.le_of_ble_eq_true rfl⟩ hl.1 rfl (Nat.le_of_ble_eq_true rfl) ⟨Nat.le_refl _, Nat.le_refl _⟩ dX11_doneIn_11 hM (fun σ3 r4 H locs hG hM => ?_)
    refine lv_iconst (v := (0 : Int32)) hx hb dX11_doneIn_14 (by decide) ?_
    refine lv_istore_n (lv' := [(2, .int (0 : Int32)), (0, .ref (E.1 k)), (1, .int p0)]) hx hb dX11_doneIn_15 rfl hl (by decide) rfl (fun ls hl => ?_)
    exact w_X11_doneIn_16 X hL FU σ3 p0 (0 : Int32) _ _ _ z hG (lv_sub hl [1, 2, 0] rfl) hM
  · have hM := b_if hM c28
    refine lv_iconst (v := (-1 : Int32)) hx hb dX11_doneIn_8 (by decide) ?_
    exact e_iret X hG dX11_doneIn_9 hM
def M_X11_writes (σ : St) (k : Nat) (p0 : Int32) : Option (St × Int32) := blet (σ k 8) fun v1 => bput σ k 8 (v1 + (1 : Int32)) fun σ2 => bast σ2 (k + 6) v1 p0 fun σ3 => some (σ3, 0)
set_option maxRecDepth 20000 in
set_option maxHeartbeats 4000000 in
theorem C_X11_writes (l : Launch) (E : Ev) {σ σ' : St} {k : Nat} {p0 : Int32} {r : Int32} (h : M_X11_writes σ k p0 = some (σ', r)) (hL : lay 11 k) : Mv l E yX11_writes cX11_writes 2 1 [.ref (E.1 k), .int p0] σ σ' := by
  refine Mv_of (C := RX11) rfl (by decide) (Nat.le_of_ble_eq_true rfl) (z := (σ', r)) (fun p e s m below meth c ls X hG hl => ?_)
  have hx := X.1.1.1
  have hb := X.1.1.2.1
  have hM := h
  unfold M_X11_writes at hM
  generalize (σ', r) = z at hM ⊢
  have hl : lv_has ls 2 [(0, .ref (E.1 k)), (1, .int p0)] := hl
  refine lv_aload_n hx hb dX11_writes_0 rfl (lv_at hl 0 rfl) ?_
  refine gt_11_7 X.1 hG hL mw1126 dX11_writes_1 ?_
  refine lv_aload_n hx hb dX11_writes_4 rfl (lv_at hl 0 rfl) ?_
  refine lv_dup hx hb dX11_writes_5 rfl ?_
  refine gt_11_8 X.1 hG hL mw1127 dX11_writes_6 ?_
  refine g_name hM (fun v1 hM => ?_)
  refine lv_dup_x1 hx hb dX11_writes_9 rfl rfl ?_
  refine lv_iconst (v := (1 : Int32)) hx hb dX11_writes_10 (by decide) ?_
  refine lv_iadd hx hb dX11_writes_11 ?_
  refine pt_11_8 X.1 hG hL mw1127 dX11_writes_12 hM (fun σ2 H locs hG hM => ?_)
  refine lv_iload_n hx hb dX11_writes_15 rfl (lv_at hl 1 rfl) ?_
  refine g_ast X.1 hG (lf_11_7 hL) dX11_writes_16 hM (fun σ3 H locs hG hM => ?_)
  exact e_vret X hG dX11_writes_17 hM
def M_X11_writesNumber : Nat → St → Nat → Int32 → Option (St × Int32)
  | 0, _, _, _ => none
  | n + 1, σ, k, p0 => if p0 ≤ (9 : Int32) then (blet (σ k 8) fun v1 => bput σ k 8 (v1 + (1 : Int32)) fun σ2 => bast σ2 (k + 6) v1 ((48 : Int32) + (p0 - p0 / (10 : Int32) * (10 : Int32))) fun σ3 => some (σ3, 0)) else (bcall (M_X11_writesNumber n σ k (p0 / (10 : Int32))) fun σ4 r5 => blet (σ4 k 8) fun v6 => bput σ4 k 8 (v6 + (1 : Int32)) fun σ7 => bast σ7 (k + 6) v6 ((48 : Int32) + (p0 - p0 / (10 : Int32) * (10 : Int32))) fun σ8 => some (σ8, 0))
set_option maxRecDepth 20000 in
set_option maxHeartbeats 4000000 in
theorem C_X11_writesNumber (l : Launch) (E : Ev) (n : Nat) : ∀ {σ σ' : St} {k : Nat} {p0 : Int32} {r : Int32} (_ : M_X11_writesNumber n σ k p0 = some (σ', r)) (hL : lay 11 k), Mv l E yX11_writesNumber cX11_writesNumber 2 (n + 1) [.ref (E.1 k), .int p0] σ σ' := by
  induction n with
  | zero => intro σ σ' k p0 r h hL; cases h
  | succ n ih =>
    intro σ σ' k p0 r h hL
    refine Mv_of (C := RX11) rfl (by decide) (Nat.le_of_ble_eq_true rfl) (z := (σ', r)) (fun p e s m below meth c ls X hG hl => ?_)
    have hx := X.1.1.1
    have hb := X.1.1.2.1
    have hM := h
    unfold M_X11_writesNumber at hM
    generalize (σ', r) = z at hM ⊢
    have hl : lv_has ls 2 [(0, .ref (E.1 k)), (1, .int p0)] := hl
    refine lv_iload_n hx hb dX11_writesNumber_0 rfl (lv_at hl 1 rfl) ?_
    refine lv_bipush (v := (9 : Int32)) hx hb dX11_writesNumber_1 (by decide) ?_
    refine lv_icmp_le (tgt := 14) hx hb dX11_writesNumber_3 (by decide) (fun c9 => ?_) (fun c9 => ?_)
    · have hM := b_if hM c9
      refine lv_aload_n hx hb dX11_writesNumber_14 rfl (lv_at hl 0 rfl) ?_
      refine gt_11_7 X.1 hG hL mw1126 dX11_writesNumber_15 ?_
      refine lv_aload_n hx hb dX11_writesNumber_18 rfl (lv_at hl 0 rfl) ?_
      refine lv_dup hx hb dX11_writesNumber_19 rfl ?_
      refine gt_11_8 X.1 hG hL mw1127 dX11_writesNumber_20 ?_
      refine g_name hM (fun v1 hM => ?_)
      refine lv_dup_x1 hx hb dX11_writesNumber_23 rfl rfl ?_
      refine lv_iconst (v := (1 : Int32)) hx hb dX11_writesNumber_24 (by decide) ?_
      refine lv_iadd hx hb dX11_writesNumber_25 ?_
      refine pt_11_8 X.1 hG hL mw1127 dX11_writesNumber_26 hM (fun σ2 H locs hG hM => ?_)
      refine lv_bipush (v := (48 : Int32)) hx hb dX11_writesNumber_29 (by decide) ?_
      refine lv_iload_n hx hb dX11_writesNumber_31 rfl (lv_at hl 1 rfl) ?_
      refine lv_bipush (v := (10 : Int32)) hx hb dX11_writesNumber_32 (by decide) ?_
      refine lv_irem hx hb dX11_writesNumber_34 (by decide) ?_
      refine lv_iadd hx hb dX11_writesNumber_35 ?_
      refine g_ast X.1 hG (lf_11_7 hL) dX11_writesNumber_36 hM (fun σ3 H locs hG hM => ?_)
      exact e_vret X hG dX11_writesNumber_37 hM
    · have hM := b_else hM c9
      refine lv_aload_n hx hb dX11_writesNumber_6 rfl (lv_at hl 0 rfl) ?_
      refine lv_iload_n hx hb dX11_writesNumber_7 rfl (lv_at hl 1 rfl) ?_
      refine lv_bipush (v := (10 : Int32)) hx hb dX11_writesNumber_8 (by decide) ?_
      refine lv_idiv hx hb dX11_writesNumber_10 (by decide) ?_
      refine g_callV_v (nA := 1) (o := M_X11_writesNumber n σ k (p0 / (10 : Int32))) (As := [.int (p0 / (10 : Int32))]) X.1 hG hL rfl rfl (fun _ _ h => ih h hL) mw1436 mw1438 mw47 mw62 (gw_ok mw1439 rfl) (by decide +kernel) rfl ⟨Nat.le_refl _, by show 8 + (2 + 11) + 200 * (n + 1) ≤ 200 * (n + 1 + 1); omega⟩ hl.1 rfl (Nat.le_of_ble_eq_true rfl) ⟨Nat.le_refl _, Nat.le_refl _⟩ dX11_writesNumber_11 hM (fun σ4 r5 H locs hG hM => ?_)
      refine lv_aload_n hx hb dX11_writesNumber_14 rfl (lv_at hl 0 rfl) ?_
      refine gt_11_7 X.1 hG hL mw1126 dX11_writesNumber_15 ?_
      refine lv_aload_n hx hb dX11_writesNumber_18 rfl (lv_at hl 0 rfl) ?_
      refine lv_dup hx hb dX11_writesNumber_19 rfl ?_
      refine gt_11_8 X.1 hG hL mw1127 dX11_writesNumber_20 ?_
      refine g_name hM (fun v6 hM => ?_)
      refine lv_dup_x1 hx hb dX11_writesNumber_23 rfl rfl ?_
      refine lv_iconst (v := (1 : Int32)) hx hb dX11_writesNumber_24 (by decide) ?_
      refine lv_iadd hx hb dX11_writesNumber_25 ?_
      refine pt_11_8 X.1 hG hL mw1127 dX11_writesNumber_26 hM (fun σ7 H locs hG hM => ?_)
      refine lv_bipush (v := (48 : Int32)) hx hb dX11_writesNumber_29 (by decide) ?_
      refine lv_iload_n hx hb dX11_writesNumber_31 rfl (lv_at hl 1 rfl) ?_
      refine lv_bipush (v := (10 : Int32)) hx hb dX11_writesNumber_32 (by decide) ?_
      refine lv_irem hx hb dX11_writesNumber_34 (by decide) ?_
      refine lv_iadd hx hb dX11_writesNumber_35 ?_
      refine g_ast X.1 hG (lf_11_7 hL) dX11_writesNumber_36 hM (fun σ8 H locs hG hM => ?_)
      exact e_vret X hG dX11_writesNumber_37 hM
def M_X11_written (σ : St) (k : Nat) (p0 : Int32) : Option (St × Int32) := bcall (M_X11_in σ p0 (0 : Int32) ((σ k 8) - (1 : Int32))) fun σ1 r2 => if r2 = 0 then some (σ1, (-1 : Int32)) else (bald σ1 (k + 6) p0 fun q3 => some (σ1, q3))
set_option maxRecDepth 20000 in
set_option maxHeartbeats 4000000 in
theorem C_X11_written (l : Launch) (E : Ev) {σ σ' : St} {k : Nat} {p0 : Int32} {r : Int32} (h : M_X11_written σ k p0 = some (σ', r)) (hL : lay 11 k) : Mi l E yX11_written cX11_written 2 (some .int) 2 [.ref (E.1 k), .int p0] σ σ' r := by
  refine Mi_of (C := RX11) rfl (by decide) (Nat.le_of_ble_eq_true rfl) (z := (σ', r)) (fun p e s m below meth c ls X hG hl => ?_)
  have hx := X.1.1.1
  have hb := X.1.1.2.1
  have hM := h
  unfold M_X11_written at hM
  generalize (σ', r) = z at hM ⊢
  have hl : lv_has ls 2 [(0, .ref (E.1 k)), (1, .int p0)] := hl
  refine lv_iload_n hx hb dX11_written_0 rfl (lv_at hl 1 rfl) ?_
  refine lv_iconst (v := (0 : Int32)) hx hb dX11_written_1 (by decide) ?_
  refine lv_aload_n hx hb dX11_written_2 rfl (lv_at hl 0 rfl) ?_
  refine gt_11_8 X.1 hG hL mw1127 dX11_written_3 ?_
  refine lv_iconst (v := (1 : Int32)) hx hb dX11_written_6 (by decide) ?_
  refine lv_isub hx hb dX11_written_7 ?_
  refine g_callS_i (nA := 3) (o := M_X11_in σ p0 (0 : Int32) ((σ k 8) - (1 : Int32))) (As := [.int p0, .int (0 : Int32), .int ((σ k 8) - (1 : Int32))]) X.1 hG (fun _ _ h => C_X11_in l E h ) mw1182 mw1183 mw62 (gw_ok mw1184 rfl) (by decide +kernel) rfl ⟨Nat.le_of_ble_eq_true rfl, Nat.le_of_ble_eq_true rfl⟩ hl.1 rfl (Nat.le_of_ble_eq_true rfl) ⟨Nat.le_refl _, Nat.le_refl _⟩ dX11_written_8 hM (fun σ1 r2 H locs hG hM => ?_)
  refine lv_if_eq (tgt := 23) hx hb dX11_written_11 (by decide) (fun c4 => ?_) (fun c4 => ?_)
  · have hM := b_if hM c4
    refine lv_iconst (v := (-1 : Int32)) hx hb dX11_written_23 (by decide) ?_
    exact e_iret X hG dX11_written_24 hM
  · have hM := b_else hM c4
    refine lv_aload_n hx hb dX11_written_14 rfl (lv_at hl 0 rfl) ?_
    refine gt_11_7 X.1 hG hL mw1126 dX11_written_15 ?_
    refine lv_iload_n hx hb dX11_written_18 rfl (lv_at hl 1 rfl) ?_
    refine g_ald X.1 hG (lf_11_7 hL) dX11_written_19 hM (fun q3 hM => ?_)
    refine lv_goto (tgt := 24) hx hb dX11_written_20 (by decide) ?_
    exact e_iret X hG dX11_written_24 hM
def B_X11_sum_4  : Nat → St → Nat → Int32 → Int32 → Int32 → Option (St × Int32)
  | 0, _, _, _, _, _ => none
  | n + 1, σ, k, x1, x2, x3 => bald σ (k + 1) (3 : Int32) fun q1 => if q1 ≤ x3 then some (σ, x2) else (bcall (M_X11_of σ k x3 x1) fun σ2 r3 => blet (x2 + r3) fun v4 => blet (x3 + (1 : Int32)) fun v5 => B_X11_sum_4 n σ2 k x1 v4 v5)
def M_X11_sum (σ : St) (k : Nat) (p0 : Int32) : Option (St × Int32) := B_X11_sum_4 FU σ k p0 (0 : Int32) (0 : Int32)
set_option maxRecDepth 20000 in
set_option maxHeartbeats 4000000 in
theorem w_X11_sum_4 {p : Program} {l : Launch} {e : Env} {s : State} {m : MethodId} {below : List Frame} {meth : Method} {c : Code} {args : Array Value} {E : Ev} {k : Nat} (X : Bx E p m meth c cX11_sum 4 (some .int) s args RX11) (hL : lay 11 k) : ∀ (n : Nat) (σ : St) (x1 x2 x3 : Int32) (H : Heap) (locs : List Loc) (ls : Array Slot) (z : St × Int32), GS E σ s.heap H locs → lv_has ls 4 [(0, .ref (E.1 k)), (1, .int x1), (2, .int x2), (3, .int x3)] → B_X11_sum_4 n σ k x1 x2 x3 = some z → W p l e (rmd 2) s m args below meth c H locs 0 0 (QI E z below args s) (F0 m 4 ls []) := by
  have hx := X.1.1.1
  have hb := X.1.1.2.1
  intro n
  induction n with
  | zero => intro σ x1 x2 x3 H locs ls z  hG hl hM; cases hM
  | succ n ih =>
    intro σ x1 x2 x3 H locs ls z  hG hl hM
    unfold B_X11_sum_4 at hM
    refine lv_iload_n hx hb dX11_sum_4 rfl (lv_at hl 3 rfl) ?_
    refine lv_aload_n hx hb dX11_sum_5 rfl (lv_at hl 0 rfl) ?_
    refine gt_11_0 X.1 hG hL mw1119 dX11_sum_6 ?_
    refine lv_iconst (v := (3 : Int32)) hx hb dX11_sum_9 (by decide) ?_
    refine g_ald X.1 hG (lf_11_0 hL) dX11_sum_10 hM (fun q1 hM => ?_)
    refine lv_icmp_ge (tgt := 29) hx hb dX11_sum_11 (by decide) (fun c6 => ?_) (fun c6 => ?_)
    · have hM := b_if hM c6
      refine lv_iload_n hx hb dX11_sum_29 rfl (lv_at hl 2 rfl) ?_
      exact e_iret X hG dX11_sum_30 hM
    · have hM := b_else hM c6
      refine lv_iload_n hx hb dX11_sum_14 rfl (lv_at hl 2 rfl) ?_
      refine lv_aload_n hx hb dX11_sum_15 rfl (lv_at hl 0 rfl) ?_
      refine lv_iload_n hx hb dX11_sum_16 rfl (lv_at hl 3 rfl) ?_
      refine lv_iload_n hx hb dX11_sum_17 rfl (lv_at hl 1 rfl) ?_
      refine g_callV_i (nA := 2) (o := M_X11_of σ k x3 x1) (As := [.int x3, .int x1]) X.1 hG hL rfl rfl (fun _ _ h => C_X11_of l E h hL) mw1242 mw1244 mw22 mw62 (gw_ok mw1245 rfl) (by decide +kernel) rfl ⟨Nat.le_of_ble_eq_true rfl, Nat.le_of_ble_eq_true rfl⟩ hl.1 rfl (Nat.le_of_ble_eq_true rfl) ⟨Nat.le_refl _, Nat.le_refl _⟩ dX11_sum_18 hM (fun σ2 r3 H locs hG hM => ?_)
      refine lv_iadd hx hb dX11_sum_21 ?_
      refine g_name hM (fun v4 hM => ?_)
      refine lv_istore_n (lv' := [(2, .int v4), (0, .ref (E.1 k)), (1, .int x1), (3, .int x3)]) hx hb dX11_sum_22 rfl hl (by decide) rfl (fun ls hl => ?_)
      obtain ⟨v5, ev5, hM⟩ := g_nm hM
      refine lv_iinc (v := v5) (lv' := [(3, .int v5), (2, .int v4), (0, .ref (E.1 k)), (1, .int x1)]) hx hb dX11_sum_23 hl (k := 3) rfl (by rw [ev5]; rfl) (by decide) rfl (fun ls hl => ?_)
      refine lv_goto (tgt := 4) hx hb dX11_sum_26 (by decide) ?_
      exact ih σ2 x1 v4 v5 _ _ _ z hG (lv_sub hl [2, 3, 1, 0] rfl) hM
set_option maxRecDepth 20000 in
set_option maxHeartbeats 4000000 in
theorem C_X11_sum (l : Launch) (E : Ev) {σ σ' : St} {k : Nat} {p0 : Int32} {r : Int32} (h : M_X11_sum σ k p0 = some (σ', r)) (hL : lay 11 k) : Mi l E yX11_sum cX11_sum 4 (some .int) 2 [.ref (E.1 k), .int p0] σ σ' r := by
  refine Mi_of (C := RX11) rfl (by decide) (Nat.le_of_ble_eq_true rfl) (z := (σ', r)) (fun p e s m below meth c ls X hG hl => ?_)
  have hx := X.1.1.1
  have hb := X.1.1.2.1
  have hM := h
  unfold M_X11_sum at hM
  generalize (σ', r) = z at hM ⊢
  have hl : lv_has ls 4 [(0, .ref (E.1 k)), (1, .int p0)] := hl
  refine lv_iconst (v := (0 : Int32)) hx hb dX11_sum_0 (by decide) ?_
  refine lv_istore_n (lv' := [(2, .int (0 : Int32)), (0, .ref (E.1 k)), (1, .int p0)]) hx hb dX11_sum_1 rfl hl (by decide) rfl (fun ls hl => ?_)
  refine lv_iconst (v := (0 : Int32)) hx hb dX11_sum_2 (by decide) ?_
  refine lv_istore_n (lv' := [(3, .int (0 : Int32)), (2, .int (0 : Int32)), (0, .ref (E.1 k)), (1, .int p0)]) hx hb dX11_sum_3 rfl hl (by decide) rfl (fun ls hl => ?_)
  exact w_X11_sum_4 X hL FU σ p0 (0 : Int32) (0 : Int32) _ _ _ z hG (lv_sub hl [2, 3, 1, 0] rfl) hM
def M_X11_work (σ : St) (k : Nat) (p0 : Int32) : Option (St × Int32) := if p0 = 0 then (bcall (M_X11_sum σ k (3 : Int32)) fun σ1 r2 => some (σ1, r2)) else (bald σ (k + 1) (12 : Int32) fun q3 => bald σ (k + 1) (9 : Int32) fun q4 => bald σ (k + 1) (13 : Int32) fun q5 => some (σ, (q3 - q4) - q5))
set_option maxRecDepth 20000 in
set_option maxHeartbeats 4000000 in
theorem C_X11_work (l : Launch) (E : Ev) {σ σ' : St} {k : Nat} {p0 : Int32} {r : Int32} (h : M_X11_work σ k p0 = some (σ', r)) (hL : lay 11 k) : Mi l E yX11_work cX11_work 2 (some .int) 3 [.ref (E.1 k), .int p0] σ σ' r := by
  refine Mi_of (C := RX11) rfl (by decide) (Nat.le_of_ble_eq_true rfl) (z := (σ', r)) (fun p e s m below meth c ls X hG hl => ?_)
  have hx := X.1.1.1
  have hb := X.1.1.2.1
  have hM := h
  unfold M_X11_work at hM
  generalize (σ', r) = z at hM ⊢
  have hl : lv_has ls 2 [(0, .ref (E.1 k)), (1, .int p0)] := hl
  refine lv_iload_n hx hb dX11_work_0 rfl (lv_at hl 1 rfl) ?_
  refine lv_if_eq (tgt := 30) hx hb dX11_work_1 (by decide) (fun c6 => ?_) (fun c6 => ?_)
  · have hM := b_if hM c6
    refine lv_aload_n hx hb dX11_work_30 rfl (lv_at hl 0 rfl) ?_
    refine lv_iconst (v := (3 : Int32)) hx hb dX11_work_31 (by decide) ?_
    refine g_callV_i (nA := 1) (o := M_X11_sum σ k (3 : Int32)) (As := [.int (3 : Int32)]) X.1 hG hL rfl rfl (fun _ _ h => C_X11_sum l E h hL) mw1454 mw1456 mw49 mw62 (gw_ok mw1457 rfl) (by decide +kernel) rfl ⟨Nat.le_of_ble_eq_true rfl, Nat.le_of_ble_eq_true rfl⟩ hl.1 rfl (Nat.le_of_ble_eq_true rfl) ⟨Nat.le_refl _, Nat.le_refl _⟩ dX11_work_32 hM (fun σ1 r2 H locs hG hM => ?_)
    exact e_iret X hG dX11_work_35 hM
  · have hM := b_else hM c6
    refine lv_aload_n hx hb dX11_work_4 rfl (lv_at hl 0 rfl) ?_
    refine gt_11_0 X.1 hG hL mw1119 dX11_work_5 ?_
    refine lv_bipush (v := (12 : Int32)) hx hb dX11_work_8 (by decide) ?_
    refine g_ald X.1 hG (lf_11_0 hL) dX11_work_10 hM (fun q3 hM => ?_)
    refine lv_aload_n hx hb dX11_work_11 rfl (lv_at hl 0 rfl) ?_
    refine gt_11_0 X.1 hG hL mw1119 dX11_work_12 ?_
    refine lv_bipush (v := (9 : Int32)) hx hb dX11_work_15 (by decide) ?_
    refine g_ald X.1 hG (lf_11_0 hL) dX11_work_17 hM (fun q4 hM => ?_)
    refine lv_isub hx hb dX11_work_18 ?_
    refine lv_aload_n hx hb dX11_work_19 rfl (lv_at hl 0 rfl) ?_
    refine gt_11_0 X.1 hG hL mw1119 dX11_work_20 ?_
    refine lv_bipush (v := (13 : Int32)) hx hb dX11_work_23 (by decide) ?_
    refine g_ald X.1 hG (lf_11_0 hL) dX11_work_25 hM (fun q5 hM => ?_)
    refine lv_isub hx hb dX11_work_26 ?_
    refine lv_goto (tgt := 35) hx hb dX11_work_27 (by decide) ?_
    exact e_iret X hG dX11_work_35 hM
def B_X11_meanStrength_17  : Nat → St → Nat → Int32 → Int32 → Int32 → Option (St × UInt32)
  | 0, _, _, _, _, _ => none
  | n + 1, σ, k, x1, x2, x3 => if x1 ≤ x3 then some (σ, FP.fdiv (FP.i2f x2) (FP.i2f x1)) else (bcall (M_X11_strong σ k x3) fun σ2 r3 => blet (x2 + r3) fun v4 => blet (x3 + (1 : Int32)) fun v5 => B_X11_meanStrength_17 n σ2 k x1 v4 v5)
def M_X11_meanStrength (σ : St) (k : Nat)  : Option (St × UInt32) := bald σ (k + 1) (3 : Int32) fun q1 => if q1 = 0 then some (σ, FP.fconst0) else (B_X11_meanStrength_17 FU σ k q1 (0 : Int32) (0 : Int32))
set_option maxRecDepth 20000 in
set_option maxHeartbeats 4000000 in
theorem w_X11_meanStrength_17 {p : Program} {l : Launch} {e : Env} {s : State} {m : MethodId} {below : List Frame} {meth : Method} {c : Code} {args : Array Value} {E : Ev} {k : Nat} (X : Bx E p m meth c cX11_meanStrength 4 (some .float) s args RX11) (hL : lay 11 k) : ∀ (n : Nat) (σ : St) (x1 x2 x3 : Int32) (H : Heap) (locs : List Loc) (ls : Array Slot) (z : St × UInt32), GS E σ s.heap H locs → lv_has ls 4 [(0, .ref (E.1 k)), (1, .int x1), (2, .int x2), (3, .int x3)] → B_X11_meanStrength_17 n σ k x1 x2 x3 = some z → W p l e (rmd 3) s m args below meth c H locs 0 0 (QF E z below args s) (F0 m 17 ls []) := by
  have hx := X.1.1.1
  have hb := X.1.1.2.1
  intro n
  induction n with
  | zero => intro σ x1 x2 x3 H locs ls z  hG hl hM; cases hM
  | succ n ih =>
    intro σ x1 x2 x3 H locs ls z  hG hl hM
    unfold B_X11_meanStrength_17 at hM
    refine lv_iload_n hx hb dX11_meanStrength_17 rfl (lv_at hl 3 rfl) ?_
    refine lv_iload_n hx hb dX11_meanStrength_18 rfl (lv_at hl 1 rfl) ?_
    refine lv_icmp_ge (tgt := 36) hx hb dX11_meanStrength_19 (by decide) (fun c6 => ?_) (fun c6 => ?_)
    · have hM := b_if hM c6
      refine lv_iload_n hx hb dX11_meanStrength_36 rfl (lv_at hl 2 rfl) ?_
      refine lv_i2f hx hb dX11_meanStrength_37 ?_
      refine lv_iload_n hx hb dX11_meanStrength_38 rfl (lv_at hl 1 rfl) ?_
      refine lv_i2f hx hb dX11_meanStrength_39 ?_
      exact e_fdiv X hG dX11_meanStrength_40 dX11_meanStrength_41 hM
    · have hM := b_else hM c6
      refine lv_iload_n hx hb dX11_meanStrength_22 rfl (lv_at hl 2 rfl) ?_
      refine lv_aload_n hx hb dX11_meanStrength_23 rfl (lv_at hl 0 rfl) ?_
      refine lv_iload_n hx hb dX11_meanStrength_24 rfl (lv_at hl 3 rfl) ?_
      refine g_callV_i (nA := 1) (o := M_X11_strong σ k x3) (As := [.int x3]) X.1 hG hL rfl rfl (fun _ _ h => C_X11_strong l E h hL) mw1339 mw1341 mw38 mw62 (gw_ok mw1342 rfl) (by decide +kernel) rfl ⟨Nat.le_of_ble_eq_true rfl, Nat.le_of_ble_eq_true rfl⟩ hl.1 rfl (Nat.le_of_ble_eq_true rfl) ⟨Nat.le_refl _, Nat.le_refl _⟩ dX11_meanStrength_25 hM (fun σ2 r3 H locs hG hM => ?_)
      refine lv_iadd hx hb dX11_meanStrength_28 ?_
      refine g_name hM (fun v4 hM => ?_)
      refine lv_istore_n (lv' := [(2, .int v4), (0, .ref (E.1 k)), (1, .int x1), (3, .int x3)]) hx hb dX11_meanStrength_29 rfl hl (by decide) rfl (fun ls hl => ?_)
      obtain ⟨v5, ev5, hM⟩ := g_nm hM
      refine lv_iinc (v := v5) (lv' := [(3, .int v5), (2, .int v4), (0, .ref (E.1 k)), (1, .int x1)]) hx hb dX11_meanStrength_30 hl (k := 3) rfl (by rw [ev5]; rfl) (by decide) rfl (fun ls hl => ?_)
      refine lv_goto (tgt := 17) hx hb dX11_meanStrength_33 (by decide) ?_
      exact ih σ2 x1 v4 v5 _ _ _ z hG (lv_sub hl [2, 3, 1, 0] rfl) hM
set_option maxRecDepth 20000 in
set_option maxHeartbeats 4000000 in
theorem C_X11_meanStrength (l : Launch) (E : Ev) {σ σ' : St} {k : Nat} {r : UInt32} (h : M_X11_meanStrength σ k = some (σ', r)) (hL : lay 11 k) : Mf l E yX11_meanStrength cX11_meanStrength 4 3 [.ref (E.1 k)] σ σ' r := by
  refine Mf_of (C := RX11) rfl (by decide) (Nat.le_of_ble_eq_true rfl) (z := (σ', r)) (fun p e s m below meth c ls X hG hl => ?_)
  have hx := X.1.1.1
  have hb := X.1.1.2.1
  have hM := h
  unfold M_X11_meanStrength at hM
  generalize (σ', r) = z at hM ⊢
  have hl : lv_has ls 4 [(0, .ref (E.1 k))] := hl
  refine lv_aload_n hx hb dX11_meanStrength_0 rfl (lv_at hl 0 rfl) ?_
  refine gt_11_0 X.1 hG hL mw1119 dX11_meanStrength_1 ?_
  refine lv_iconst (v := (3 : Int32)) hx hb dX11_meanStrength_4 (by decide) ?_
  refine g_ald X.1 hG (lf_11_0 hL) dX11_meanStrength_5 hM (fun q1 hM => ?_)
  refine lv_istore_n (lv' := [(1, .int q1), (0, .ref (E.1 k))]) hx hb dX11_meanStrength_6 rfl hl (by decide) rfl (fun ls hl => ?_)
  refine lv_iload_n hx hb dX11_meanStrength_7 rfl (lv_at hl 0 rfl) ?_
  refine lv_if_ne (tgt := 13) hx hb dX11_meanStrength_8 (by decide) (fun c7 => ?_) (fun c7 => ?_)
  · have hM := b_else hM c7
    refine lv_iconst (v := (0 : Int32)) hx hb dX11_meanStrength_13 (by decide) ?_
    refine lv_istore_n (lv' := [(2, .int (0 : Int32)), (1, .int q1), (0, .ref (E.1 k))]) hx hb dX11_meanStrength_14 rfl hl (by decide) rfl (fun ls hl => ?_)
    refine lv_iconst (v := (0 : Int32)) hx hb dX11_meanStrength_15 (by decide) ?_
    refine lv_istore_n (lv' := [(3, .int (0 : Int32)), (2, .int (0 : Int32)), (1, .int q1), (0, .ref (E.1 k))]) hx hb dX11_meanStrength_16 rfl hl (by decide) rfl (fun ls hl => ?_)
    exact w_X11_meanStrength_17 X hL FU σ q1 (0 : Int32) (0 : Int32) _ _ _ z hG (lv_sub hl [3, 2, 1, 0] rfl) hM
  · have hM := b_if hM c7
    refine lv_fconst0 hx hb dX11_meanStrength_11 ?_
    exact e_fret X hG dX11_meanStrength_12 hM
def M_X11_doneShare (σ : St) (k : Nat)  : Option (St × UInt64) := bald σ (k + 1) (12 : Int32) fun q1 => if q1 = 0 then some (σ, FP.dconst0) else (bald σ (k + 1) (9 : Int32) fun q2 => bald σ (k + 1) (12 : Int32) fun q3 => some (σ, FP.ddiv (FP.i2d q2) (FP.i2d q3)))
set_option maxRecDepth 20000 in
set_option maxHeartbeats 4000000 in
theorem C_X11_doneShare (l : Launch) (E : Ev) {σ σ' : St} {k : Nat} {r : UInt64} (h : M_X11_doneShare σ k = some (σ', r)) (hL : lay 11 k) : Md l E yX11_doneShare cX11_doneShare 1 1 [.ref (E.1 k)] σ σ' r := by
  refine Md_of (C := RX11) rfl (by decide) (Nat.le_of_ble_eq_true rfl) (z := (σ', r)) (fun p e s m below meth c ls X hG hl => ?_)
  have hx := X.1.1.1
  have hb := X.1.1.2.1
  have hM := h
  unfold M_X11_doneShare at hM
  generalize (σ', r) = z at hM ⊢
  have hl : lv_has ls 1 [(0, .ref (E.1 k))] := hl
  refine lv_aload_n hx hb dX11_doneShare_0 rfl (lv_at hl 0 rfl) ?_
  refine gt_11_0 X.1 hG hL mw1119 dX11_doneShare_1 ?_
  refine lv_bipush (v := (12 : Int32)) hx hb dX11_doneShare_4 (by decide) ?_
  refine g_ald X.1 hG (lf_11_0 hL) dX11_doneShare_6 hM (fun q1 hM => ?_)
  refine lv_if_ne (tgt := 14) hx hb dX11_doneShare_7 (by decide) (fun c4 => ?_) (fun c4 => ?_)
  · have hM := b_else hM c4
    refine lv_aload_n hx hb dX11_doneShare_14 rfl (lv_at hl 0 rfl) ?_
    refine gt_11_0 X.1 hG hL mw1119 dX11_doneShare_15 ?_
    refine lv_bipush (v := (9 : Int32)) hx hb dX11_doneShare_18 (by decide) ?_
    refine g_ald X.1 hG (lf_11_0 hL) dX11_doneShare_20 hM (fun q2 hM => ?_)
    refine lv_i2d hx hb dX11_doneShare_21 ?_
    refine lv_aload_n hx hb dX11_doneShare_22 rfl (lv_at hl 0 rfl) ?_
    refine gt_11_0 X.1 hG hL mw1119 dX11_doneShare_23 ?_
    refine lv_bipush (v := (12 : Int32)) hx hb dX11_doneShare_26 (by decide) ?_
    refine g_ald X.1 hG (lf_11_0 hL) dX11_doneShare_28 hM (fun q3 hM => ?_)
    refine lv_i2d hx hb dX11_doneShare_29 ?_
    exact e_ddiv X hG dX11_doneShare_30 dX11_doneShare_31 hM
  · have hM := b_if hM c4
    refine lv_dconst0 hx hb dX11_doneShare_10 ?_
    refine lv_goto (tgt := 31) hx hb dX11_doneShare_11 (by decide) ?_
    exact e_dret X hG dX11_doneShare_31 hM
def B_X11_account_115  : Nat → St → Nat → Int32 → Int32 → Option (St × Int32)
  | 0, _, _, _, _ => none
  | n + 1, σ, k, x2, x3 => bald σ (k + 1) (2 : Int32) fun q9 => if q9 ≤ x3 then some (σ, x2) else (bald σ (k + 1) ((14 : Int32) + ((2 : Int32) * x3)) fun q10 => blet (x2 + q10) fun v11 => blet (x3 + (1 : Int32)) fun v12 => B_X11_account_115 n σ k v11 v12)
def B_X11_account_156  : Nat → St → Nat → Int32 → Int32 → Option (St × Int32)
  | 0, _, _, _, _ => none
  | n + 1, σ, k, x2, x3 => bald σ (k + 1) (3 : Int32) fun q17 => if q17 ≤ x3 then some (σ, x2) else (bcall (M_X11_of σ k x3 (5 : Int32)) fun σ18 r19 => if r19 ≤ 0 then (blet (x3 + (1 : Int32)) fun v20 => B_X11_account_156 n σ18 k x2 v20) else (blet (x2 + (1 : Int32)) fun v21 => blet (x3 + (1 : Int32)) fun v22 => B_X11_account_156 n σ18 k v21 v22))
def B_X11_account_188  : Nat → St → Nat → Int32 → Int32 → Option (St × Int32)
  | 0, _, _, _, _ => none
  | n + 1, σ, k, x2, x3 => bald σ (k + 1) (3 : Int32) fun q26 => if q26 ≤ x3 then some (σ, x2) else (bcall (M_X11_of σ k x3 (2 : Int32)) fun σ27 r28 => if r28 ≤ (20 : Int32) then (blet (x3 + (1 : Int32)) fun v29 => B_X11_account_188 n σ27 k x2 v29) else (blet (x2 + (1 : Int32)) fun v30 => blet (x3 + (1 : Int32)) fun v31 => B_X11_account_188 n σ27 k v30 v31))
def B_X11_account_229  : Nat → St → Nat → Int32 → Int32 → Option (St × Int32)
  | 0, _, _, _, _ => none
  | n + 1, σ, k, x2, x3 => bald σ (k + 1) (4 : Int32) fun q37 => if q37 ≤ x3 then some (σ, x2) else (bcall (M_X11_where σ k x3) fun σ38 r39 => if r39 < 0 then (blet (x3 + (1 : Int32)) fun v40 => B_X11_account_229 n σ38 k x2 v40) else (blet (x2 + (1 : Int32)) fun v41 => blet (x3 + (1 : Int32)) fun v42 => B_X11_account_229 n σ38 k v41 v42))
def M_X11_account (σ : St) (k : Nat) (p0 : Int32) : Option (St × Int32) := if p0.toInt < 0 ∨ 18 < p0.toInt then some (σ, (-2 : Int32)) else if p0.toInt = 0 then (bald σ (k + 1) (0 : Int32) fun q3 => some (σ, q3)) else if p0.toInt = 1 then (bald σ (k + 1) (1 : Int32) fun q5 => some (σ, q5)) else if p0.toInt = 2 then (bald σ (k + 1) (2 : Int32) fun q7 => some (σ, q7)) else if p0.toInt = 3 then (B_X11_account_115 FU σ k (0 : Int32) (0 : Int32)) else if p0.toInt = 4 then (bald σ (k + 1) (3 : Int32) fun q15 => some (σ, q15)) else if p0.toInt = 5 then (B_X11_account_156 FU σ k (0 : Int32) (0 : Int32)) else if p0.toInt = 6 then (B_X11_account_188 FU σ k (0 : Int32) (0 : Int32)) else if p0.toInt = 7 then (bald σ (k + 1) (4 : Int32) fun q35 => some (σ, q35)) else if p0.toInt = 8 then (B_X11_account_229 FU σ k (0 : Int32) (0 : Int32)) else if p0.toInt = 9 then (bald σ (k + 1) (6 : Int32) fun q46 => some (σ, q46)) else if p0.toInt = 10 then (bald σ (k + 1) (7 : Int32) fun q48 => some (σ, q48)) else if p0.toInt = 11 then (bcall (M_X11_sum σ k (4 : Int32)) fun σ50 r51 => some (σ50, r51)) else if p0.toInt = 12 then (bald σ (k + 1) (5 : Int32) fun q53 => some (σ, q53)) else if p0.toInt = 13 then (bald σ (k + 1) (8 : Int32) fun q55 => some (σ, q55)) else if p0.toInt = 14 then (bald σ (k + 1) (9 : Int32) fun q57 => some (σ, q57)) else if p0.toInt = 15 then (bald σ (k + 1) (10 : Int32) fun q59 => some (σ, q59)) else if p0.toInt = 16 then (bald σ (k + 1) (11 : Int32) fun q61 => some (σ, q61)) else if p0.toInt = 17 then some (σ, σ k 10) else if p0.toInt = 18 then some (σ, σ k 4) else none
set_option maxRecDepth 20000 in
set_option maxHeartbeats 4000000 in
theorem w_X11_account_115 {p : Program} {l : Launch} {e : Env} {s : State} {m : MethodId} {below : List Frame} {meth : Method} {c : Code} {args : Array Value} {E : Ev} {k : Nat} (X : Bx E p m meth c cX11_account 4 (some .int) s args RX11) (hL : lay 11 k) : ∀ (n : Nat) (σ : St) (x2 x3 : Int32) (H : Heap) (locs : List Loc) (ls : Array Slot) (z : St × Int32), GS E σ s.heap H locs → lv_has ls 4 [(0, .ref (E.1 k)), (2, .int x2), (3, .int x3)] → B_X11_account_115 n σ k x2 x3 = some z → W p l e (rmd 3) s m args below meth c H locs 0 0 (QI E z below args s) (F0 m 115 ls []) := by
  have hx := X.1.1.1
  have hb := X.1.1.2.1
  intro n
  induction n with
  | zero => intro σ x2 x3 H locs ls z  hG hl hM; cases hM
  | succ n ih =>
    intro σ x2 x3 H locs ls z  hG hl hM
    unfold B_X11_account_115 at hM
    refine lv_iload_n hx hb dX11_account_115 rfl (lv_at hl 2 rfl) ?_
    refine lv_aload_n hx hb dX11_account_116 rfl (lv_at hl 0 rfl) ?_
    refine gt_11_0 X.1 hG hL mw1119 dX11_account_117 ?_
    refine lv_iconst (v := (2 : Int32)) hx hb dX11_account_120 (by decide) ?_
    refine g_ald X.1 hG (lf_11_0 hL) dX11_account_121 hM (fun q9 hM => ?_)
    refine lv_icmp_ge (tgt := 145) hx hb dX11_account_122 (by decide) (fun c13 => ?_) (fun c13 => ?_)
    · have hM := b_if hM c13
      refine lv_iload_n hx hb dX11_account_145 rfl (lv_at hl 1 rfl) ?_
      exact e_iret X hG dX11_account_146 hM
    · have hM := b_else hM c13
      refine lv_iload_n hx hb dX11_account_125 rfl (lv_at hl 1 rfl) ?_
      refine lv_aload_n hx hb dX11_account_126 rfl (lv_at hl 0 rfl) ?_
      refine gt_11_0 X.1 hG hL mw1119 dX11_account_127 ?_
      refine lv_bipush (v := (14 : Int32)) hx hb dX11_account_130 (by decide) ?_
      refine lv_iconst (v := (2 : Int32)) hx hb dX11_account_132 (by decide) ?_
      refine lv_iload_n hx hb dX11_account_133 rfl (lv_at hl 2 rfl) ?_
      refine lv_imul hx hb dX11_account_134 ?_
      refine lv_iadd hx hb dX11_account_135 ?_
      refine g_ald X.1 hG (lf_11_0 hL) dX11_account_136 hM (fun q10 hM => ?_)
      refine lv_iadd hx hb dX11_account_137 ?_
      refine g_name hM (fun v11 hM => ?_)
      refine lv_istore_n (lv' := [(2, .int v11), (0, .ref (E.1 k)), (3, .int x3)]) hx hb dX11_account_138 rfl hl (by decide) rfl (fun ls hl => ?_)
      obtain ⟨v12, ev12, hM⟩ := g_nm hM
      refine lv_iinc (v := v12) (lv' := [(3, .int v12), (2, .int v11), (0, .ref (E.1 k))]) hx hb dX11_account_139 hl (k := 2) rfl (by rw [ev12]; rfl) (by decide) rfl (fun ls hl => ?_)
      refine lv_goto (tgt := 115) hx hb dX11_account_142 (by decide) ?_
      exact ih σ v11 v12 _ _ _ z hG (lv_sub hl [2, 1, 0] rfl) hM
set_option maxRecDepth 20000 in
set_option maxHeartbeats 4000000 in
theorem w_X11_account_156 {p : Program} {l : Launch} {e : Env} {s : State} {m : MethodId} {below : List Frame} {meth : Method} {c : Code} {args : Array Value} {E : Ev} {k : Nat} (X : Bx E p m meth c cX11_account 4 (some .int) s args RX11) (hL : lay 11 k) : ∀ (n : Nat) (σ : St) (x2 x3 : Int32) (H : Heap) (locs : List Loc) (ls : Array Slot) (z : St × Int32), GS E σ s.heap H locs → lv_has ls 4 [(0, .ref (E.1 k)), (2, .int x2), (3, .int x3)] → B_X11_account_156 n σ k x2 x3 = some z → W p l e (rmd 3) s m args below meth c H locs 0 0 (QI E z below args s) (F0 m 156 ls []) := by
  have hx := X.1.1.1
  have hb := X.1.1.2.1
  intro n
  induction n with
  | zero => intro σ x2 x3 H locs ls z  hG hl hM; cases hM
  | succ n ih =>
    intro σ x2 x3 H locs ls z  hG hl hM
    unfold B_X11_account_156 at hM
    refine lv_iload_n hx hb dX11_account_156 rfl (lv_at hl 2 rfl) ?_
    refine lv_aload_n hx hb dX11_account_157 rfl (lv_at hl 0 rfl) ?_
    refine gt_11_0 X.1 hG hL mw1119 dX11_account_158 ?_
    refine lv_iconst (v := (3 : Int32)) hx hb dX11_account_161 (by decide) ?_
    refine g_ald X.1 hG (lf_11_0 hL) dX11_account_162 hM (fun q17 hM => ?_)
    refine lv_icmp_ge (tgt := 184) hx hb dX11_account_163 (by decide) (fun c24 => ?_) (fun c24 => ?_)
    · have hM := b_if hM c24
      refine lv_iload_n hx hb dX11_account_184 rfl (lv_at hl 1 rfl) ?_
      exact e_iret X hG dX11_account_185 hM
    · have hM := b_else hM c24
      refine lv_aload_n hx hb dX11_account_166 rfl (lv_at hl 0 rfl) ?_
      refine lv_iload_n hx hb dX11_account_167 rfl (lv_at hl 2 rfl) ?_
      refine lv_iconst (v := (5 : Int32)) hx hb dX11_account_168 (by decide) ?_
      refine g_callV_i (nA := 2) (o := M_X11_of σ k x3 (5 : Int32)) (As := [.int x3, .int (5 : Int32)]) X.1 hG hL rfl rfl (fun _ _ h => C_X11_of l E h hL) mw1242 mw1244 mw22 mw62 (gw_ok mw1245 rfl) (by decide +kernel) rfl ⟨Nat.le_of_ble_eq_true rfl, Nat.le_of_ble_eq_true rfl⟩ hl.1 rfl (Nat.le_of_ble_eq_true rfl) ⟨Nat.le_refl _, Nat.le_refl _⟩ dX11_account_169 hM (fun σ18 r19 H locs hG hM => ?_)
      refine lv_if_le (tgt := 178) hx hb dX11_account_172 (by decide) (fun c23 => ?_) (fun c23 => ?_)
      · have hM := b_if hM c23
        obtain ⟨v20, ev20, hM⟩ := g_nm hM
        refine lv_iinc (v := v20) (lv' := [(3, .int v20), (0, .ref (E.1 k)), (2, .int x2)]) hx hb dX11_account_178 hl (k := 2) rfl (by rw [ev20]; rfl) (by decide) rfl (fun ls hl => ?_)
        refine lv_goto (tgt := 156) hx hb dX11_account_181 (by decide) ?_
        exact ih σ18 x2 v20 _ _ _ z hG (lv_sub hl [1, 2, 0] rfl) hM
      · have hM := b_else hM c23
        obtain ⟨v21, ev21, hM⟩ := g_nm hM
        refine lv_iinc (v := v21) (lv' := [(2, .int v21), (0, .ref (E.1 k)), (3, .int x3)]) hx hb dX11_account_175 hl (k := 1) rfl (by rw [ev21]; rfl) (by decide) rfl (fun ls hl => ?_)
        obtain ⟨v22, ev22, hM⟩ := g_nm hM
        refine lv_iinc (v := v22) (lv' := [(3, .int v22), (2, .int v21), (0, .ref (E.1 k))]) hx hb dX11_account_178 hl (k := 2) rfl (by rw [ev22]; rfl) (by decide) rfl (fun ls hl => ?_)
        refine lv_goto (tgt := 156) hx hb dX11_account_181 (by decide) ?_
        exact ih σ18 v21 v22 _ _ _ z hG (lv_sub hl [2, 1, 0] rfl) hM
set_option maxRecDepth 20000 in
set_option maxHeartbeats 4000000 in
theorem w_X11_account_188 {p : Program} {l : Launch} {e : Env} {s : State} {m : MethodId} {below : List Frame} {meth : Method} {c : Code} {args : Array Value} {E : Ev} {k : Nat} (X : Bx E p m meth c cX11_account 4 (some .int) s args RX11) (hL : lay 11 k) : ∀ (n : Nat) (σ : St) (x2 x3 : Int32) (H : Heap) (locs : List Loc) (ls : Array Slot) (z : St × Int32), GS E σ s.heap H locs → lv_has ls 4 [(0, .ref (E.1 k)), (2, .int x2), (3, .int x3)] → B_X11_account_188 n σ k x2 x3 = some z → W p l e (rmd 3) s m args below meth c H locs 0 0 (QI E z below args s) (F0 m 188 ls []) := by
  have hx := X.1.1.1
  have hb := X.1.1.2.1
  intro n
  induction n with
  | zero => intro σ x2 x3 H locs ls z  hG hl hM; cases hM
  | succ n ih =>
    intro σ x2 x3 H locs ls z  hG hl hM
    unfold B_X11_account_188 at hM
    refine lv_iload_n hx hb dX11_account_188 rfl (lv_at hl 2 rfl) ?_
    refine lv_aload_n hx hb dX11_account_189 rfl (lv_at hl 0 rfl) ?_
    refine gt_11_0 X.1 hG hL mw1119 dX11_account_190 ?_
    refine lv_iconst (v := (3 : Int32)) hx hb dX11_account_193 (by decide) ?_
    refine g_ald X.1 hG (lf_11_0 hL) dX11_account_194 hM (fun q26 hM => ?_)
    refine lv_icmp_ge (tgt := 218) hx hb dX11_account_195 (by decide) (fun c33 => ?_) (fun c33 => ?_)
    · have hM := b_if hM c33
      refine lv_iload_n hx hb dX11_account_218 rfl (lv_at hl 1 rfl) ?_
      exact e_iret X hG dX11_account_219 hM
    · have hM := b_else hM c33
      refine lv_aload_n hx hb dX11_account_198 rfl (lv_at hl 0 rfl) ?_
      refine lv_iload_n hx hb dX11_account_199 rfl (lv_at hl 2 rfl) ?_
      refine lv_iconst (v := (2 : Int32)) hx hb dX11_account_200 (by decide) ?_
      refine g_callV_i (nA := 2) (o := M_X11_of σ k x3 (2 : Int32)) (As := [.int x3, .int (2 : Int32)]) X.1 hG hL rfl rfl (fun _ _ h => C_X11_of l E h hL) mw1242 mw1244 mw22 mw62 (gw_ok mw1245 rfl) (by decide +kernel) rfl ⟨Nat.le_of_ble_eq_true rfl, Nat.le_of_ble_eq_true rfl⟩ hl.1 rfl (Nat.le_of_ble_eq_true rfl) ⟨Nat.le_refl _, Nat.le_refl _⟩ dX11_account_201 hM (fun σ27 r28 H locs hG hM => ?_)
      refine lv_bipush (v := (20 : Int32)) hx hb dX11_account_204 (by decide) ?_
      refine lv_icmp_le (tgt := 212) hx hb dX11_account_206 (by decide) (fun c32 => ?_) (fun c32 => ?_)
      · have hM := b_if hM c32
        obtain ⟨v29, ev29, hM⟩ := g_nm hM
        refine lv_iinc (v := v29) (lv' := [(3, .int v29), (0, .ref (E.1 k)), (2, .int x2)]) hx hb dX11_account_212 hl (k := 2) rfl (by rw [ev29]; rfl) (by decide) rfl (fun ls hl => ?_)
        refine lv_goto (tgt := 188) hx hb dX11_account_215 (by decide) ?_
        exact ih σ27 x2 v29 _ _ _ z hG (lv_sub hl [1, 2, 0] rfl) hM
      · have hM := b_else hM c32
        obtain ⟨v30, ev30, hM⟩ := g_nm hM
        refine lv_iinc (v := v30) (lv' := [(2, .int v30), (0, .ref (E.1 k)), (3, .int x3)]) hx hb dX11_account_209 hl (k := 1) rfl (by rw [ev30]; rfl) (by decide) rfl (fun ls hl => ?_)
        obtain ⟨v31, ev31, hM⟩ := g_nm hM
        refine lv_iinc (v := v31) (lv' := [(3, .int v31), (2, .int v30), (0, .ref (E.1 k))]) hx hb dX11_account_212 hl (k := 2) rfl (by rw [ev31]; rfl) (by decide) rfl (fun ls hl => ?_)
        refine lv_goto (tgt := 188) hx hb dX11_account_215 (by decide) ?_
        exact ih σ27 v30 v31 _ _ _ z hG (lv_sub hl [2, 1, 0] rfl) hM
set_option maxRecDepth 20000 in
set_option maxHeartbeats 4000000 in
theorem w_X11_account_229 {p : Program} {l : Launch} {e : Env} {s : State} {m : MethodId} {below : List Frame} {meth : Method} {c : Code} {args : Array Value} {E : Ev} {k : Nat} (X : Bx E p m meth c cX11_account 4 (some .int) s args RX11) (hL : lay 11 k) : ∀ (n : Nat) (σ : St) (x2 x3 : Int32) (H : Heap) (locs : List Loc) (ls : Array Slot) (z : St × Int32), GS E σ s.heap H locs → lv_has ls 4 [(0, .ref (E.1 k)), (2, .int x2), (3, .int x3)] → B_X11_account_229 n σ k x2 x3 = some z → W p l e (rmd 3) s m args below meth c H locs 0 0 (QI E z below args s) (F0 m 229 ls []) := by
  have hx := X.1.1.1
  have hb := X.1.1.2.1
  intro n
  induction n with
  | zero => intro σ x2 x3 H locs ls z  hG hl hM; cases hM
  | succ n ih =>
    intro σ x2 x3 H locs ls z  hG hl hM
    unfold B_X11_account_229 at hM
    refine lv_iload_n hx hb dX11_account_229 rfl (lv_at hl 2 rfl) ?_
    refine lv_aload_n hx hb dX11_account_230 rfl (lv_at hl 0 rfl) ?_
    refine gt_11_0 X.1 hG hL mw1119 dX11_account_231 ?_
    refine lv_iconst (v := (4 : Int32)) hx hb dX11_account_234 (by decide) ?_
    refine g_ald X.1 hG (lf_11_0 hL) dX11_account_235 hM (fun q37 hM => ?_)
    refine lv_icmp_ge (tgt := 256) hx hb dX11_account_236 (by decide) (fun c44 => ?_) (fun c44 => ?_)
    · have hM := b_if hM c44
      refine lv_iload_n hx hb dX11_account_256 rfl (lv_at hl 1 rfl) ?_
      exact e_iret X hG dX11_account_257 hM
    · have hM := b_else hM c44
      refine lv_aload_n hx hb dX11_account_239 rfl (lv_at hl 0 rfl) ?_
      refine lv_iload_n hx hb dX11_account_240 rfl (lv_at hl 2 rfl) ?_
      refine g_callV_i (nA := 1) (o := M_X11_where σ k x3) (As := [.int x3]) X.1 hG hL rfl rfl (fun _ _ h => C_X11_where l E h hL) mw1262 mw1264 mw25 mw62 (gw_ok mw1265 rfl) (by decide +kernel) rfl ⟨Nat.le_of_ble_eq_true rfl, Nat.le_of_ble_eq_true rfl⟩ hl.1 rfl (Nat.le_of_ble_eq_true rfl) ⟨Nat.le_refl _, Nat.le_refl _⟩ dX11_account_241 hM (fun σ38 r39 H locs hG hM => ?_)
      refine lv_if_lt (tgt := 250) hx hb dX11_account_244 (by decide) (fun c43 => ?_) (fun c43 => ?_)
      · have hM := b_if hM c43
        obtain ⟨v40, ev40, hM⟩ := g_nm hM
        refine lv_iinc (v := v40) (lv' := [(3, .int v40), (0, .ref (E.1 k)), (2, .int x2)]) hx hb dX11_account_250 hl (k := 2) rfl (by rw [ev40]; rfl) (by decide) rfl (fun ls hl => ?_)
        refine lv_goto (tgt := 229) hx hb dX11_account_253 (by decide) ?_
        exact ih σ38 x2 v40 _ _ _ z hG (lv_sub hl [1, 2, 0] rfl) hM
      · have hM := b_else hM c43
        obtain ⟨v41, ev41, hM⟩ := g_nm hM
        refine lv_iinc (v := v41) (lv' := [(2, .int v41), (0, .ref (E.1 k)), (3, .int x3)]) hx hb dX11_account_247 hl (k := 1) rfl (by rw [ev41]; rfl) (by decide) rfl (fun ls hl => ?_)
        obtain ⟨v42, ev42, hM⟩ := g_nm hM
        refine lv_iinc (v := v42) (lv' := [(3, .int v42), (2, .int v41), (0, .ref (E.1 k))]) hx hb dX11_account_250 hl (k := 2) rfl (by rw [ev42]; rfl) (by decide) rfl (fun ls hl => ?_)
        refine lv_goto (tgt := 229) hx hb dX11_account_253 (by decide) ?_
        exact ih σ38 v41 v42 _ _ _ z hG (lv_sub hl [2, 1, 0] rfl) hM
set_option maxRecDepth 20000 in
set_option maxHeartbeats 4000000 in
theorem C_X11_account (l : Launch) (E : Ev) {σ σ' : St} {k : Nat} {p0 : Int32} {r : Int32} (h : M_X11_account σ k p0 = some (σ', r)) (hL : lay 11 k) : Mi l E yX11_account cX11_account 4 (some .int) 3 [.ref (E.1 k), .int p0] σ σ' r := by
  refine Mi_of (C := RX11) rfl (by decide) (Nat.le_of_ble_eq_true rfl) (z := (σ', r)) (fun p e s m below meth c ls X hG hl => ?_)
  have hx := X.1.1.1
  have hb := X.1.1.2.1
  have hM := h
  unfold M_X11_account at hM
  generalize (σ', r) = z at hM ⊢
  have hl : lv_has ls 4 [(0, .ref (E.1 k)), (1, .int p0)] := hl
  refine lv_iconst (v := (0 : Int32)) hx hb dX11_account_0 (by decide) ?_
  refine lv_istore_n (lv' := [(2, .int (0 : Int32)), (0, .ref (E.1 k)), (1, .int p0)]) hx hb dX11_account_1 rfl hl (by decide) rfl (fun ls hl => ?_)
  refine lv_iload_n hx hb dX11_account_2 rfl (lv_at hl 2 rfl) ?_
  by_cases c1 : p0.toInt < 0 ∨ 18 < p0.toInt
  · have hM := b_if hM c1
    refine lv_tableOut (tgt := 329) hx hb dX11_account_3 c1 (by decide) ?_
    refine lv_bipush (v := (-2 : Int32)) hx hb dX11_account_329 (by decide) ?_
    exact e_iret X hG dX11_account_331 hM
  · have hM := b_else hM c1
    by_cases c2 : p0.toInt = 0
    · have hM := b_if hM c2
      refine lv_tableIn (tgt := 92) hx hb dX11_account_3 (fun h => c1 (Or.inl h)) (fun h => c1 (Or.inr h)) (by rw [c2]; rfl) (by decide) ?_
      refine lv_aload_n hx hb dX11_account_92 rfl (lv_at hl 1 rfl) ?_
      refine gt_11_0 X.1 hG hL mw1119 dX11_account_93 ?_
      refine lv_iconst (v := (0 : Int32)) hx hb dX11_account_96 (by decide) ?_
      refine g_ald X.1 hG (lf_11_0 hL) dX11_account_97 hM (fun q3 hM => ?_)
      exact e_iret X hG dX11_account_98 hM
    have hM := b_else hM c2
    by_cases c4 : p0.toInt = 1
    · have hM := b_if hM c4
      refine lv_tableIn (tgt := 99) hx hb dX11_account_3 (fun h => c1 (Or.inl h)) (fun h => c1 (Or.inr h)) (by rw [c4]; rfl) (by decide) ?_
      refine lv_aload_n hx hb dX11_account_99 rfl (lv_at hl 1 rfl) ?_
      refine gt_11_0 X.1 hG hL mw1119 dX11_account_100 ?_
      refine lv_iconst (v := (1 : Int32)) hx hb dX11_account_103 (by decide) ?_
      refine g_ald X.1 hG (lf_11_0 hL) dX11_account_104 hM (fun q5 hM => ?_)
      exact e_iret X hG dX11_account_105 hM
    have hM := b_else hM c4
    by_cases c6 : p0.toInt = 2
    · have hM := b_if hM c6
      refine lv_tableIn (tgt := 106) hx hb dX11_account_3 (fun h => c1 (Or.inl h)) (fun h => c1 (Or.inr h)) (by rw [c6]; rfl) (by decide) ?_
      refine lv_aload_n hx hb dX11_account_106 rfl (lv_at hl 1 rfl) ?_
      refine gt_11_0 X.1 hG hL mw1119 dX11_account_107 ?_
      refine lv_iconst (v := (2 : Int32)) hx hb dX11_account_110 (by decide) ?_
      refine g_ald X.1 hG (lf_11_0 hL) dX11_account_111 hM (fun q7 hM => ?_)
      exact e_iret X hG dX11_account_112 hM
    have hM := b_else hM c6
    by_cases c8 : p0.toInt = 3
    · have hM := b_if hM c8
      refine lv_tableIn (tgt := 113) hx hb dX11_account_3 (fun h => c1 (Or.inl h)) (fun h => c1 (Or.inr h)) (by rw [c8]; rfl) (by decide) ?_
      refine lv_iconst (v := (0 : Int32)) hx hb dX11_account_113 (by decide) ?_
      refine lv_istore_n (lv' := [(3, .int (0 : Int32)), (2, .int (0 : Int32)), (0, .ref (E.1 k)), (1, .int p0)]) hx hb dX11_account_114 rfl hl (by decide) rfl (fun ls hl => ?_)
      exact w_X11_account_115 X hL FU σ (0 : Int32) (0 : Int32) _ _ _ z hG (lv_sub hl [2, 1, 0] rfl) hM
    have hM := b_else hM c8
    by_cases c14 : p0.toInt = 4
    · have hM := b_if hM c14
      refine lv_tableIn (tgt := 147) hx hb dX11_account_3 (fun h => c1 (Or.inl h)) (fun h => c1 (Or.inr h)) (by rw [c14]; rfl) (by decide) ?_
      refine lv_aload_n hx hb dX11_account_147 rfl (lv_at hl 1 rfl) ?_
      refine gt_11_0 X.1 hG hL mw1119 dX11_account_148 ?_
      refine lv_iconst (v := (3 : Int32)) hx hb dX11_account_151 (by decide) ?_
      refine g_ald X.1 hG (lf_11_0 hL) dX11_account_152 hM (fun q15 hM => ?_)
      exact e_iret X hG dX11_account_153 hM
    have hM := b_else hM c14
    by_cases c16 : p0.toInt = 5
    · have hM := b_if hM c16
      refine lv_tableIn (tgt := 154) hx hb dX11_account_3 (fun h => c1 (Or.inl h)) (fun h => c1 (Or.inr h)) (by rw [c16]; rfl) (by decide) ?_
      refine lv_iconst (v := (0 : Int32)) hx hb dX11_account_154 (by decide) ?_
      refine lv_istore_n (lv' := [(3, .int (0 : Int32)), (2, .int (0 : Int32)), (0, .ref (E.1 k)), (1, .int p0)]) hx hb dX11_account_155 rfl hl (by decide) rfl (fun ls hl => ?_)
      exact w_X11_account_156 X hL FU σ (0 : Int32) (0 : Int32) _ _ _ z hG (lv_sub hl [2, 1, 0] rfl) hM
    have hM := b_else hM c16
    by_cases c25 : p0.toInt = 6
    · have hM := b_if hM c25
      refine lv_tableIn (tgt := 186) hx hb dX11_account_3 (fun h => c1 (Or.inl h)) (fun h => c1 (Or.inr h)) (by rw [c25]; rfl) (by decide) ?_
      refine lv_iconst (v := (0 : Int32)) hx hb dX11_account_186 (by decide) ?_
      refine lv_istore_n (lv' := [(3, .int (0 : Int32)), (2, .int (0 : Int32)), (0, .ref (E.1 k)), (1, .int p0)]) hx hb dX11_account_187 rfl hl (by decide) rfl (fun ls hl => ?_)
      exact w_X11_account_188 X hL FU σ (0 : Int32) (0 : Int32) _ _ _ z hG (lv_sub hl [2, 1, 0] rfl) hM
    have hM := b_else hM c25
    by_cases c34 : p0.toInt = 7
    · have hM := b_if hM c34
      refine lv_tableIn (tgt := 220) hx hb dX11_account_3 (fun h => c1 (Or.inl h)) (fun h => c1 (Or.inr h)) (by rw [c34]; rfl) (by decide) ?_
      refine lv_aload_n hx hb dX11_account_220 rfl (lv_at hl 1 rfl) ?_
      refine gt_11_0 X.1 hG hL mw1119 dX11_account_221 ?_
      refine lv_iconst (v := (4 : Int32)) hx hb dX11_account_224 (by decide) ?_
      refine g_ald X.1 hG (lf_11_0 hL) dX11_account_225 hM (fun q35 hM => ?_)
      exact e_iret X hG dX11_account_226 hM
    have hM := b_else hM c34
    by_cases c36 : p0.toInt = 8
    · have hM := b_if hM c36
      refine lv_tableIn (tgt := 227) hx hb dX11_account_3 (fun h => c1 (Or.inl h)) (fun h => c1 (Or.inr h)) (by rw [c36]; rfl) (by decide) ?_
      refine lv_iconst (v := (0 : Int32)) hx hb dX11_account_227 (by decide) ?_
      refine lv_istore_n (lv' := [(3, .int (0 : Int32)), (2, .int (0 : Int32)), (0, .ref (E.1 k)), (1, .int p0)]) hx hb dX11_account_228 rfl hl (by decide) rfl (fun ls hl => ?_)
      exact w_X11_account_229 X hL FU σ (0 : Int32) (0 : Int32) _ _ _ z hG (lv_sub hl [2, 1, 0] rfl) hM
    have hM := b_else hM c36
    by_cases c45 : p0.toInt = 9
    · have hM := b_if hM c45
      refine lv_tableIn (tgt := 258) hx hb dX11_account_3 (fun h => c1 (Or.inl h)) (fun h => c1 (Or.inr h)) (by rw [c45]; rfl) (by decide) ?_
      refine lv_aload_n hx hb dX11_account_258 rfl (lv_at hl 1 rfl) ?_
      refine gt_11_0 X.1 hG hL mw1119 dX11_account_259 ?_
      refine lv_bipush (v := (6 : Int32)) hx hb dX11_account_262 (by decide) ?_
      refine g_ald X.1 hG (lf_11_0 hL) dX11_account_264 hM (fun q46 hM => ?_)
      exact e_iret X hG dX11_account_265 hM
    have hM := b_else hM c45
    by_cases c47 : p0.toInt = 10
    · have hM := b_if hM c47
      refine lv_tableIn (tgt := 266) hx hb dX11_account_3 (fun h => c1 (Or.inl h)) (fun h => c1 (Or.inr h)) (by rw [c47]; rfl) (by decide) ?_
      refine lv_aload_n hx hb dX11_account_266 rfl (lv_at hl 1 rfl) ?_
      refine gt_11_0 X.1 hG hL mw1119 dX11_account_267 ?_
      refine lv_bipush (v := (7 : Int32)) hx hb dX11_account_270 (by decide) ?_
      refine g_ald X.1 hG (lf_11_0 hL) dX11_account_272 hM (fun q48 hM => ?_)
      exact e_iret X hG dX11_account_273 hM
    have hM := b_else hM c47
    by_cases c49 : p0.toInt = 11
    · have hM := b_if hM c49
      refine lv_tableIn (tgt := 274) hx hb dX11_account_3 (fun h => c1 (Or.inl h)) (fun h => c1 (Or.inr h)) (by rw [c49]; rfl) (by decide) ?_
      refine lv_aload_n hx hb dX11_account_274 rfl (lv_at hl 1 rfl) ?_
      refine lv_iconst (v := (4 : Int32)) hx hb dX11_account_275 (by decide) ?_
      refine g_callV_i (nA := 1) (o := M_X11_sum σ k (4 : Int32)) (As := [.int (4 : Int32)]) X.1 hG hL rfl rfl (fun _ _ h => C_X11_sum l E h hL) mw1454 mw1456 mw49 mw62 (gw_ok mw1457 rfl) (by decide +kernel) rfl ⟨Nat.le_of_ble_eq_true rfl, Nat.le_of_ble_eq_true rfl⟩ hl.1 rfl (Nat.le_of_ble_eq_true rfl) ⟨Nat.le_refl _, Nat.le_refl _⟩ dX11_account_276 hM (fun σ50 r51 H locs hG hM => ?_)
      exact e_iret X hG dX11_account_279 hM
    have hM := b_else hM c49
    by_cases c52 : p0.toInt = 12
    · have hM := b_if hM c52
      refine lv_tableIn (tgt := 280) hx hb dX11_account_3 (fun h => c1 (Or.inl h)) (fun h => c1 (Or.inr h)) (by rw [c52]; rfl) (by decide) ?_
      refine lv_aload_n hx hb dX11_account_280 rfl (lv_at hl 1 rfl) ?_
      refine gt_11_0 X.1 hG hL mw1119 dX11_account_281 ?_
      refine lv_iconst (v := (5 : Int32)) hx hb dX11_account_284 (by decide) ?_
      refine g_ald X.1 hG (lf_11_0 hL) dX11_account_285 hM (fun q53 hM => ?_)
      exact e_iret X hG dX11_account_286 hM
    have hM := b_else hM c52
    by_cases c54 : p0.toInt = 13
    · have hM := b_if hM c54
      refine lv_tableIn (tgt := 287) hx hb dX11_account_3 (fun h => c1 (Or.inl h)) (fun h => c1 (Or.inr h)) (by rw [c54]; rfl) (by decide) ?_
      refine lv_aload_n hx hb dX11_account_287 rfl (lv_at hl 1 rfl) ?_
      refine gt_11_0 X.1 hG hL mw1119 dX11_account_288 ?_
      refine lv_bipush (v := (8 : Int32)) hx hb dX11_account_291 (by decide) ?_
      refine g_ald X.1 hG (lf_11_0 hL) dX11_account_293 hM (fun q55 hM => ?_)
      exact e_iret X hG dX11_account_294 hM
    have hM := b_else hM c54
    by_cases c56 : p0.toInt = 14
    · have hM := b_if hM c56
      refine lv_tableIn (tgt := 295) hx hb dX11_account_3 (fun h => c1 (Or.inl h)) (fun h => c1 (Or.inr h)) (by rw [c56]; rfl) (by decide) ?_
      refine lv_aload_n hx hb dX11_account_295 rfl (lv_at hl 1 rfl) ?_
      refine gt_11_0 X.1 hG hL mw1119 dX11_account_296 ?_
      refine lv_bipush (v := (9 : Int32)) hx hb dX11_account_299 (by decide) ?_
      refine g_ald X.1 hG (lf_11_0 hL) dX11_account_301 hM (fun q57 hM => ?_)
      exact e_iret X hG dX11_account_302 hM
    have hM := b_else hM c56
    by_cases c58 : p0.toInt = 15
    · have hM := b_if hM c58
      refine lv_tableIn (tgt := 303) hx hb dX11_account_3 (fun h => c1 (Or.inl h)) (fun h => c1 (Or.inr h)) (by rw [c58]; rfl) (by decide) ?_
      refine lv_aload_n hx hb dX11_account_303 rfl (lv_at hl 1 rfl) ?_
      refine gt_11_0 X.1 hG hL mw1119 dX11_account_304 ?_
      refine lv_bipush (v := (10 : Int32)) hx hb dX11_account_307 (by decide) ?_
      refine g_ald X.1 hG (lf_11_0 hL) dX11_account_309 hM (fun q59 hM => ?_)
      exact e_iret X hG dX11_account_310 hM
    have hM := b_else hM c58
    by_cases c60 : p0.toInt = 16
    · have hM := b_if hM c60
      refine lv_tableIn (tgt := 311) hx hb dX11_account_3 (fun h => c1 (Or.inl h)) (fun h => c1 (Or.inr h)) (by rw [c60]; rfl) (by decide) ?_
      refine lv_aload_n hx hb dX11_account_311 rfl (lv_at hl 1 rfl) ?_
      refine gt_11_0 X.1 hG hL mw1119 dX11_account_312 ?_
      refine lv_bipush (v := (11 : Int32)) hx hb dX11_account_315 (by decide) ?_
      refine g_ald X.1 hG (lf_11_0 hL) dX11_account_317 hM (fun q61 hM => ?_)
      exact e_iret X hG dX11_account_318 hM
    have hM := b_else hM c60
    by_cases c62 : p0.toInt = 17
    · have hM := b_if hM c62
      refine lv_tableIn (tgt := 319) hx hb dX11_account_3 (fun h => c1 (Or.inl h)) (fun h => c1 (Or.inr h)) (by rw [c62]; rfl) (by decide) ?_
      refine lv_aload_n hx hb dX11_account_319 rfl (lv_at hl 1 rfl) ?_
      refine gt_11_10 X.1 hG hL mw1129 dX11_account_320 ?_
      exact e_iret X hG dX11_account_323 hM
    have hM := b_else hM c62
    by_cases c63 : p0.toInt = 18
    · have hM := b_if hM c63
      refine lv_tableIn (tgt := 324) hx hb dX11_account_3 (fun h => c1 (Or.inl h)) (fun h => c1 (Or.inr h)) (by rw [c63]; rfl) (by decide) ?_
      refine lv_aload_n hx hb dX11_account_324 rfl (lv_at hl 1 rfl) ?_
      refine gt_11_4 X.1 hG hL mw1123 dX11_account_325 ?_
      exact e_iret X hG dX11_account_328 hM
    have hM := b_else hM c63
    cases hM
