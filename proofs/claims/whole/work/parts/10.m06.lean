def M_X11_strength (σ : St) (k : Nat) (p0 p1 : Int32) : Option (St × Int32) := bcall (M_X11_isStorey σ k p0) fun σ1 r2 => if r2 = 0 then some (σ1, (-1 : Int32)) else (bcall (M_X11_strong σ1 k p0) fun σ3 r4 => some (σ3, r4))
set_option maxRecDepth 20000 in
set_option maxHeartbeats 4000000 in
theorem C_X11_strength (l : Launch) (E : Ev) {σ σ' : St} {k : Nat} {p0 : Int32} {p1 : Int32} {r : Int32} (h : M_X11_strength σ k p0 p1 = some (σ', r)) (hL : lay 11 k) : Mi l E yX11_strength cX11_strength 3 (some .int) 3 [.ref (E.1 k), .int p0, .int p1] σ σ' r := by
  refine Mi_of (C := RX11) rfl (by decide) (Nat.le_of_ble_eq_true rfl) (z := (σ', r)) (fun p e s m below meth c ls X hG hl => ?_)
  have hx := X.1.1.1
  have hb := X.1.1.2.1
  have hM := h
  unfold M_X11_strength at hM
  generalize (σ', r) = z at hM ⊢
  have hl : lv_has ls 3 [(0, .ref (E.1 k)), (1, .int p0), (2, .int p1)] := hl
  refine lv_aload_n hx hb dX11_strength_0 rfl (lv_at hl 0 rfl) ?_
  refine lv_iload_n hx hb dX11_strength_1 rfl (lv_at hl 1 rfl) ?_
  refine g_callV_i (nA := 1) (o := M_X11_isStorey σ k p0) (As := [.int p0]) X.1 hG hL rfl rfl (fun _ _ h => C_X11_isStorey l E h hL) mw1238 mw1240 mw21 mw62 (gw_ok mw1241 rfl) (by decide +kernel) rfl ⟨Nat.le_of_ble_eq_true rfl, Nat.le_of_ble_eq_true rfl⟩ hl.1 rfl (Nat.le_of_ble_eq_true rfl) ⟨Nat.le_refl _, Nat.le_refl _⟩ dX11_strength_2 hM (fun σ1 r2 H locs hG hM => ?_)
  refine lv_if_eq (tgt := 16) hx hb dX11_strength_5 (by decide) (fun c5 => ?_) (fun c5 => ?_)
  · have hM := b_if hM c5
    refine lv_iconst (v := (-1 : Int32)) hx hb dX11_strength_16 (by decide) ?_
    exact e_iret X hG dX11_strength_17 hM
  · have hM := b_else hM c5
    refine lv_aload_n hx hb dX11_strength_8 rfl (lv_at hl 0 rfl) ?_
    refine lv_iload_n hx hb dX11_strength_9 rfl (lv_at hl 1 rfl) ?_
    refine g_callV_i (nA := 1) (o := M_X11_strong σ1 k p0) (As := [.int p0]) X.1 hG hL rfl rfl (fun _ _ h => C_X11_strong l E h hL) mw1339 mw1341 mw38 mw62 (gw_ok mw1342 rfl) (by decide +kernel) rfl ⟨Nat.le_of_ble_eq_true rfl, Nat.le_of_ble_eq_true rfl⟩ hl.1 rfl (Nat.le_of_ble_eq_true rfl) ⟨Nat.le_refl _, Nat.le_refl _⟩ dX11_strength_10 hM (fun σ3 r4 H locs hG hM => ?_)
    refine lv_goto (tgt := 17) hx hb dX11_strength_13 (by decide) ?_
    exact e_iret X hG dX11_strength_17 hM
def B_X11_weakest_5  : Nat → St → Nat → Int32 → Int32 → Option (St × Int32)
  | 0, _, _, _, _ => none
  | n + 1, σ, k, x1, x2 => bald σ (k + 1) (3 : Int32) fun q1 => if q1 ≤ x2 then some (σ, x1) else (if x1 < 0 then (blet (x2 + (1 : Int32)) fun v2 => B_X11_weakest_5 n σ k x2 v2) else (bcall (M_X11_strong σ k x2) fun σ3 r4 => bcall (M_X11_strong σ3 k x1) fun σ5 r6 => if r6 ≤ r4 then (blet (x2 + (1 : Int32)) fun v7 => B_X11_weakest_5 n σ5 k x1 v7) else (blet (x2 + (1 : Int32)) fun v8 => B_X11_weakest_5 n σ5 k x2 v8)))
def M_X11_weakest (σ : St) (k : Nat)  : Option (St × Int32) := B_X11_weakest_5 FU σ k (-4 : Int32) (0 : Int32)
set_option maxRecDepth 20000 in
set_option maxHeartbeats 4000000 in
theorem w_X11_weakest_5 {p : Program} {l : Launch} {e : Env} {s : State} {m : MethodId} {below : List Frame} {meth : Method} {c : Code} {args : Array Value} {E : Ev} {k : Nat} (X : Bx E p m meth c cX11_weakest 3 (some .int) s args RX11) (hL : lay 11 k) : ∀ (n : Nat) (σ : St) (x1 x2 : Int32) (H : Heap) (locs : List Loc) (ls : Array Slot) (z : St × Int32), GS E σ s.heap H locs → lv_has ls 3 [(0, .ref (E.1 k)), (1, .int x1), (2, .int x2)] → B_X11_weakest_5 n σ k x1 x2 = some z → W p l e (rmd 3) s m args below meth c H locs 0 0 (QI E z below args s) (F0 m 5 ls []) := by
  have hx := X.1.1.1
  have hb := X.1.1.2.1
  intro n
  induction n with
  | zero => intro σ x1 x2 H locs ls z  hG hl hM; cases hM
  | succ n ih =>
    intro σ x1 x2 H locs ls z  hG hl hM
    unfold B_X11_weakest_5 at hM
    refine lv_iload_n hx hb dX11_weakest_5 rfl (lv_at hl 2 rfl) ?_
    refine lv_aload_n hx hb dX11_weakest_6 rfl (lv_at hl 0 rfl) ?_
    refine gt_11_0 X.1 hG hL mw1119 dX11_weakest_7 ?_
    refine lv_iconst (v := (3 : Int32)) hx hb dX11_weakest_10 (by decide) ?_
    refine g_ald X.1 hG (lf_11_0 hL) dX11_weakest_11 hM (fun q1 hM => ?_)
    refine lv_icmp_ge (tgt := 40) hx hb dX11_weakest_12 (by decide) (fun c11 => ?_) (fun c11 => ?_)
    · have hM := b_if hM c11
      refine lv_iload_n hx hb dX11_weakest_40 rfl (lv_at hl 1 rfl) ?_
      exact e_iret X hG dX11_weakest_41 hM
    · have hM := b_else hM c11
      refine lv_iload_n hx hb dX11_weakest_15 rfl (lv_at hl 1 rfl) ?_
      refine lv_if_lt (tgt := 32) hx hb dX11_weakest_16 (by decide) (fun c10 => ?_) (fun c10 => ?_)
      · have hM := b_if hM c10
        refine lv_iload_n hx hb dX11_weakest_32 rfl (lv_at hl 2 rfl) ?_
        refine lv_istore_n (lv' := [(1, .int x2), (0, .ref (E.1 k)), (2, .int x2)]) hx hb dX11_weakest_33 rfl hl (by decide) rfl (fun ls hl => ?_)
        obtain ⟨v2, ev2, hM⟩ := g_nm hM
        refine lv_iinc (v := v2) (lv' := [(2, .int v2), (1, .int x2), (0, .ref (E.1 k))]) hx hb dX11_weakest_34 hl (k := 2) rfl (by rw [ev2]; rfl) (by decide) rfl (fun ls hl => ?_)
        refine lv_goto (tgt := 5) hx hb dX11_weakest_37 (by decide) ?_
        exact ih σ x2 v2 _ _ _ z hG (lv_sub hl [2, 1, 0] rfl) hM
      · have hM := b_else hM c10
        refine lv_aload_n hx hb dX11_weakest_19 rfl (lv_at hl 0 rfl) ?_
        refine lv_iload_n hx hb dX11_weakest_20 rfl (lv_at hl 2 rfl) ?_
        refine g_callV_i (nA := 1) (o := M_X11_strong σ k x2) (As := [.int x2]) X.1 hG hL rfl rfl (fun _ _ h => C_X11_strong l E h hL) mw1339 mw1341 mw38 mw62 (gw_ok mw1342 rfl) (by decide +kernel) rfl ⟨Nat.le_of_ble_eq_true rfl, Nat.le_of_ble_eq_true rfl⟩ hl.1 rfl (Nat.le_of_ble_eq_true rfl) ⟨Nat.le_refl _, Nat.le_refl _⟩ dX11_weakest_21 hM (fun σ3 r4 H locs hG hM => ?_)
        refine lv_aload_n hx hb dX11_weakest_24 rfl (lv_at hl 0 rfl) ?_
        refine lv_iload_n hx hb dX11_weakest_25 rfl (lv_at hl 1 rfl) ?_
        refine g_callV_i (nA := 1) (o := M_X11_strong σ3 k x1) (As := [.int x1]) X.1 hG hL rfl rfl (fun _ _ h => C_X11_strong l E h hL) mw1339 mw1341 mw38 mw62 (gw_ok mw1342 rfl) (by decide +kernel) rfl ⟨Nat.le_of_ble_eq_true rfl, Nat.le_of_ble_eq_true rfl⟩ hl.1 rfl (Nat.le_of_ble_eq_true rfl) ⟨Nat.le_refl _, Nat.le_refl _⟩ dX11_weakest_26 hM (fun σ5 r6 H locs hG hM => ?_)
        refine lv_icmp_ge (tgt := 34) hx hb dX11_weakest_29 (by decide) (fun c9 => ?_) (fun c9 => ?_)
        · have hM := b_if hM c9
          obtain ⟨v7, ev7, hM⟩ := g_nm hM
          refine lv_iinc (v := v7) (lv' := [(2, .int v7), (0, .ref (E.1 k)), (1, .int x1)]) hx hb dX11_weakest_34 hl (k := 2) rfl (by rw [ev7]; rfl) (by decide) rfl (fun ls hl => ?_)
          refine lv_goto (tgt := 5) hx hb dX11_weakest_37 (by decide) ?_
          exact ih σ5 x1 v7 _ _ _ z hG (lv_sub hl [1, 2, 0] rfl) hM
        · have hM := b_else hM c9
          refine lv_iload_n hx hb dX11_weakest_32 rfl (lv_at hl 2 rfl) ?_
          refine lv_istore_n (lv' := [(1, .int x2), (0, .ref (E.1 k)), (2, .int x2)]) hx hb dX11_weakest_33 rfl hl (by decide) rfl (fun ls hl => ?_)
          obtain ⟨v8, ev8, hM⟩ := g_nm hM
          refine lv_iinc (v := v8) (lv' := [(2, .int v8), (1, .int x2), (0, .ref (E.1 k))]) hx hb dX11_weakest_34 hl (k := 2) rfl (by rw [ev8]; rfl) (by decide) rfl (fun ls hl => ?_)
          refine lv_goto (tgt := 5) hx hb dX11_weakest_37 (by decide) ?_
          exact ih σ5 x2 v8 _ _ _ z hG (lv_sub hl [2, 1, 0] rfl) hM
set_option maxRecDepth 20000 in
set_option maxHeartbeats 4000000 in
theorem C_X11_weakest (l : Launch) (E : Ev) {σ σ' : St} {k : Nat} {r : Int32} (h : M_X11_weakest σ k = some (σ', r)) (hL : lay 11 k) : Mi l E yX11_weakest cX11_weakest 3 (some .int) 3 [.ref (E.1 k)] σ σ' r := by
  refine Mi_of (C := RX11) rfl (by decide) (Nat.le_of_ble_eq_true rfl) (z := (σ', r)) (fun p e s m below meth c ls X hG hl => ?_)
  have hx := X.1.1.1
  have hb := X.1.1.2.1
  have hM := h
  unfold M_X11_weakest at hM
  generalize (σ', r) = z at hM ⊢
  have hl : lv_has ls 3 [(0, .ref (E.1 k))] := hl
  refine lv_bipush (v := (-4 : Int32)) hx hb dX11_weakest_0 (by decide) ?_
  refine lv_istore_n (lv' := [(1, .int (-4 : Int32)), (0, .ref (E.1 k))]) hx hb dX11_weakest_2 rfl hl (by decide) rfl (fun ls hl => ?_)
  refine lv_iconst (v := (0 : Int32)) hx hb dX11_weakest_3 (by decide) ?_
  refine lv_istore_n (lv' := [(2, .int (0 : Int32)), (1, .int (-4 : Int32)), (0, .ref (E.1 k))]) hx hb dX11_weakest_4 rfl hl (by decide) rfl (fun ls hl => ?_)
  exact w_X11_weakest_5 X hL FU σ (-4 : Int32) (0 : Int32) _ _ _ z hG (lv_sub hl [2, 1, 0] rfl) hM
def B_X11_oldest_17 (K2 : St → Int32 → Int32 → Option (St × Int32)) : Nat → St → Nat → Int32 → Int32 → Int32 → Int32 → Option (St × Int32)
  | 0, _, _, _, _, _, _ => none
  | n + 1, σ, k, x1, x2, x3, x4 => bald σ (k + 1) (3 : Int32) fun q2 => if q2 ≤ x4 then (if x3 = x1 then some (σ, x2) else (blet (x2 + (1 : Int32)) fun v3 => K2 σ x1 v3)) else (bcall (M_X11_of σ k x4 (2 : Int32)) fun σ5 r6 => bcall (M_X11_of σ5 k x2 (2 : Int32)) fun σ7 r8 => if r8 < r6 then (blet (x3 + (1 : Int32)) fun v9 => blet (x4 + (1 : Int32)) fun v10 => B_X11_oldest_17 K2 n σ7 k x1 x2 v9 v10) else (if x4 ≤ x2 then (blet (x4 + (1 : Int32)) fun v11 => B_X11_oldest_17 K2 n σ7 k x1 x2 x3 v11) else (bcall (M_X11_of σ7 k x4 (2 : Int32)) fun σ12 r13 => bcall (M_X11_of σ12 k x2 (2 : Int32)) fun σ14 r15 => if r13 = r15 then (blet (x3 + (1 : Int32)) fun v17 => blet (x4 + (1 : Int32)) fun v18 => B_X11_oldest_17 K2 n σ14 k x1 x2 v17 v18) else (blet (x4 + (1 : Int32)) fun v16 => B_X11_oldest_17 K2 n σ14 k x1 x2 x3 v16))))
def B_X11_oldest_2  : Nat → St → Nat → Int32 → Int32 → Option (St × Int32)
  | 0, _, _, _, _ => none
  | n + 1, σ, k, x1, x2 => bald σ (k + 1) (3 : Int32) fun q1 => if q1 ≤ x2 then some (σ, (-1 : Int32)) else (B_X11_oldest_17 (fun σ9 y0 y1 => B_X11_oldest_2 n σ9 k y0 y1) FU σ k x1 x2 (0 : Int32) (0 : Int32))
def M_X11_oldest (σ : St) (k : Nat) (p0 : Int32) : Option (St × Int32) := B_X11_oldest_2 FU σ k p0 (0 : Int32)
set_option maxRecDepth 20000 in
set_option maxHeartbeats 4000000 in
theorem w_X11_oldest_17 {p : Program} {l : Launch} {e : Env} {s : State} {m : MethodId} {below : List Frame} {meth : Method} {c : Code} {args : Array Value} {E : Ev} {k : Nat} (X : Bx E p m meth c cX11_oldest 5 (some .int) s args RX11) (hL : lay 11 k) (K2 : St → Int32 → Int32 → Option (St × Int32)) : ∀ (n : Nat) (σ : St) (x1 x2 x3 x4 : Int32) (H : Heap) (locs : List Loc) (ls : Array Slot) (z : St × Int32) (hK2 : ∀ (σ : St) (x1 x2 : Int32) (H : Heap) (locs : List Loc) (ls : Array Slot), GS E σ s.heap H locs → lv_has ls 5 [(0, .ref (E.1 k)), (1, .int x1), (2, .int x2)] → K2 σ x1 x2 = some z → W p l e (rmd 2) s m args below meth c H locs 0 0 (QI E z below args s) (F0 m 2 ls [])), GS E σ s.heap H locs → lv_has ls 5 [(0, .ref (E.1 k)), (1, .int x1), (2, .int x2), (3, .int x3), (4, .int x4)] → B_X11_oldest_17 K2 n σ k x1 x2 x3 x4 = some z → W p l e (rmd 2) s m args below meth c H locs 0 0 (QI E z below args s) (F0 m 17 ls []) := by
  have hx := X.1.1.1
  have hb := X.1.1.2.1
  intro n
  induction n with
  | zero => intro σ x1 x2 x3 x4 H locs ls z hK2 hG hl hM; cases hM
  | succ n ih0 =>
    intro σ x1 x2 x3 x4 H locs ls z hK2 hG hl hM
    unfold B_X11_oldest_17 at hM
    refine lv_iload hx hb dX11_oldest_17 (lv_at hl 4 rfl) ?_
    refine lv_aload_n hx hb dX11_oldest_19 rfl (lv_at hl 0 rfl) ?_
    refine gt_11_0 X.1 hG hL mw1119 dX11_oldest_20 ?_
    refine lv_iconst (v := (3 : Int32)) hx hb dX11_oldest_23 (by decide) ?_
    refine g_ald X.1 hG (lf_11_0 hL) dX11_oldest_24 hM (fun q2 hM => ?_)
    refine lv_icmp_ge (tgt := 75) hx hb dX11_oldest_25 (by decide) (fun c22 => ?_) (fun c22 => ?_)
    · have hM := b_if hM c22
      refine lv_iload_n hx hb dX11_oldest_75 rfl (lv_at hl 3 rfl) ?_
      refine lv_iload_n hx hb dX11_oldest_76 rfl (lv_at hl 1 rfl) ?_
      refine lv_icmp_ne (tgt := 82) hx hb dX11_oldest_77 (by decide) (fun c4 => ?_) (fun c4 => ?_)
      · have hM := b_else hM c4
        obtain ⟨v3, ev3, hM⟩ := g_nm hM
        refine lv_iinc (v := v3) (lv' := [(2, .int v3), (0, .ref (E.1 k)), (1, .int x1), (3, .int x3), (4, .int x4)]) hx hb dX11_oldest_82 hl (k := 2) rfl (by rw [ev3]; rfl) (by decide) rfl (fun ls hl => ?_)
        refine lv_goto (tgt := 2) hx hb dX11_oldest_85 (by decide) ?_
        exact hK2 σ x1 v3 _ _ _ hG (lv_sub hl [1, 2, 0] rfl) hM
      · have hM := b_if hM c4
        refine lv_iload_n hx hb dX11_oldest_80 rfl (lv_at hl 2 rfl) ?_
        exact e_iret X hG dX11_oldest_81 hM
    · have hM := b_else hM c22
      refine lv_aload_n hx hb dX11_oldest_28 rfl (lv_at hl 0 rfl) ?_
      refine lv_iload hx hb dX11_oldest_29 (lv_at hl 4 rfl) ?_
      refine lv_iconst (v := (2 : Int32)) hx hb dX11_oldest_31 (by decide) ?_
      refine g_callV_i (nA := 2) (o := M_X11_of σ k x4 (2 : Int32)) (As := [.int x4, .int (2 : Int32)]) X.1 hG hL rfl rfl (fun _ _ h => C_X11_of l E h hL) mw1242 mw1244 mw22 mw62 (gw_ok mw1245 rfl) (by decide +kernel) rfl ⟨Nat.le_of_ble_eq_true rfl, Nat.le_of_ble_eq_true rfl⟩ hl.1 rfl (Nat.le_of_ble_eq_true rfl) ⟨Nat.le_refl _, Nat.le_refl _⟩ dX11_oldest_32 hM (fun σ5 r6 H locs hG hM => ?_)
      refine lv_aload_n hx hb dX11_oldest_35 rfl (lv_at hl 0 rfl) ?_
      refine lv_iload_n hx hb dX11_oldest_36 rfl (lv_at hl 2 rfl) ?_
      refine lv_iconst (v := (2 : Int32)) hx hb dX11_oldest_37 (by decide) ?_
      refine g_callV_i (nA := 2) (o := M_X11_of σ5 k x2 (2 : Int32)) (As := [.int x2, .int (2 : Int32)]) X.1 hG hL rfl rfl (fun _ _ h => C_X11_of l E h hL) mw1242 mw1244 mw22 mw62 (gw_ok mw1245 rfl) (by decide +kernel) rfl ⟨Nat.le_of_ble_eq_true rfl, Nat.le_of_ble_eq_true rfl⟩ hl.1 rfl (Nat.le_of_ble_eq_true rfl) ⟨Nat.le_refl _, Nat.le_refl _⟩ dX11_oldest_38 hM (fun σ7 r8 H locs hG hM => ?_)
      refine lv_icmp_gt (tgt := 66) hx hb dX11_oldest_41 (by decide) (fun c21 => ?_) (fun c21 => ?_)
      · have hM := b_if hM c21
        obtain ⟨v9, ev9, hM⟩ := g_nm hM
        refine lv_iinc (v := v9) (lv' := [(3, .int v9), (0, .ref (E.1 k)), (1, .int x1), (2, .int x2), (4, .int x4)]) hx hb dX11_oldest_66 hl (k := 3) rfl (by rw [ev9]; rfl) (by decide) rfl (fun ls hl => ?_)
        obtain ⟨v10, ev10, hM⟩ := g_nm hM
        refine lv_iinc (v := v10) (lv' := [(4, .int v10), (3, .int v9), (0, .ref (E.1 k)), (1, .int x1), (2, .int x2)]) hx hb dX11_oldest_69 hl (k := 4) rfl (by rw [ev10]; rfl) (by decide) rfl (fun ls hl => ?_)
        refine lv_goto (tgt := 17) hx hb dX11_oldest_72 (by decide) ?_
        exact ih0 σ7 x1 x2 v9 v10 _ _ _ z hK2 hG (lv_sub hl [2, 3, 4, 1, 0] rfl) hM
      · have hM := b_else hM c21
        refine lv_iload hx hb dX11_oldest_44 (lv_at hl 4 rfl) ?_
        refine lv_iload_n hx hb dX11_oldest_46 rfl (lv_at hl 2 rfl) ?_
        refine lv_icmp_le (tgt := 69) hx hb dX11_oldest_47 (by decide) (fun c20 => ?_) (fun c20 => ?_)
        · have hM := b_if hM c20
          obtain ⟨v11, ev11, hM⟩ := g_nm hM
          refine lv_iinc (v := v11) (lv' := [(4, .int v11), (0, .ref (E.1 k)), (1, .int x1), (2, .int x2), (3, .int x3)]) hx hb dX11_oldest_69 hl (k := 4) rfl (by rw [ev11]; rfl) (by decide) rfl (fun ls hl => ?_)
          refine lv_goto (tgt := 17) hx hb dX11_oldest_72 (by decide) ?_
          exact ih0 σ7 x1 x2 x3 v11 _ _ _ z hK2 hG (lv_sub hl [1, 2, 3, 4, 0] rfl) hM
        · have hM := b_else hM c20
          refine lv_aload_n hx hb dX11_oldest_50 rfl (lv_at hl 0 rfl) ?_
          refine lv_iload hx hb dX11_oldest_51 (lv_at hl 4 rfl) ?_
          refine lv_iconst (v := (2 : Int32)) hx hb dX11_oldest_53 (by decide) ?_
          refine g_callV_i (nA := 2) (o := M_X11_of σ7 k x4 (2 : Int32)) (As := [.int x4, .int (2 : Int32)]) X.1 hG hL rfl rfl (fun _ _ h => C_X11_of l E h hL) mw1242 mw1244 mw22 mw62 (gw_ok mw1245 rfl) (by decide +kernel) rfl ⟨Nat.le_of_ble_eq_true rfl, Nat.le_of_ble_eq_true rfl⟩ hl.1 rfl (Nat.le_of_ble_eq_true rfl) ⟨Nat.le_refl _, Nat.le_refl _⟩ dX11_oldest_54 hM (fun σ12 r13 H locs hG hM => ?_)
          refine lv_aload_n hx hb dX11_oldest_57 rfl (lv_at hl 0 rfl) ?_
          refine lv_iload_n hx hb dX11_oldest_58 rfl (lv_at hl 2 rfl) ?_
          refine lv_iconst (v := (2 : Int32)) hx hb dX11_oldest_59 (by decide) ?_
          refine g_callV_i (nA := 2) (o := M_X11_of σ12 k x2 (2 : Int32)) (As := [.int x2, .int (2 : Int32)]) X.1 hG hL rfl rfl (fun _ _ h => C_X11_of l E h hL) mw1242 mw1244 mw22 mw62 (gw_ok mw1245 rfl) (by decide +kernel) rfl ⟨Nat.le_of_ble_eq_true rfl, Nat.le_of_ble_eq_true rfl⟩ hl.1 rfl (Nat.le_of_ble_eq_true rfl) ⟨Nat.le_refl _, Nat.le_refl _⟩ dX11_oldest_60 hM (fun σ14 r15 H locs hG hM => ?_)
          refine lv_icmp_ne (tgt := 69) hx hb dX11_oldest_63 (by decide) (fun c19 => ?_) (fun c19 => ?_)
          · have hM := b_else hM c19
            obtain ⟨v16, ev16, hM⟩ := g_nm hM
            refine lv_iinc (v := v16) (lv' := [(4, .int v16), (0, .ref (E.1 k)), (1, .int x1), (2, .int x2), (3, .int x3)]) hx hb dX11_oldest_69 hl (k := 4) rfl (by rw [ev16]; rfl) (by decide) rfl (fun ls hl => ?_)
            refine lv_goto (tgt := 17) hx hb dX11_oldest_72 (by decide) ?_
            exact ih0 σ14 x1 x2 x3 v16 _ _ _ z hK2 hG (lv_sub hl [1, 2, 3, 4, 0] rfl) hM
          · have hM := b_if hM c19
            obtain ⟨v17, ev17, hM⟩ := g_nm hM
            refine lv_iinc (v := v17) (lv' := [(3, .int v17), (0, .ref (E.1 k)), (1, .int x1), (2, .int x2), (4, .int x4)]) hx hb dX11_oldest_66 hl (k := 3) rfl (by rw [ev17]; rfl) (by decide) rfl (fun ls hl => ?_)
            obtain ⟨v18, ev18, hM⟩ := g_nm hM
            refine lv_iinc (v := v18) (lv' := [(4, .int v18), (3, .int v17), (0, .ref (E.1 k)), (1, .int x1), (2, .int x2)]) hx hb dX11_oldest_69 hl (k := 4) rfl (by rw [ev18]; rfl) (by decide) rfl (fun ls hl => ?_)
            refine lv_goto (tgt := 17) hx hb dX11_oldest_72 (by decide) ?_
            exact ih0 σ14 x1 x2 v17 v18 _ _ _ z hK2 hG (lv_sub hl [2, 3, 4, 1, 0] rfl) hM
set_option maxRecDepth 20000 in
set_option maxHeartbeats 4000000 in
theorem w_X11_oldest_2 {p : Program} {l : Launch} {e : Env} {s : State} {m : MethodId} {below : List Frame} {meth : Method} {c : Code} {args : Array Value} {E : Ev} {k : Nat} (X : Bx E p m meth c cX11_oldest 5 (some .int) s args RX11) (hL : lay 11 k) : ∀ (n : Nat) (σ : St) (x1 x2 : Int32) (H : Heap) (locs : List Loc) (ls : Array Slot) (z : St × Int32), GS E σ s.heap H locs → lv_has ls 5 [(0, .ref (E.1 k)), (1, .int x1), (2, .int x2)] → B_X11_oldest_2 n σ k x1 x2 = some z → W p l e (rmd 2) s m args below meth c H locs 0 0 (QI E z below args s) (F0 m 2 ls []) := by
  have hx := X.1.1.1
  have hb := X.1.1.2.1
  intro n
  induction n with
  | zero => intro σ x1 x2 H locs ls z  hG hl hM; cases hM
  | succ n ih =>
    intro σ x1 x2 H locs ls z  hG hl hM
    unfold B_X11_oldest_2 at hM
    refine lv_iload_n hx hb dX11_oldest_2 rfl (lv_at hl 2 rfl) ?_
    refine lv_aload_n hx hb dX11_oldest_3 rfl (lv_at hl 0 rfl) ?_
    refine gt_11_0 X.1 hG hL mw1119 dX11_oldest_4 ?_
    refine lv_iconst (v := (3 : Int32)) hx hb dX11_oldest_7 (by decide) ?_
    refine g_ald X.1 hG (lf_11_0 hL) dX11_oldest_8 hM (fun q1 hM => ?_)
    refine lv_icmp_ge (tgt := 88) hx hb dX11_oldest_9 (by decide) (fun c23 => ?_) (fun c23 => ?_)
    · have hM := b_if hM c23
      refine lv_iconst (v := (-1 : Int32)) hx hb dX11_oldest_88 (by decide) ?_
      exact e_iret X hG dX11_oldest_89 hM
    · have hM := b_else hM c23
      refine lv_iconst (v := (0 : Int32)) hx hb dX11_oldest_12 (by decide) ?_
      refine lv_istore_n (lv' := [(3, .int (0 : Int32)), (0, .ref (E.1 k)), (1, .int x1), (2, .int x2)]) hx hb dX11_oldest_13 rfl hl (by decide) rfl (fun ls hl => ?_)
      refine lv_iconst (v := (0 : Int32)) hx hb dX11_oldest_14 (by decide) ?_
      refine lv_istore (lv' := [(4, .int (0 : Int32)), (3, .int (0 : Int32)), (0, .ref (E.1 k)), (1, .int x1), (2, .int x2)]) hx hb dX11_oldest_15 hl (by decide) rfl (fun ls hl => ?_)
      exact w_X11_oldest_17 X hL (fun σ9 y0 y1 => B_X11_oldest_2 n σ9 k y0 y1) FU σ x1 x2 (0 : Int32) (0 : Int32) _ _ _ z (fun σ9 y0 y1 H9 locs9 ls9 hG9 hl9 hM9 => ih σ9 y0 y1 H9 locs9 ls9 z hG9 hl9 hM9) hG (lv_sub hl [2, 3, 4, 1, 0] rfl) hM
set_option maxRecDepth 20000 in
set_option maxHeartbeats 4000000 in
theorem C_X11_oldest (l : Launch) (E : Ev) {σ σ' : St} {k : Nat} {p0 : Int32} {r : Int32} (h : M_X11_oldest σ k p0 = some (σ', r)) (hL : lay 11 k) : Mi l E yX11_oldest cX11_oldest 5 (some .int) 2 [.ref (E.1 k), .int p0] σ σ' r := by
  refine Mi_of (C := RX11) rfl (by decide) (Nat.le_of_ble_eq_true rfl) (z := (σ', r)) (fun p e s m below meth c ls X hG hl => ?_)
  have hx := X.1.1.1
  have hb := X.1.1.2.1
  have hM := h
  unfold M_X11_oldest at hM
  generalize (σ', r) = z at hM ⊢
  have hl : lv_has ls 5 [(0, .ref (E.1 k)), (1, .int p0)] := hl
  refine lv_iconst (v := (0 : Int32)) hx hb dX11_oldest_0 (by decide) ?_
  refine lv_istore_n (lv' := [(2, .int (0 : Int32)), (0, .ref (E.1 k)), (1, .int p0)]) hx hb dX11_oldest_1 rfl hl (by decide) rfl (fun ls hl => ?_)
  exact w_X11_oldest_2 X hL FU σ p0 (0 : Int32) _ _ _ z hG (lv_sub hl [1, 2, 0] rfl) hM
def B_X11_wouldWork_34  : Nat → St → Nat → Int32 → Int32 → Int32 → Int32 → Int32 → Option (St × Int32)
  | 0, _, _, _, _, _, _, _ => none
  | n + 1, σ, k, x1, x2, x3, x4, x5 => if x1 ≤ x5 then (if x3 ≤ 0 then some (σ, (0 : Int32)) else (if x4 ≤ 0 then some (σ, (0 : Int32)) else some (σ, (1 : Int32)))) else (bcall (M_X11_where σ k x5) fun σ11 r12 => if r12 = x2 then (if x3 ≤ 0 then (blet (x5 + (1 : Int32)) fun v14 => B_X11_wouldWork_34 n σ11 k x1 x2 x3 x4 v14) else (if x4 = 0 then (blet (x5 + (1 : Int32)) fun v19 => B_X11_wouldWork_34 n σ11 k x1 x2 x3 x4 v19) else (bald σ11 (k + 1) ((90 : Int32) + ((3 : Int32) * x5)) fun q15 => blet (x3 - q15) fun v16 => blet (x4 + (-1 : Int32)) fun v17 => blet (x5 + (1 : Int32)) fun v18 => B_X11_wouldWork_34 n σ11 k x1 x2 v16 v17 v18))) else (blet (x5 + (1 : Int32)) fun v13 => B_X11_wouldWork_34 n σ11 k x1 x2 x3 x4 v13))
def M_X11_wouldWork (σ : St) (k : Nat) (p0 : Int32) : Option (St × Int32) := bcall (M_X11_works σ k p0) fun σ1 r2 => if r2 = 0 then some (σ1, (0 : Int32)) else (bcall (M_X11_where σ1 k p0) fun σ3 r4 => bcall (M_X11_of σ3 k r4 (3 : Int32)) fun σ5 r6 => bcall (M_X11_of σ5 k r4 (4 : Int32)) fun σ7 r8 => B_X11_wouldWork_34 FU σ7 k p0 r4 r6 r8 (0 : Int32))
set_option maxRecDepth 20000 in
set_option maxHeartbeats 4000000 in
theorem w_X11_wouldWork_34 {p : Program} {l : Launch} {e : Env} {s : State} {m : MethodId} {below : List Frame} {meth : Method} {c : Code} {args : Array Value} {E : Ev} {k : Nat} (X : Bx E p m meth c cX11_wouldWork 6 (some .boolean) s args RX11) (hL : lay 11 k) : ∀ (n : Nat) (σ : St) (x1 x2 x3 x4 x5 : Int32) (H : Heap) (locs : List Loc) (ls : Array Slot) (z : St × Int32), GS E σ s.heap H locs → lv_has ls 6 [(0, .ref (E.1 k)), (1, .int x1), (2, .int x2), (3, .int x3), (4, .int x4), (5, .int x5)] → B_X11_wouldWork_34 n σ k x1 x2 x3 x4 x5 = some z → W p l e (rmd 4) s m args below meth c H locs 0 0 (QI E z below args s) (F0 m 34 ls []) := by
  have hx := X.1.1.1
  have hb := X.1.1.2.1
  intro n
  induction n with
  | zero => intro σ x1 x2 x3 x4 x5 H locs ls z  hG hl hM; cases hM
  | succ n ih =>
    intro σ x1 x2 x3 x4 x5 H locs ls z  hG hl hM
    unfold B_X11_wouldWork_34 at hM
    refine lv_iload hx hb dX11_wouldWork_34 (lv_at hl 5 rfl) ?_
    refine lv_iload_n hx hb dX11_wouldWork_36 rfl (lv_at hl 1 rfl) ?_
    refine lv_icmp_ge (tgt := 86) hx hb dX11_wouldWork_37 (by decide) (fun c23 => ?_) (fun c23 => ?_)
    · have hM := b_if hM c23
      refine lv_iload_n hx hb dX11_wouldWork_86 rfl (lv_at hl 3 rfl) ?_
      refine lv_if_le (tgt := 99) hx hb dX11_wouldWork_87 (by decide) (fun c10 => ?_) (fun c10 => ?_)
      · have hM := b_if hM c10
        refine lv_iconst (v := (0 : Int32)) hx hb dX11_wouldWork_99 (by decide) ?_
        exact e_zret X hG (by decide) dX11_wouldWork_100 hM
      · have hM := b_else hM c10
        refine lv_iload hx hb dX11_wouldWork_90 (lv_at hl 4 rfl) ?_
        refine lv_if_le (tgt := 99) hx hb dX11_wouldWork_92 (by decide) (fun c9 => ?_) (fun c9 => ?_)
        · have hM := b_if hM c9
          refine lv_iconst (v := (0 : Int32)) hx hb dX11_wouldWork_99 (by decide) ?_
          exact e_zret X hG (by decide) dX11_wouldWork_100 hM
        · have hM := b_else hM c9
          refine lv_iconst (v := (1 : Int32)) hx hb dX11_wouldWork_95 (by decide) ?_
          refine lv_goto (tgt := 100) hx hb dX11_wouldWork_96 (by decide) ?_
          exact e_zret X hG (by decide) dX11_wouldWork_100 hM
    · have hM := b_else hM c23
      refine lv_aload_n hx hb dX11_wouldWork_40 rfl (lv_at hl 0 rfl) ?_
      refine lv_iload hx hb dX11_wouldWork_41 (lv_at hl 5 rfl) ?_
      refine g_callV_i (nA := 1) (o := M_X11_where σ k x5) (As := [.int x5]) X.1 hG hL rfl rfl (fun _ _ h => C_X11_where l E h hL) mw1262 mw1264 mw25 mw62 (gw_ok mw1265 rfl) (by decide +kernel) rfl ⟨Nat.le_of_ble_eq_true rfl, Nat.le_of_ble_eq_true rfl⟩ hl.1 rfl (Nat.le_of_ble_eq_true rfl) ⟨Nat.le_refl _, Nat.le_refl _⟩ dX11_wouldWork_43 hM (fun σ11 r12 H locs hG hM => ?_)
      refine lv_iload_n hx hb dX11_wouldWork_46 rfl (lv_at hl 2 rfl) ?_
      refine lv_icmp_ne (tgt := 80) hx hb dX11_wouldWork_47 (by decide) (fun c22 => ?_) (fun c22 => ?_)
      · have hM := b_else hM c22
        obtain ⟨v13, ev13, hM⟩ := g_nm hM
        refine lv_iinc (v := v13) (lv' := [(5, .int v13), (0, .ref (E.1 k)), (1, .int x1), (2, .int x2), (3, .int x3), (4, .int x4)]) hx hb dX11_wouldWork_80 hl (k := 5) rfl (by rw [ev13]; rfl) (by decide) rfl (fun ls hl => ?_)
        refine lv_goto (tgt := 34) hx hb dX11_wouldWork_83 (by decide) ?_
        exact ih σ11 x1 x2 x3 x4 v13 _ _ _ z hG (lv_sub hl [1, 2, 3, 4, 5, 0] rfl) hM
      · have hM := b_if hM c22
        refine lv_iload_n hx hb dX11_wouldWork_50 rfl (lv_at hl 3 rfl) ?_
        refine lv_if_le (tgt := 80) hx hb dX11_wouldWork_51 (by decide) (fun c21 => ?_) (fun c21 => ?_)
        · have hM := b_if hM c21
          obtain ⟨v14, ev14, hM⟩ := g_nm hM
          refine lv_iinc (v := v14) (lv' := [(5, .int v14), (0, .ref (E.1 k)), (1, .int x1), (2, .int x2), (3, .int x3), (4, .int x4)]) hx hb dX11_wouldWork_80 hl (k := 5) rfl (by rw [ev14]; rfl) (by decide) rfl (fun ls hl => ?_)
          refine lv_goto (tgt := 34) hx hb dX11_wouldWork_83 (by decide) ?_
          exact ih σ11 x1 x2 x3 x4 v14 _ _ _ z hG (lv_sub hl [1, 2, 3, 4, 5, 0] rfl) hM
        · have hM := b_else hM c21
          refine lv_iload hx hb dX11_wouldWork_54 (lv_at hl 4 rfl) ?_
          refine lv_if_ne (tgt := 62) hx hb dX11_wouldWork_56 (by decide) (fun c20 => ?_) (fun c20 => ?_)
          · have hM := b_else hM c20
            refine lv_iload_n hx hb dX11_wouldWork_62 rfl (lv_at hl 3 rfl) ?_
            refine lv_aload_n hx hb dX11_wouldWork_63 rfl (lv_at hl 0 rfl) ?_
            refine gt_11_0 X.1 hG hL mw1119 dX11_wouldWork_64 ?_
            refine lv_bipush (v := (90 : Int32)) hx hb dX11_wouldWork_67 (by decide) ?_
            refine lv_iconst (v := (3 : Int32)) hx hb dX11_wouldWork_69 (by decide) ?_
            refine lv_iload hx hb dX11_wouldWork_70 (lv_at hl 5 rfl) ?_
            refine lv_imul hx hb dX11_wouldWork_72 ?_
            refine lv_iadd hx hb dX11_wouldWork_73 ?_
            refine g_ald X.1 hG (lf_11_0 hL) dX11_wouldWork_74 hM (fun q15 hM => ?_)
            refine lv_isub hx hb dX11_wouldWork_75 ?_
            refine g_name hM (fun v16 hM => ?_)
            refine lv_istore_n (lv' := [(3, .int v16), (0, .ref (E.1 k)), (1, .int x1), (2, .int x2), (4, .int x4), (5, .int x5)]) hx hb dX11_wouldWork_76 rfl hl (by decide) rfl (fun ls hl => ?_)
            obtain ⟨v17, ev17, hM⟩ := g_nm hM
            refine lv_iinc (v := v17) (lv' := [(4, .int v17), (3, .int v16), (0, .ref (E.1 k)), (1, .int x1), (2, .int x2), (5, .int x5)]) hx hb dX11_wouldWork_77 hl (k := 4) rfl (by rw [ev17]; rfl) (by decide) rfl (fun ls hl => ?_)
            obtain ⟨v18, ev18, hM⟩ := g_nm hM
            refine lv_iinc (v := v18) (lv' := [(5, .int v18), (4, .int v17), (3, .int v16), (0, .ref (E.1 k)), (1, .int x1), (2, .int x2)]) hx hb dX11_wouldWork_80 hl (k := 5) rfl (by rw [ev18]; rfl) (by decide) rfl (fun ls hl => ?_)
            refine lv_goto (tgt := 34) hx hb dX11_wouldWork_83 (by decide) ?_
            exact ih σ11 x1 x2 v16 v17 v18 _ _ _ z hG (lv_sub hl [3, 4, 5, 2, 1, 0] rfl) hM
          · have hM := b_if hM c20
            refine lv_goto (tgt := 80) hx hb dX11_wouldWork_59 (by decide) ?_
            obtain ⟨v19, ev19, hM⟩ := g_nm hM
            refine lv_iinc (v := v19) (lv' := [(5, .int v19), (0, .ref (E.1 k)), (1, .int x1), (2, .int x2), (3, .int x3), (4, .int x4)]) hx hb dX11_wouldWork_80 hl (k := 5) rfl (by rw [ev19]; rfl) (by decide) rfl (fun ls hl => ?_)
            refine lv_goto (tgt := 34) hx hb dX11_wouldWork_83 (by decide) ?_
            exact ih σ11 x1 x2 x3 x4 v19 _ _ _ z hG (lv_sub hl [1, 2, 3, 4, 5, 0] rfl) hM
set_option maxRecDepth 20000 in
set_option maxHeartbeats 4000000 in
theorem C_X11_wouldWork (l : Launch) (E : Ev) {σ σ' : St} {k : Nat} {p0 : Int32} {r : Int32} (h : M_X11_wouldWork σ k p0 = some (σ', r)) (hL : lay 11 k) : Mi l E yX11_wouldWork cX11_wouldWork 6 (some .boolean) 4 [.ref (E.1 k), .int p0] σ σ' r := by
  refine Mi_of (C := RX11) rfl (by decide) (Nat.le_of_ble_eq_true rfl) (z := (σ', r)) (fun p e s m below meth c ls X hG hl => ?_)
  have hx := X.1.1.1
  have hb := X.1.1.2.1
  have hM := h
  unfold M_X11_wouldWork at hM
  generalize (σ', r) = z at hM ⊢
  have hl : lv_has ls 6 [(0, .ref (E.1 k)), (1, .int p0)] := hl
  refine lv_aload_n hx hb dX11_wouldWork_0 rfl (lv_at hl 0 rfl) ?_
  refine lv_iload_n hx hb dX11_wouldWork_1 rfl (lv_at hl 1 rfl) ?_
  refine g_callV_i (nA := 1) (o := M_X11_works σ k p0) (As := [.int p0]) X.1 hG hL rfl rfl (fun _ _ h => C_X11_works l E h hL) mw1331 mw1333 mw36 mw62 (gw_ok mw1334 rfl) (by decide +kernel) rfl ⟨Nat.le_of_ble_eq_true rfl, Nat.le_of_ble_eq_true rfl⟩ hl.1 rfl (Nat.le_of_ble_eq_true rfl) ⟨Nat.le_refl _, Nat.le_refl _⟩ dX11_wouldWork_2 hM (fun σ1 r2 H locs hG hM => ?_)
  refine lv_if_ne (tgt := 10) hx hb dX11_wouldWork_5 (by decide) (fun c24 => ?_) (fun c24 => ?_)
  · have hM := b_else hM c24
    refine lv_aload_n hx hb dX11_wouldWork_10 rfl (lv_at hl 0 rfl) ?_
    refine lv_iload_n hx hb dX11_wouldWork_11 rfl (lv_at hl 1 rfl) ?_
    refine g_callV_i (nA := 1) (o := M_X11_where σ1 k p0) (As := [.int p0]) X.1 hG hL rfl rfl (fun _ _ h => C_X11_where l E h hL) mw1262 mw1264 mw25 mw62 (gw_ok mw1265 rfl) (by decide +kernel) rfl ⟨Nat.le_of_ble_eq_true rfl, Nat.le_of_ble_eq_true rfl⟩ hl.1 rfl (Nat.le_of_ble_eq_true rfl) ⟨Nat.le_refl _, Nat.le_refl _⟩ dX11_wouldWork_12 hM (fun σ3 r4 H locs hG hM => ?_)
    refine lv_istore_n (lv' := [(2, .int r4), (0, .ref (E.1 k)), (1, .int p0)]) hx hb dX11_wouldWork_15 rfl hl (by decide) rfl (fun ls hl => ?_)
    refine lv_aload_n hx hb dX11_wouldWork_16 rfl (lv_at hl 1 rfl) ?_
    refine lv_iload_n hx hb dX11_wouldWork_17 rfl (lv_at hl 0 rfl) ?_
    refine lv_iconst (v := (3 : Int32)) hx hb dX11_wouldWork_18 (by decide) ?_
    refine g_callV_i (nA := 2) (o := M_X11_of σ3 k r4 (3 : Int32)) (As := [.int r4, .int (3 : Int32)]) X.1 hG hL rfl rfl (fun _ _ h => C_X11_of l E h hL) mw1242 mw1244 mw22 mw62 (gw_ok mw1245 rfl) (by decide +kernel) rfl ⟨Nat.le_of_ble_eq_true rfl, Nat.le_of_ble_eq_true rfl⟩ hl.1 rfl (Nat.le_of_ble_eq_true rfl) ⟨Nat.le_refl _, Nat.le_refl _⟩ dX11_wouldWork_19 hM (fun σ5 r6 H locs hG hM => ?_)
    refine lv_istore_n (lv' := [(3, .int r6), (2, .int r4), (0, .ref (E.1 k)), (1, .int p0)]) hx hb dX11_wouldWork_22 rfl hl (by decide) rfl (fun ls hl => ?_)
    refine lv_aload_n hx hb dX11_wouldWork_23 rfl (lv_at hl 2 rfl) ?_
    refine lv_iload_n hx hb dX11_wouldWork_24 rfl (lv_at hl 1 rfl) ?_
    refine lv_iconst (v := (4 : Int32)) hx hb dX11_wouldWork_25 (by decide) ?_
    refine g_callV_i (nA := 2) (o := M_X11_of σ5 k r4 (4 : Int32)) (As := [.int r4, .int (4 : Int32)]) X.1 hG hL rfl rfl (fun _ _ h => C_X11_of l E h hL) mw1242 mw1244 mw22 mw62 (gw_ok mw1245 rfl) (by decide +kernel) rfl ⟨Nat.le_of_ble_eq_true rfl, Nat.le_of_ble_eq_true rfl⟩ hl.1 rfl (Nat.le_of_ble_eq_true rfl) ⟨Nat.le_refl _, Nat.le_refl _⟩ dX11_wouldWork_26 hM (fun σ7 r8 H locs hG hM => ?_)
    refine lv_istore (lv' := [(4, .int r8), (3, .int r6), (2, .int r4), (0, .ref (E.1 k)), (1, .int p0)]) hx hb dX11_wouldWork_29 hl (by decide) rfl (fun ls hl => ?_)
    refine lv_iconst (v := (0 : Int32)) hx hb dX11_wouldWork_31 (by decide) ?_
    refine lv_istore (lv' := [(5, .int (0 : Int32)), (4, .int r8), (3, .int r6), (2, .int r4), (0, .ref (E.1 k)), (1, .int p0)]) hx hb dX11_wouldWork_32 hl (by decide) rfl (fun ls hl => ?_)
    exact w_X11_wouldWork_34 X hL FU σ7 p0 r4 r6 r8 (0 : Int32) _ _ _ z hG (lv_sub hl [4, 5, 3, 2, 1, 0] rfl) hM
  · have hM := b_if hM c24
    refine lv_iconst (v := (0 : Int32)) hx hb dX11_wouldWork_8 (by decide) ?_
    exact e_zret X hG (by decide) dX11_wouldWork_9 hM
def B_X11_inspectorOf_55  : Nat → St → Nat → Int32 → Int32 → Int32 → Option (St × Int32)
  | 0, _, _, _, _, _ => none
  | n + 1, σ, k, x1, x3, x4 => bald σ (k + 1) (3 : Int32) fun q7 => if q7 ≤ x4 then some (σ, x3) else (bcall (M_X11_of σ k x4 (5 : Int32)) fun σ8 r9 => if r9 = (x1 + (1 : Int32)) then (blet (x3 + (1 : Int32)) fun v11 => blet (x4 + (1 : Int32)) fun v12 => B_X11_inspectorOf_55 n σ8 k x1 v11 v12) else (blet (x4 + (1 : Int32)) fun v10 => B_X11_inspectorOf_55 n σ8 k x1 x3 v10))
def M_X11_inspectorOf (σ : St) (k : Nat) (p0 p1 : Int32) : Option (St × Int32) := bcall (M_X11_isInspector σ k p0) fun σ1 r2 => if r2 = 0 then some (σ1, (-1 : Int32)) else (if p1.toInt < 0 ∨ 2 < p1.toInt then some (σ1, (-2 : Int32)) else if p1.toInt = 0 then (bald σ1 (k + 1) ((105 : Int32) + ((2 : Int32) * p0)) fun q5 => some (σ1, q5)) else if p1.toInt = 1 then (B_X11_inspectorOf_55 FU σ1 k p0 (0 : Int32) (0 : Int32)) else if p1.toInt = 2 then (bald σ1 (k + 1) (((105 : Int32) + ((2 : Int32) * p0)) + (1 : Int32)) fun q16 => some (σ1, q16)) else none)
set_option maxRecDepth 20000 in
set_option maxHeartbeats 4000000 in
theorem w_X11_inspectorOf_55 {p : Program} {l : Launch} {e : Env} {s : State} {m : MethodId} {below : List Frame} {meth : Method} {c : Code} {args : Array Value} {E : Ev} {k : Nat} (X : Bx E p m meth c cX11_inspectorOf 5 (some .int) s args RX11) (hL : lay 11 k) : ∀ (n : Nat) (σ : St) (x1 x3 x4 : Int32) (H : Heap) (locs : List Loc) (ls : Array Slot) (z : St × Int32), GS E σ s.heap H locs → lv_has ls 5 [(0, .ref (E.1 k)), (1, .int x1), (3, .int x3), (4, .int x4)] → B_X11_inspectorOf_55 n σ k x1 x3 x4 = some z → W p l e (rmd 3) s m args below meth c H locs 0 0 (QI E z below args s) (F0 m 55 ls []) := by
  have hx := X.1.1.1
  have hb := X.1.1.2.1
  intro n
  induction n with
  | zero => intro σ x1 x3 x4 H locs ls z  hG hl hM; cases hM
  | succ n ih =>
    intro σ x1 x3 x4 H locs ls z  hG hl hM
    unfold B_X11_inspectorOf_55 at hM
    refine lv_iload hx hb dX11_inspectorOf_55 (lv_at hl 3 rfl) ?_
    refine lv_aload_n hx hb dX11_inspectorOf_57 rfl (lv_at hl 0 rfl) ?_
    refine gt_11_0 X.1 hG hL mw1119 dX11_inspectorOf_58 ?_
    refine lv_iconst (v := (3 : Int32)) hx hb dX11_inspectorOf_61 (by decide) ?_
    refine g_ald X.1 hG (lf_11_0 hL) dX11_inspectorOf_62 hM (fun q7 hM => ?_)
    refine lv_icmp_ge (tgt := 88) hx hb dX11_inspectorOf_63 (by decide) (fun c14 => ?_) (fun c14 => ?_)
    · have hM := b_if hM c14
      refine lv_iload_n hx hb dX11_inspectorOf_88 rfl (lv_at hl 2 rfl) ?_
      exact e_iret X hG dX11_inspectorOf_89 hM
    · have hM := b_else hM c14
      refine lv_aload_n hx hb dX11_inspectorOf_66 rfl (lv_at hl 0 rfl) ?_
      refine lv_iload hx hb dX11_inspectorOf_67 (lv_at hl 3 rfl) ?_
      refine lv_iconst (v := (5 : Int32)) hx hb dX11_inspectorOf_69 (by decide) ?_
      refine g_callV_i (nA := 2) (o := M_X11_of σ k x4 (5 : Int32)) (As := [.int x4, .int (5 : Int32)]) X.1 hG hL rfl rfl (fun _ _ h => C_X11_of l E h hL) mw1242 mw1244 mw22 mw62 (gw_ok mw1245 rfl) (by decide +kernel) rfl ⟨Nat.le_of_ble_eq_true rfl, Nat.le_of_ble_eq_true rfl⟩ hl.1 rfl (Nat.le_of_ble_eq_true rfl) ⟨Nat.le_refl _, Nat.le_refl _⟩ dX11_inspectorOf_70 hM (fun σ8 r9 H locs hG hM => ?_)
      refine lv_iload_n hx hb dX11_inspectorOf_73 rfl (lv_at hl 1 rfl) ?_
      refine lv_iconst (v := (1 : Int32)) hx hb dX11_inspectorOf_74 (by decide) ?_
      refine lv_iadd hx hb dX11_inspectorOf_75 ?_
      refine lv_icmp_ne (tgt := 82) hx hb dX11_inspectorOf_76 (by decide) (fun c13 => ?_) (fun c13 => ?_)
      · have hM := b_else hM c13
        obtain ⟨v10, ev10, hM⟩ := g_nm hM
        refine lv_iinc (v := v10) (lv' := [(4, .int v10), (0, .ref (E.1 k)), (1, .int x1), (3, .int x3)]) hx hb dX11_inspectorOf_82 hl (k := 3) rfl (by rw [ev10]; rfl) (by decide) rfl (fun ls hl => ?_)
        refine lv_goto (tgt := 55) hx hb dX11_inspectorOf_85 (by decide) ?_
        exact ih σ8 x1 x3 v10 _ _ _ z hG (lv_sub hl [1, 2, 3, 0] rfl) hM
      · have hM := b_if hM c13
        obtain ⟨v11, ev11, hM⟩ := g_nm hM
        refine lv_iinc (v := v11) (lv' := [(3, .int v11), (0, .ref (E.1 k)), (1, .int x1), (4, .int x4)]) hx hb dX11_inspectorOf_79 hl (k := 2) rfl (by rw [ev11]; rfl) (by decide) rfl (fun ls hl => ?_)
        obtain ⟨v12, ev12, hM⟩ := g_nm hM
        refine lv_iinc (v := v12) (lv' := [(4, .int v12), (3, .int v11), (0, .ref (E.1 k)), (1, .int x1)]) hx hb dX11_inspectorOf_82 hl (k := 3) rfl (by rw [ev12]; rfl) (by decide) rfl (fun ls hl => ?_)
        refine lv_goto (tgt := 55) hx hb dX11_inspectorOf_85 (by decide) ?_
        exact ih σ8 x1 v11 v12 _ _ _ z hG (lv_sub hl [2, 3, 1, 0] rfl) hM
set_option maxRecDepth 20000 in
set_option maxHeartbeats 4000000 in
theorem C_X11_inspectorOf (l : Launch) (E : Ev) {σ σ' : St} {k : Nat} {p0 : Int32} {p1 : Int32} {r : Int32} (h : M_X11_inspectorOf σ k p0 p1 = some (σ', r)) (hL : lay 11 k) : Mi l E yX11_inspectorOf cX11_inspectorOf 5 (some .int) 3 [.ref (E.1 k), .int p0, .int p1] σ σ' r := by
  refine Mi_of (C := RX11) rfl (by decide) (Nat.le_of_ble_eq_true rfl) (z := (σ', r)) (fun p e s m below meth c ls X hG hl => ?_)
  have hx := X.1.1.1
  have hb := X.1.1.2.1
  have hM := h
  unfold M_X11_inspectorOf at hM
  generalize (σ', r) = z at hM ⊢
  have hl : lv_has ls 5 [(0, .ref (E.1 k)), (1, .int p0), (2, .int p1)] := hl
  refine lv_aload_n hx hb dX11_inspectorOf_0 rfl (lv_at hl 0 rfl) ?_
  refine lv_iload_n hx hb dX11_inspectorOf_1 rfl (lv_at hl 1 rfl) ?_
  refine g_callV_i (nA := 1) (o := M_X11_isInspector σ k p0) (As := [.int p0]) X.1 hG hL rfl rfl (fun _ _ h => C_X11_isInspector l E h hL) mw1315 mw1317 mw33 mw62 (gw_ok mw1318 rfl) (by decide +kernel) rfl ⟨Nat.le_of_ble_eq_true rfl, Nat.le_of_ble_eq_true rfl⟩ hl.1 rfl (Nat.le_of_ble_eq_true rfl) ⟨Nat.le_refl _, Nat.le_refl _⟩ dX11_inspectorOf_2 hM (fun σ1 r2 H locs hG hM => ?_)
  refine lv_if_ne (tgt := 10) hx hb dX11_inspectorOf_5 (by decide) (fun c17 => ?_) (fun c17 => ?_)
  · have hM := b_else hM c17
    refine lv_iconst (v := (0 : Int32)) hx hb dX11_inspectorOf_10 (by decide) ?_
    refine lv_istore_n (lv' := [(3, .int (0 : Int32)), (0, .ref (E.1 k)), (1, .int p0), (2, .int p1)]) hx hb dX11_inspectorOf_11 rfl hl (by decide) rfl (fun ls hl => ?_)
    refine lv_iload_n hx hb dX11_inspectorOf_12 rfl (lv_at hl 3 rfl) ?_
    by_cases c3 : p1.toInt < 0 ∨ 2 < p1.toInt
    · have hM := b_if hM c3
      refine lv_tableOut (tgt := 104) hx hb dX11_inspectorOf_13 c3 (by decide) ?_
      refine lv_bipush (v := (-2 : Int32)) hx hb dX11_inspectorOf_104 (by decide) ?_
      exact e_iret X hG dX11_inspectorOf_106 hM
    · have hM := b_else hM c3
      by_cases c4 : p1.toInt = 0
      · have hM := b_if hM c4
        refine lv_tableIn (tgt := 40) hx hb dX11_inspectorOf_13 (fun h => c3 (Or.inl h)) (fun h => c3 (Or.inr h)) (by rw [c4]; rfl) (by decide) ?_
        refine lv_aload_n hx hb dX11_inspectorOf_40 rfl (lv_at hl 1 rfl) ?_
        refine gt_11_0 X.1 hG hL mw1119 dX11_inspectorOf_41 ?_
        refine lv_bipush (v := (105 : Int32)) hx hb dX11_inspectorOf_44 (by decide) ?_
        refine lv_iconst (v := (2 : Int32)) hx hb dX11_inspectorOf_46 (by decide) ?_
        refine lv_iload_n hx hb dX11_inspectorOf_47 rfl (lv_at hl 2 rfl) ?_
        refine lv_imul hx hb dX11_inspectorOf_48 ?_
        refine lv_iadd hx hb dX11_inspectorOf_49 ?_
        refine g_ald X.1 hG (lf_11_0 hL) dX11_inspectorOf_50 hM (fun q5 hM => ?_)
        exact e_iret X hG dX11_inspectorOf_51 hM
      have hM := b_else hM c4
      by_cases c6 : p1.toInt = 1
      · have hM := b_if hM c6
        refine lv_tableIn (tgt := 52) hx hb dX11_inspectorOf_13 (fun h => c3 (Or.inl h)) (fun h => c3 (Or.inr h)) (by rw [c6]; rfl) (by decide) ?_
        refine lv_iconst (v := (0 : Int32)) hx hb dX11_inspectorOf_52 (by decide) ?_
        refine lv_istore (lv' := [(4, .int (0 : Int32)), (3, .int (0 : Int32)), (0, .ref (E.1 k)), (1, .int p0), (2, .int p1)]) hx hb dX11_inspectorOf_53 hl (by decide) rfl (fun ls hl => ?_)
        exact w_X11_inspectorOf_55 X hL FU σ1 p0 (0 : Int32) (0 : Int32) _ _ _ z hG (lv_sub hl [2, 3, 1, 0] rfl) hM
      have hM := b_else hM c6
      by_cases c15 : p1.toInt = 2
      · have hM := b_if hM c15
        refine lv_tableIn (tgt := 90) hx hb dX11_inspectorOf_13 (fun h => c3 (Or.inl h)) (fun h => c3 (Or.inr h)) (by rw [c15]; rfl) (by decide) ?_
        refine lv_aload_n hx hb dX11_inspectorOf_90 rfl (lv_at hl 1 rfl) ?_
        refine gt_11_0 X.1 hG hL mw1119 dX11_inspectorOf_91 ?_
        refine lv_bipush (v := (105 : Int32)) hx hb dX11_inspectorOf_94 (by decide) ?_
        refine lv_iconst (v := (2 : Int32)) hx hb dX11_inspectorOf_96 (by decide) ?_
        refine lv_iload_n hx hb dX11_inspectorOf_97 rfl (lv_at hl 2 rfl) ?_
        refine lv_imul hx hb dX11_inspectorOf_98 ?_
        refine lv_iadd hx hb dX11_inspectorOf_99 ?_
        refine lv_iconst (v := (1 : Int32)) hx hb dX11_inspectorOf_100 (by decide) ?_
        refine lv_iadd hx hb dX11_inspectorOf_101 ?_
        refine g_ald X.1 hG (lf_11_0 hL) dX11_inspectorOf_102 hM (fun q16 hM => ?_)
        exact e_iret X hG dX11_inspectorOf_103 hM
      have hM := b_else hM c15
      cases hM
  · have hM := b_if hM c17
    refine lv_iconst (v := (-1 : Int32)) hx hb dX11_inspectorOf_8 (by decide) ?_
    exact e_iret X hG dX11_inspectorOf_9 hM
def B_X11_highest_5  : Nat → St → Nat → Int32 → Int32 → Option (St × Int32)
  | 0, _, _, _, _ => none
  | n + 1, σ, k, x1, x2 => bald σ (k + 1) (3 : Int32) fun q1 => if q1 ≤ x2 then some (σ, x1) else (bald σ (k + 1) (1 : Int32) fun q2 => if (3 : Int32) ≤ q2 then some (σ, x1) else (bcall (M_X11_oldUpTo σ k x2) fun σ3 r4 => if 0 ≤ r4 then (blet (x2 + (1 : Int32)) fun v5 => B_X11_highest_5 n σ3 k x1 v5) else (bcall (M_X11_of σ3 k x2 (5 : Int32)) fun σ6 r7 => if r7 = 0 then (blet (x2 + (1 : Int32)) fun v9 => B_X11_highest_5 n σ6 k x2 v9) else (blet (x2 + (1 : Int32)) fun v8 => B_X11_highest_5 n σ6 k x1 v8))))
def M_X11_highest (σ : St) (k : Nat)  : Option (St × Int32) := B_X11_highest_5 FU σ k (-4 : Int32) (0 : Int32)
set_option maxRecDepth 20000 in
set_option maxHeartbeats 4000000 in
theorem w_X11_highest_5 {p : Program} {l : Launch} {e : Env} {s : State} {m : MethodId} {below : List Frame} {meth : Method} {c : Code} {args : Array Value} {E : Ev} {k : Nat} (X : Bx E p m meth c cX11_highest 3 (some .int) s args RX11) (hL : lay 11 k) : ∀ (n : Nat) (σ : St) (x1 x2 : Int32) (H : Heap) (locs : List Loc) (ls : Array Slot) (z : St × Int32), GS E σ s.heap H locs → lv_has ls 3 [(0, .ref (E.1 k)), (1, .int x1), (2, .int x2)] → B_X11_highest_5 n σ k x1 x2 = some z → W p l e (rmd 3) s m args below meth c H locs 0 0 (QI E z below args s) (F0 m 5 ls []) := by
  have hx := X.1.1.1
  have hb := X.1.1.2.1
  intro n
  induction n with
  | zero => intro σ x1 x2 H locs ls z  hG hl hM; cases hM
  | succ n ih =>
    intro σ x1 x2 H locs ls z  hG hl hM
    unfold B_X11_highest_5 at hM
    refine lv_iload_n hx hb dX11_highest_5 rfl (lv_at hl 2 rfl) ?_
    refine lv_aload_n hx hb dX11_highest_6 rfl (lv_at hl 0 rfl) ?_
    refine gt_11_0 X.1 hG hL mw1119 dX11_highest_7 ?_
    refine lv_iconst (v := (3 : Int32)) hx hb dX11_highest_10 (by decide) ?_
    refine g_ald X.1 hG (lf_11_0 hL) dX11_highest_11 hM (fun q1 hM => ?_)
    refine lv_icmp_ge (tgt := 50) hx hb dX11_highest_12 (by decide) (fun c13 => ?_) (fun c13 => ?_)
    · have hM := b_if hM c13
      refine lv_iload_n hx hb dX11_highest_50 rfl (lv_at hl 1 rfl) ?_
      exact e_iret X hG dX11_highest_51 hM
    · have hM := b_else hM c13
      refine lv_aload_n hx hb dX11_highest_15 rfl (lv_at hl 0 rfl) ?_
      refine gt_11_0 X.1 hG hL mw1119 dX11_highest_16 ?_
      refine lv_iconst (v := (1 : Int32)) hx hb dX11_highest_19 (by decide) ?_
      refine g_ald X.1 hG (lf_11_0 hL) dX11_highest_20 hM (fun q2 hM => ?_)
      refine lv_iconst (v := (3 : Int32)) hx hb dX11_highest_21 (by decide) ?_
      refine lv_icmp_ge (tgt := 50) hx hb dX11_highest_22 (by decide) (fun c12 => ?_) (fun c12 => ?_)
      · have hM := b_if hM c12
        refine lv_iload_n hx hb dX11_highest_50 rfl (lv_at hl 1 rfl) ?_
        exact e_iret X hG dX11_highest_51 hM
      · have hM := b_else hM c12
        refine lv_aload_n hx hb dX11_highest_25 rfl (lv_at hl 0 rfl) ?_
        refine lv_iload_n hx hb dX11_highest_26 rfl (lv_at hl 2 rfl) ?_
        refine g_callV_i (nA := 1) (o := M_X11_oldUpTo σ k x2) (As := [.int x2]) X.1 hG hL rfl rfl (fun _ _ h => C_X11_oldUpTo l E h hL) mw1266 mw1268 mw26 mw62 (gw_ok mw1269 rfl) (by decide +kernel) rfl ⟨Nat.le_of_ble_eq_true rfl, Nat.le_of_ble_eq_true rfl⟩ hl.1 rfl (Nat.le_of_ble_eq_true rfl) ⟨Nat.le_refl _, Nat.le_refl _⟩ dX11_highest_27 hM (fun σ3 r4 H locs hG hM => ?_)
        refine lv_if_ge (tgt := 44) hx hb dX11_highest_30 (by decide) (fun c11 => ?_) (fun c11 => ?_)
        · have hM := b_if hM c11
          obtain ⟨v5, ev5, hM⟩ := g_nm hM
          refine lv_iinc (v := v5) (lv' := [(2, .int v5), (0, .ref (E.1 k)), (1, .int x1)]) hx hb dX11_highest_44 hl (k := 2) rfl (by rw [ev5]; rfl) (by decide) rfl (fun ls hl => ?_)
          refine lv_goto (tgt := 5) hx hb dX11_highest_47 (by decide) ?_
          exact ih σ3 x1 v5 _ _ _ z hG (lv_sub hl [1, 2, 0] rfl) hM
        · have hM := b_else hM c11
          refine lv_aload_n hx hb dX11_highest_33 rfl (lv_at hl 0 rfl) ?_
          refine lv_iload_n hx hb dX11_highest_34 rfl (lv_at hl 2 rfl) ?_
          refine lv_iconst (v := (5 : Int32)) hx hb dX11_highest_35 (by decide) ?_
          refine g_callV_i (nA := 2) (o := M_X11_of σ3 k x2 (5 : Int32)) (As := [.int x2, .int (5 : Int32)]) X.1 hG hL rfl rfl (fun _ _ h => C_X11_of l E h hL) mw1242 mw1244 mw22 mw62 (gw_ok mw1245 rfl) (by decide +kernel) rfl ⟨Nat.le_of_ble_eq_true rfl, Nat.le_of_ble_eq_true rfl⟩ hl.1 rfl (Nat.le_of_ble_eq_true rfl) ⟨Nat.le_refl _, Nat.le_refl _⟩ dX11_highest_36 hM (fun σ6 r7 H locs hG hM => ?_)
          refine lv_if_ne (tgt := 44) hx hb dX11_highest_39 (by decide) (fun c10 => ?_) (fun c10 => ?_)
          · have hM := b_else hM c10
            obtain ⟨v8, ev8, hM⟩ := g_nm hM
            refine lv_iinc (v := v8) (lv' := [(2, .int v8), (0, .ref (E.1 k)), (1, .int x1)]) hx hb dX11_highest_44 hl (k := 2) rfl (by rw [ev8]; rfl) (by decide) rfl (fun ls hl => ?_)
            refine lv_goto (tgt := 5) hx hb dX11_highest_47 (by decide) ?_
            exact ih σ6 x1 v8 _ _ _ z hG (lv_sub hl [1, 2, 0] rfl) hM
          · have hM := b_if hM c10
            refine lv_iload_n hx hb dX11_highest_42 rfl (lv_at hl 2 rfl) ?_
            refine lv_istore_n (lv' := [(1, .int x2), (0, .ref (E.1 k)), (2, .int x2)]) hx hb dX11_highest_43 rfl hl (by decide) rfl (fun ls hl => ?_)
            obtain ⟨v9, ev9, hM⟩ := g_nm hM
            refine lv_iinc (v := v9) (lv' := [(2, .int v9), (1, .int x2), (0, .ref (E.1 k))]) hx hb dX11_highest_44 hl (k := 2) rfl (by rw [ev9]; rfl) (by decide) rfl (fun ls hl => ?_)
            refine lv_goto (tgt := 5) hx hb dX11_highest_47 (by decide) ?_
            exact ih σ6 x2 v9 _ _ _ z hG (lv_sub hl [2, 1, 0] rfl) hM
set_option maxRecDepth 20000 in
set_option maxHeartbeats 4000000 in
theorem C_X11_highest (l : Launch) (E : Ev) {σ σ' : St} {k : Nat} {r : Int32} (h : M_X11_highest σ k = some (σ', r)) (hL : lay 11 k) : Mi l E yX11_highest cX11_highest 3 (some .int) 3 [.ref (E.1 k)] σ σ' r := by
  refine Mi_of (C := RX11) rfl (by decide) (Nat.le_of_ble_eq_true rfl) (z := (σ', r)) (fun p e s m below meth c ls X hG hl => ?_)
  have hx := X.1.1.1
  have hb := X.1.1.2.1
  have hM := h
  unfold M_X11_highest at hM
  generalize (σ', r) = z at hM ⊢
  have hl : lv_has ls 3 [(0, .ref (E.1 k))] := hl
  refine lv_bipush (v := (-4 : Int32)) hx hb dX11_highest_0 (by decide) ?_
  refine lv_istore_n (lv' := [(1, .int (-4 : Int32)), (0, .ref (E.1 k))]) hx hb dX11_highest_2 rfl hl (by decide) rfl (fun ls hl => ?_)
  refine lv_iconst (v := (0 : Int32)) hx hb dX11_highest_3 (by decide) ?_
  refine lv_istore_n (lv' := [(2, .int (0 : Int32)), (1, .int (-4 : Int32)), (0, .ref (E.1 k))]) hx hb dX11_highest_4 rfl hl (by decide) rfl (fun ls hl => ?_)
  exact w_X11_highest_5 X hL FU σ (-4 : Int32) (0 : Int32) _ _ _ z hG (lv_sub hl [2, 1, 0] rfl) hM
def M_X11_wouldFall (σ : St) (k : Nat) (p0 : Int32) : Option (St × Int32) := bcall (M_X11_in σ p0 (8 : Int32) (10 : Int32)) fun σ1 r2 => if r2 = 0 then some (σ1, (-2 : Int32)) else (bcall (M_X11_fallsBy σ1 k p0) fun σ3 r4 => some (σ3, r4))
set_option maxRecDepth 20000 in
set_option maxHeartbeats 4000000 in
theorem C_X11_wouldFall (l : Launch) (E : Ev) {σ σ' : St} {k : Nat} {p0 : Int32} {r : Int32} (h : M_X11_wouldFall σ k p0 = some (σ', r)) (hL : lay 11 k) : Mi l E yX11_wouldFall cX11_wouldFall 2 (some .int) 4 [.ref (E.1 k), .int p0] σ σ' r := by
  refine Mi_of (C := RX11) rfl (by decide) (Nat.le_of_ble_eq_true rfl) (z := (σ', r)) (fun p e s m below meth c ls X hG hl => ?_)
  have hx := X.1.1.1
  have hb := X.1.1.2.1
  have hM := h
  unfold M_X11_wouldFall at hM
  generalize (σ', r) = z at hM ⊢
  have hl : lv_has ls 2 [(0, .ref (E.1 k)), (1, .int p0)] := hl
  refine lv_iload_n hx hb dX11_wouldFall_0 rfl (lv_at hl 1 rfl) ?_
  refine lv_bipush (v := (8 : Int32)) hx hb dX11_wouldFall_1 (by decide) ?_
  refine lv_bipush (v := (10 : Int32)) hx hb dX11_wouldFall_3 (by decide) ?_
  refine g_callS_i (nA := 3) (o := M_X11_in σ p0 (8 : Int32) (10 : Int32)) (As := [.int p0, .int (8 : Int32), .int (10 : Int32)]) X.1 hG (fun _ _ h => C_X11_in l E h ) mw1182 mw1183 mw62 (gw_ok mw1184 rfl) (by decide +kernel) rfl ⟨Nat.le_of_ble_eq_true rfl, Nat.le_of_ble_eq_true rfl⟩ hl.1 rfl (Nat.le_of_ble_eq_true rfl) ⟨Nat.le_refl _, Nat.le_refl _⟩ dX11_wouldFall_5 hM (fun σ1 r2 H locs hG hM => ?_)
  refine lv_if_eq (tgt := 19) hx hb dX11_wouldFall_8 (by decide) (fun c5 => ?_) (fun c5 => ?_)
  · have hM := b_if hM c5
    refine lv_bipush (v := (-2 : Int32)) hx hb dX11_wouldFall_19 (by decide) ?_
    exact e_iret X hG dX11_wouldFall_21 hM
  · have hM := b_else hM c5
    refine lv_aload_n hx hb dX11_wouldFall_11 rfl (lv_at hl 0 rfl) ?_
    refine lv_iload_n hx hb dX11_wouldFall_12 rfl (lv_at hl 1 rfl) ?_
    refine g_callV_i (nA := 1) (o := M_X11_fallsBy σ1 k p0) (As := [.int p0]) X.1 hG hL rfl rfl (fun _ _ h => C_X11_fallsBy l E h hL) mw1335 mw1337 mw37 mw62 (gw_ok mw1338 rfl) (by decide +kernel) rfl ⟨Nat.le_of_ble_eq_true rfl, Nat.le_of_ble_eq_true rfl⟩ hl.1 rfl (Nat.le_of_ble_eq_true rfl) ⟨Nat.le_refl _, Nat.le_refl _⟩ dX11_wouldFall_13 hM (fun σ3 r4 H locs hG hM => ?_)
    refine lv_goto (tgt := 21) hx hb dX11_wouldFall_16 (by decide) ?_
    exact e_iret X hG dX11_wouldFall_21 hM
def B_X11_oldIn_16  : Nat → St → Nat → Int32 → Int32 → Option (St × Int32)
  | 0, _, _, _, _ => none
  | n + 1, σ, k, x1, x2 => bcall (M_X11_isStorey σ k x1) fun σ5 r6 => if r6 = 0 then (bcall (M_X11_isStorey σ5 k x1) fun σ7 r8 => bcall (M_X11_thinksNoMore σ7 k) fun σ9 r10 => if r8 = 0 then some (σ9, (-4 : Int32)) else some (σ9, x2)) else (bcall (M_X11_of σ5 k x1 (2 : Int32)) fun σ12 r13 => if (20 : Int32) < r13 then (bcall (M_X11_isStorey σ12 k x1) fun σ14 r15 => bcall (M_X11_thinksNoMore σ14 k) fun σ16 r17 => if r15 = 0 then some (σ16, (-4 : Int32)) else some (σ16, x2)) else (bcall (M_X11_passes σ12 k) fun σ19 r20 => blet (x2 + (1 : Int32)) fun v21 => B_X11_oldIn_16 n σ19 k x1 v21))
def M_X11_oldIn (σ : St) (k : Nat) (p0 : Int32) : Option (St × Int32) := bcall (M_X11_isStorey σ k p0) fun σ1 r2 => if r2 = 0 then some (σ1, (-1 : Int32)) else (bcall (M_X11_thinks σ1 k) fun σ3 r4 => B_X11_oldIn_16 FU σ3 k p0 (0 : Int32))
set_option maxRecDepth 20000 in
set_option maxHeartbeats 4000000 in
theorem w_X11_oldIn_16 {p : Program} {l : Launch} {e : Env} {s : State} {m : MethodId} {below : List Frame} {meth : Method} {c : Code} {args : Array Value} {E : Ev} {k : Nat} (X : Bx E p m meth c cX11_oldIn 4 (some .int) s args RX11) (hL : lay 11 k) : ∀ (n : Nat) (σ : St) (x1 x2 : Int32) (H : Heap) (locs : List Loc) (ls : Array Slot) (z : St × Int32), GS E σ s.heap H locs → lv_has ls 4 [(0, .ref (E.1 k)), (1, .int x1), (2, .int x2)] → B_X11_oldIn_16 n σ k x1 x2 = some z → W p l e (rmd 5) s m args below meth c H locs 0 0 (QI E z below args s) (F0 m 16 ls []) := by
  have hx := X.1.1.1
  have hb := X.1.1.2.1
  intro n
  induction n with
  | zero => intro σ x1 x2 H locs ls z  hG hl hM; cases hM
  | succ n ih =>
    intro σ x1 x2 H locs ls z  hG hl hM
    unfold B_X11_oldIn_16 at hM
    refine lv_aload_n hx hb dX11_oldIn_16 rfl (lv_at hl 0 rfl) ?_
    refine lv_iload_n hx hb dX11_oldIn_17 rfl (lv_at hl 1 rfl) ?_
    refine g_callV_i (nA := 1) (o := M_X11_isStorey σ k x1) (As := [.int x1]) X.1 hG hL rfl rfl (fun _ _ h => C_X11_isStorey l E h hL) mw1238 mw1240 mw21 mw62 (gw_ok mw1241 rfl) (by decide +kernel) rfl ⟨Nat.le_of_ble_eq_true rfl, Nat.le_of_ble_eq_true rfl⟩ hl.1 rfl (Nat.le_of_ble_eq_true rfl) ⟨Nat.le_refl _, Nat.le_refl _⟩ dX11_oldIn_18 hM (fun σ5 r6 H locs hG hM => ?_)
    refine lv_if_eq (tgt := 46) hx hb dX11_oldIn_21 (by decide) (fun c23 => ?_) (fun c23 => ?_)
    · have hM := b_if hM c23
      refine lv_aload_n hx hb dX11_oldIn_46 rfl (lv_at hl 0 rfl) ?_
      refine lv_iload_n hx hb dX11_oldIn_47 rfl (lv_at hl 1 rfl) ?_
      refine g_callV_i (nA := 1) (o := M_X11_isStorey σ5 k x1) (As := [.int x1]) X.1 hG hL rfl rfl (fun _ _ h => C_X11_isStorey l E h hL) mw1238 mw1240 mw21 mw62 (gw_ok mw1241 rfl) (by decide +kernel) rfl ⟨Nat.le_of_ble_eq_true rfl, Nat.le_of_ble_eq_true rfl⟩ hl.1 rfl (Nat.le_of_ble_eq_true rfl) ⟨Nat.le_refl _, Nat.le_refl _⟩ dX11_oldIn_48 hM (fun σ7 r8 H locs hG hM => ?_)
      refine lv_istore_n (lv' := [(3, .int r8), (0, .ref (E.1 k)), (1, .int x1), (2, .int x2)]) hx hb dX11_oldIn_51 rfl hl (by decide) rfl (fun ls hl => ?_)
      refine lv_aload_n hx hb dX11_oldIn_52 rfl (lv_at hl 1 rfl) ?_
      refine g_callV_v (nA := 0) (o := M_X11_thinksNoMore σ7 k) (As := []) X.1 hG hL rfl rfl (fun _ _ h => C_X11_thinksNoMore l E h hL) mw1424 mw1426 mw46 mw62 (gw_ok mw1427 rfl) (by decide +kernel) rfl ⟨Nat.le_of_ble_eq_true rfl, Nat.le_of_ble_eq_true rfl⟩ hl.1 rfl (Nat.le_of_ble_eq_true rfl) ⟨Nat.le_refl _, Nat.le_refl _⟩ dX11_oldIn_53 hM (fun σ9 r10 H locs hG hM => ?_)
      refine lv_iload_n hx hb dX11_oldIn_56 rfl (lv_at hl 0 rfl) ?_
      refine lv_if_eq (tgt := 64) hx hb dX11_oldIn_57 (by decide) (fun c11 => ?_) (fun c11 => ?_)
      · have hM := b_if hM c11
        refine lv_bipush (v := (-4 : Int32)) hx hb dX11_oldIn_64 (by decide) ?_
        exact e_iret X hG dX11_oldIn_66 hM
      · have hM := b_else hM c11
        refine lv_iload_n hx hb dX11_oldIn_60 rfl (lv_at hl 3 rfl) ?_
        refine lv_goto (tgt := 66) hx hb dX11_oldIn_61 (by decide) ?_
        exact e_iret X hG dX11_oldIn_66 hM
    · have hM := b_else hM c23
      refine lv_aload_n hx hb dX11_oldIn_24 rfl (lv_at hl 0 rfl) ?_
      refine lv_iload_n hx hb dX11_oldIn_25 rfl (lv_at hl 1 rfl) ?_
      refine lv_iconst (v := (2 : Int32)) hx hb dX11_oldIn_26 (by decide) ?_
      refine g_callV_i (nA := 2) (o := M_X11_of σ5 k x1 (2 : Int32)) (As := [.int x1, .int (2 : Int32)]) X.1 hG hL rfl rfl (fun _ _ h => C_X11_of l E h hL) mw1242 mw1244 mw22 mw62 (gw_ok mw1245 rfl) (by decide +kernel) rfl ⟨Nat.le_of_ble_eq_true rfl, Nat.le_of_ble_eq_true rfl⟩ hl.1 rfl (Nat.le_of_ble_eq_true rfl) ⟨Nat.le_refl _, Nat.le_refl _⟩ dX11_oldIn_27 hM (fun σ12 r13 H locs hG hM => ?_)
      refine lv_bipush (v := (20 : Int32)) hx hb dX11_oldIn_30 (by decide) ?_
      refine lv_icmp_gt (tgt := 46) hx hb dX11_oldIn_32 (by decide) (fun c22 => ?_) (fun c22 => ?_)
      · have hM := b_if hM c22
        refine lv_aload_n hx hb dX11_oldIn_46 rfl (lv_at hl 0 rfl) ?_
        refine lv_iload_n hx hb dX11_oldIn_47 rfl (lv_at hl 1 rfl) ?_
        refine g_callV_i (nA := 1) (o := M_X11_isStorey σ12 k x1) (As := [.int x1]) X.1 hG hL rfl rfl (fun _ _ h => C_X11_isStorey l E h hL) mw1238 mw1240 mw21 mw62 (gw_ok mw1241 rfl) (by decide +kernel) rfl ⟨Nat.le_of_ble_eq_true rfl, Nat.le_of_ble_eq_true rfl⟩ hl.1 rfl (Nat.le_of_ble_eq_true rfl) ⟨Nat.le_refl _, Nat.le_refl _⟩ dX11_oldIn_48 hM (fun σ14 r15 H locs hG hM => ?_)
        refine lv_istore_n (lv' := [(3, .int r15), (0, .ref (E.1 k)), (1, .int x1), (2, .int x2)]) hx hb dX11_oldIn_51 rfl hl (by decide) rfl (fun ls hl => ?_)
        refine lv_aload_n hx hb dX11_oldIn_52 rfl (lv_at hl 1 rfl) ?_
        refine g_callV_v (nA := 0) (o := M_X11_thinksNoMore σ14 k) (As := []) X.1 hG hL rfl rfl (fun _ _ h => C_X11_thinksNoMore l E h hL) mw1424 mw1426 mw46 mw62 (gw_ok mw1427 rfl) (by decide +kernel) rfl ⟨Nat.le_of_ble_eq_true rfl, Nat.le_of_ble_eq_true rfl⟩ hl.1 rfl (Nat.le_of_ble_eq_true rfl) ⟨Nat.le_refl _, Nat.le_refl _⟩ dX11_oldIn_53 hM (fun σ16 r17 H locs hG hM => ?_)
        refine lv_iload_n hx hb dX11_oldIn_56 rfl (lv_at hl 0 rfl) ?_
        refine lv_if_eq (tgt := 64) hx hb dX11_oldIn_57 (by decide) (fun c18 => ?_) (fun c18 => ?_)
        · have hM := b_if hM c18
          refine lv_bipush (v := (-4 : Int32)) hx hb dX11_oldIn_64 (by decide) ?_
          exact e_iret X hG dX11_oldIn_66 hM
        · have hM := b_else hM c18
          refine lv_iload_n hx hb dX11_oldIn_60 rfl (lv_at hl 3 rfl) ?_
          refine lv_goto (tgt := 66) hx hb dX11_oldIn_61 (by decide) ?_
          exact e_iret X hG dX11_oldIn_66 hM
      · have hM := b_else hM c22
        refine lv_aload_n hx hb dX11_oldIn_35 rfl (lv_at hl 0 rfl) ?_
        refine g_callV_i (nA := 0) (o := M_X11_passes σ12 k) (As := []) X.1 hG hL rfl rfl (fun _ _ h => C_X11_passes l E h hL) mw1327 mw1329 mw35 mw62 (gw_ok mw1330 rfl) (by decide +kernel) rfl ⟨Nat.le_of_ble_eq_true rfl, Nat.le_of_ble_eq_true rfl⟩ hl.1 rfl (Nat.le_of_ble_eq_true rfl) ⟨Nat.le_refl _, Nat.le_refl _⟩ dX11_oldIn_36 hM (fun σ19 r20 H locs hG hM => ?_)
        refine lv_istore_n (lv' := [(3, .int r20), (0, .ref (E.1 k)), (1, .int x1), (2, .int x2)]) hx hb dX11_oldIn_39 rfl hl (by decide) rfl (fun ls hl => ?_)
        obtain ⟨v21, ev21, hM⟩ := g_nm hM
        refine lv_iinc (v := v21) (lv' := [(2, .int v21), (3, .int r20), (0, .ref (E.1 k)), (1, .int x1)]) hx hb dX11_oldIn_40 hl (k := 3) rfl (by rw [ev21]; rfl) (by decide) rfl (fun ls hl => ?_)
        refine lv_goto (tgt := 16) hx hb dX11_oldIn_43 (by decide) ?_
        exact ih σ19 x1 v21 _ _ _ z hG (lv_sub hl [2, 3, 0] rfl) hM
set_option maxRecDepth 20000 in
set_option maxHeartbeats 4000000 in
theorem C_X11_oldIn (l : Launch) (E : Ev) {σ σ' : St} {k : Nat} {p0 : Int32} {r : Int32} (h : M_X11_oldIn σ k p0 = some (σ', r)) (hL : lay 11 k) : Mi l E yX11_oldIn cX11_oldIn 4 (some .int) 5 [.ref (E.1 k), .int p0] σ σ' r := by
  refine Mi_of (C := RX11) rfl (by decide) (Nat.le_of_ble_eq_true rfl) (z := (σ', r)) (fun p e s m below meth c ls X hG hl => ?_)
  have hx := X.1.1.1
  have hb := X.1.1.2.1
  have hM := h
  unfold M_X11_oldIn at hM
  generalize (σ', r) = z at hM ⊢
  have hl : lv_has ls 4 [(0, .ref (E.1 k)), (1, .int p0)] := hl
  refine lv_aload_n hx hb dX11_oldIn_0 rfl (lv_at hl 0 rfl) ?_
  refine lv_iload_n hx hb dX11_oldIn_1 rfl (lv_at hl 1 rfl) ?_
  refine g_callV_i (nA := 1) (o := M_X11_isStorey σ k p0) (As := [.int p0]) X.1 hG hL rfl rfl (fun _ _ h => C_X11_isStorey l E h hL) mw1238 mw1240 mw21 mw62 (gw_ok mw1241 rfl) (by decide +kernel) rfl ⟨Nat.le_of_ble_eq_true rfl, Nat.le_of_ble_eq_true rfl⟩ hl.1 rfl (Nat.le_of_ble_eq_true rfl) ⟨Nat.le_refl _, Nat.le_refl _⟩ dX11_oldIn_2 hM (fun σ1 r2 H locs hG hM => ?_)
  refine lv_if_ne (tgt := 10) hx hb dX11_oldIn_5 (by decide) (fun c24 => ?_) (fun c24 => ?_)
  · have hM := b_else hM c24
    refine lv_aload_n hx hb dX11_oldIn_10 rfl (lv_at hl 0 rfl) ?_
    refine g_callV_v (nA := 0) (o := M_X11_thinks σ1 k) (As := []) X.1 hG hL rfl rfl (fun _ _ h => C_X11_thinks l E h hL) mw1420 mw1422 mw45 mw62 (gw_ok mw1423 rfl) (by decide +kernel) rfl ⟨Nat.le_of_ble_eq_true rfl, Nat.le_of_ble_eq_true rfl⟩ hl.1 rfl (Nat.le_of_ble_eq_true rfl) ⟨Nat.le_refl _, Nat.le_refl _⟩ dX11_oldIn_11 hM (fun σ3 r4 H locs hG hM => ?_)
    refine lv_iconst (v := (0 : Int32)) hx hb dX11_oldIn_14 (by decide) ?_
    refine lv_istore_n (lv' := [(2, .int (0 : Int32)), (0, .ref (E.1 k)), (1, .int p0)]) hx hb dX11_oldIn_15 rfl hl (by decide) rfl (fun ls hl => ?_)
    exact w_X11_oldIn_16 X hL FU σ3 p0 (0 : Int32) _ _ _ z hG (lv_sub hl [1, 2, 0] rfl) hM
  · have hM := b_if hM c24
    refine lv_iconst (v := (-1 : Int32)) hx hb dX11_oldIn_8 (by decide) ?_
    exact e_iret X hG dX11_oldIn_9 hM
