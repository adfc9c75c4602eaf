def B_X11_oldUpTo_2  : Nat → St → Nat → Int32 → Int32 → Option (St × Int32)
  | 0, _, _, _, _ => none
  | n + 1, σ, k, x1, x2 => if x1 < x2 then some (σ, (-1 : Int32)) else (bcall (M_X11_of σ k x2 (2 : Int32)) fun σ1 r2 => if r2 ≤ (20 : Int32) then (blet (x2 + (1 : Int32)) fun v3 => B_X11_oldUpTo_2 n σ1 k x1 v3) else some (σ1, x2))
def M_X11_oldUpTo (σ : St) (k : Nat) (p0 : Int32) : Option (St × Int32) := B_X11_oldUpTo_2 FU σ k p0 (0 : Int32)
set_option maxRecDepth 20000 in
set_option maxHeartbeats 4000000 in
theorem w_X11_oldUpTo_2 {p : Program} {l : Launch} {e : Env} {s : State} {m : MethodId} {below : List Frame} {meth : Method} {c : Code} {args : Array Value} {E : Ev} {k : Nat} (X : Bx E p m meth c cX11_oldUpTo 3 (some .int) s args RX11) (hL : lay 11 k) : ∀ (n : Nat) (σ : St) (x1 x2 : Int32) (H : Heap) (locs : List Loc) (ls : Array Slot) (z : St × Int32), GS E σ s.heap H locs → lv_has ls 3 [(0, .ref (E.1 k)), (1, .int x1), (2, .int x2)] → B_X11_oldUpTo_2 n σ k x1 x2 = some z → W p l e (rmd 2) s m args below meth c H locs 0 0 (QI E z below args s) (F0 m 2 ls []) := by
  have hx := X.1.1.1
  have hb := X.1.1.2.1
  intro n
  induction n with
  | zero => intro σ x1 x2 H locs ls z  hG hl hM; cases hM
  | succ n ih =>
    intro σ x1 x2 H locs ls z  hG hl hM
    unfold B_X11_oldUpTo_2 at hM
    refine lv_iload_n hx hb dX11_oldUpTo_2 rfl (lv_at hl 2 rfl) ?_
    refine lv_iload_n hx hb dX11_oldUpTo_3 rfl (lv_at hl 1 rfl) ?_
    refine lv_icmp_gt (tgt := 26) hx hb dX11_oldUpTo_4 (by decide) (fun c5 => ?_) (fun c5 => ?_)
    · have hM := b_if hM c5
      refine lv_iconst (v := (-1 : Int32)) hx hb dX11_oldUpTo_26 (by decide) ?_
      exact e_iret X hG dX11_oldUpTo_27 hM
    · have hM := b_else hM c5
      refine lv_aload_n hx hb dX11_oldUpTo_7 rfl (lv_at hl 0 rfl) ?_
      refine lv_iload_n hx hb dX11_oldUpTo_8 rfl (lv_at hl 2 rfl) ?_
      refine lv_iconst (v := (2 : Int32)) hx hb dX11_oldUpTo_9 (by decide) ?_
      refine g_callV_i (nA := 2) (o := M_X11_of σ k x2 (2 : Int32)) (As := [.int x2, .int (2 : Int32)]) X.1 hG hL rfl rfl (fun _ _ h => C_X11_of l E h hL) mw1242 mw1244 mw22 mw62 (gw_ok mw1245 rfl) (by decide +kernel) rfl ⟨Nat.le_of_ble_eq_true rfl, Nat.le_of_ble_eq_true rfl⟩ hl.1 rfl (Nat.le_of_ble_eq_true rfl) ⟨Nat.le_refl _, Nat.le_refl _⟩ dX11_oldUpTo_10 hM (fun σ1 r2 H locs hG hM => ?_)
      refine lv_bipush (v := (20 : Int32)) hx hb dX11_oldUpTo_13 (by decide) ?_
      refine lv_icmp_le (tgt := 20) hx hb dX11_oldUpTo_15 (by decide) (fun c4 => ?_) (fun c4 => ?_)
      · have hM := b_if hM c4
        obtain ⟨v3, ev3, hM⟩ := g_nm hM
        refine lv_iinc (v := v3) (lv' := [(2, .int v3), (0, .ref (E.1 k)), (1, .int x1)]) hx hb dX11_oldUpTo_20 hl (k := 2) rfl (by rw [ev3]; rfl) (by decide) rfl (fun ls hl => ?_)
        refine lv_goto (tgt := 2) hx hb dX11_oldUpTo_23 (by decide) ?_
        exact ih σ1 x1 v3 _ _ _ z hG (lv_sub hl [1, 2, 0] rfl) hM
      · have hM := b_else hM c4
        refine lv_iload_n hx hb dX11_oldUpTo_18 rfl (lv_at hl 2 rfl) ?_
        exact e_iret X hG dX11_oldUpTo_19 hM
set_option maxRecDepth 20000 in
set_option maxHeartbeats 4000000 in
theorem C_X11_oldUpTo (l : Launch) (E : Ev) {σ σ' : St} {k : Nat} {p0 : Int32} {r : Int32} (h : M_X11_oldUpTo σ k p0 = some (σ', r)) (hL : lay 11 k) : Mi l E yX11_oldUpTo cX11_oldUpTo 3 (some .int) 2 [.ref (E.1 k), .int p0] σ σ' r := by
  refine Mi_of (C := RX11) rfl (by decide) (Nat.le_of_ble_eq_true rfl) (z := (σ', r)) (fun p e s m below meth c ls X hG hl => ?_)
  have hx := X.1.1.1
  have hb := X.1.1.2.1
  have hM := h
  unfold M_X11_oldUpTo at hM
  generalize (σ', r) = z at hM ⊢
  have hl : lv_has ls 3 [(0, .ref (E.1 k)), (1, .int p0)] := hl
  refine lv_iconst (v := (0 : Int32)) hx hb dX11_oldUpTo_0 (by decide) ?_
  refine lv_istore_n (lv' := [(2, .int (0 : Int32)), (0, .ref (E.1 k)), (1, .int p0)]) hx hb dX11_oldUpTo_1 rfl hl (by decide) rfl (fun ls hl => ?_)
  exact w_X11_oldUpTo_2 X hL FU σ p0 (0 : Int32) _ _ _ z hG (lv_sub hl [1, 2, 0] rfl) hM
def B_X11_crewsOn_4  : Nat → St → Nat → Int32 → Int32 → Int32 → Option (St × Int32)
  | 0, _, _, _, _, _ => none
  | n + 1, σ, k, x1, x2, x3 => bald σ (k + 1) (4 : Int32) fun q1 => if q1 ≤ x3 then some (σ, x2) else (bcall (M_X11_where σ k x3) fun σ2 r3 => if r3 = x1 then (blet (x2 ||| ((1 : Int32) <<< (x3 &&& 31))) fun v5 => blet (x3 + (1 : Int32)) fun v6 => B_X11_crewsOn_4 n σ2 k x1 v5 v6) else (blet (x3 + (1 : Int32)) fun v4 => B_X11_crewsOn_4 n σ2 k x1 x2 v4))
def M_X11_crewsOn (σ : St) (k : Nat) (p0 : Int32) : Option (St × Int32) := B_X11_crewsOn_4 FU σ k p0 (0 : Int32) (0 : Int32)
set_option maxRecDepth 20000 in
set_option maxHeartbeats 4000000 in
theorem w_X11_crewsOn_4 {p : Program} {l : Launch} {e : Env} {s : State} {m : MethodId} {below : List Frame} {meth : Method} {c : Code} {args : Array Value} {E : Ev} {k : Nat} (X : Bx E p m meth c cX11_crewsOn 4 (some .int) s args RX11) (hL : lay 11 k) : ∀ (n : Nat) (σ : St) (x1 x2 x3 : Int32) (H : Heap) (locs : List Loc) (ls : Array Slot) (z : St × Int32), GS E σ s.heap H locs → lv_has ls 4 [(0, .ref (E.1 k)), (1, .int x1), (2, .int x2), (3, .int x3)] → B_X11_crewsOn_4 n σ k x1 x2 x3 = some z → W p l e (rmd 2) s m args below meth c H locs 0 0 (QI E z below args s) (F0 m 4 ls []) := by
  have hx := X.1.1.1
  have hb := X.1.1.2.1
  intro n
  induction n with
  | zero => intro σ x1 x2 x3 H locs ls z  hG hl hM; cases hM
  | succ n ih =>
    intro σ x1 x2 x3 H locs ls z  hG hl hM
    unfold B_X11_crewsOn_4 at hM
    refine lv_iload_n hx hb dX11_crewsOn_4 rfl (lv_at hl 3 rfl) ?_
    refine lv_aload_n hx hb dX11_crewsOn_5 rfl (lv_at hl 0 rfl) ?_
    refine gt_11_0 X.1 hG hL mw1119 dX11_crewsOn_6 ?_
    refine lv_iconst (v := (4 : Int32)) hx hb dX11_crewsOn_9 (by decide) ?_
    refine g_ald X.1 hG (lf_11_0 hL) dX11_crewsOn_10 hM (fun q1 hM => ?_)
    refine lv_icmp_ge (tgt := 35) hx hb dX11_crewsOn_11 (by decide) (fun c8 => ?_) (fun c8 => ?_)
    · have hM := b_if hM c8
      refine lv_iload_n hx hb dX11_crewsOn_35 rfl (lv_at hl 2 rfl) ?_
      exact e_iret X hG dX11_crewsOn_36 hM
    · have hM := b_else hM c8
      refine lv_aload_n hx hb dX11_crewsOn_14 rfl (lv_at hl 0 rfl) ?_
      refine lv_iload_n hx hb dX11_crewsOn_15 rfl (lv_at hl 3 rfl) ?_
      refine g_callV_i (nA := 1) (o := M_X11_where σ k x3) (As := [.int x3]) X.1 hG hL rfl rfl (fun _ _ h => C_X11_where l E h hL) mw1262 mw1264 mw25 mw62 (gw_ok mw1265 rfl) (by decide +kernel) rfl ⟨Nat.le_of_ble_eq_true rfl, Nat.le_of_ble_eq_true rfl⟩ hl.1 rfl (Nat.le_of_ble_eq_true rfl) ⟨Nat.le_refl _, Nat.le_refl _⟩ dX11_crewsOn_16 hM (fun σ2 r3 H locs hG hM => ?_)
      refine lv_iload_n hx hb dX11_crewsOn_19 rfl (lv_at hl 1 rfl) ?_
      refine lv_icmp_ne (tgt := 29) hx hb dX11_crewsOn_20 (by decide) (fun c7 => ?_) (fun c7 => ?_)
      · have hM := b_else hM c7
        obtain ⟨v4, ev4, hM⟩ := g_nm hM
        refine lv_iinc (v := v4) (lv' := [(3, .int v4), (0, .ref (E.1 k)), (1, .int x1), (2, .int x2)]) hx hb dX11_crewsOn_29 hl (k := 3) rfl (by rw [ev4]; rfl) (by decide) rfl (fun ls hl => ?_)
        refine lv_goto (tgt := 4) hx hb dX11_crewsOn_32 (by decide) ?_
        exact ih σ2 x1 x2 v4 _ _ _ z hG (lv_sub hl [1, 2, 3, 0] rfl) hM
      · have hM := b_if hM c7
        refine lv_iload_n hx hb dX11_crewsOn_23 rfl (lv_at hl 2 rfl) ?_
        refine lv_iconst (v := (1 : Int32)) hx hb dX11_crewsOn_24 (by decide) ?_
        refine lv_iload_n hx hb dX11_crewsOn_25 rfl (lv_at hl 3 rfl) ?_
        refine lv_ishl hx hb dX11_crewsOn_26 ?_
        refine lv_ior hx hb dX11_crewsOn_27 ?_
        refine g_name hM (fun v5 hM => ?_)
        refine lv_istore_n (lv' := [(2, .int v5), (0, .ref (E.1 k)), (1, .int x1), (3, .int x3)]) hx hb dX11_crewsOn_28 rfl hl (by decide) rfl (fun ls hl => ?_)
        obtain ⟨v6, ev6, hM⟩ := g_nm hM
        refine lv_iinc (v := v6) (lv' := [(3, .int v6), (2, .int v5), (0, .ref (E.1 k)), (1, .int x1)]) hx hb dX11_crewsOn_29 hl (k := 3) rfl (by rw [ev6]; rfl) (by decide) rfl (fun ls hl => ?_)
        refine lv_goto (tgt := 4) hx hb dX11_crewsOn_32 (by decide) ?_
        exact ih σ2 x1 v5 v6 _ _ _ z hG (lv_sub hl [2, 3, 1, 0] rfl) hM
set_option maxRecDepth 20000 in
set_option maxHeartbeats 4000000 in
theorem C_X11_crewsOn (l : Launch) (E : Ev) {σ σ' : St} {k : Nat} {p0 : Int32} {r : Int32} (h : M_X11_crewsOn σ k p0 = some (σ', r)) (hL : lay 11 k) : Mi l E yX11_crewsOn cX11_crewsOn 4 (some .int) 2 [.ref (E.1 k), .int p0] σ σ' r := by
  refine Mi_of (C := RX11) rfl (by decide) (Nat.le_of_ble_eq_true rfl) (z := (σ', r)) (fun p e s m below meth c ls X hG hl => ?_)
  have hx := X.1.1.1
  have hb := X.1.1.2.1
  have hM := h
  unfold M_X11_crewsOn at hM
  generalize (σ', r) = z at hM ⊢
  have hl : lv_has ls 4 [(0, .ref (E.1 k)), (1, .int p0)] := hl
  refine lv_iconst (v := (0 : Int32)) hx hb dX11_crewsOn_0 (by decide) ?_
  refine lv_istore_n (lv' := [(2, .int (0 : Int32)), (0, .ref (E.1 k)), (1, .int p0)]) hx hb dX11_crewsOn_1 rfl hl (by decide) rfl (fun ls hl => ?_)
  refine lv_iconst (v := (0 : Int32)) hx hb dX11_crewsOn_2 (by decide) ?_
  refine lv_istore_n (lv' := [(3, .int (0 : Int32)), (2, .int (0 : Int32)), (0, .ref (E.1 k)), (1, .int p0)]) hx hb dX11_crewsOn_3 rfl hl (by decide) rfl (fun ls hl => ?_)
  exact w_X11_crewsOn_4 X hL FU σ p0 (0 : Int32) (0 : Int32) _ _ _ z hG (lv_sub hl [2, 3, 1, 0] rfl) hM
def M_X11_comesDown (σ : St) (k : Nat) (p0 : Int32) : Option (St × Int32) := bcall (M_X11_isCrew σ k p0) fun σ1 r2 => if r2 = 0 then some (σ1, (-1 : Int32)) else (bcall (M_X11_where σ1 k p0) fun σ3 r4 => if 0 ≤ r4 then (bast σ3 (k + 1) (((90 : Int32) + ((3 : Int32) * p0)) + (1 : Int32)) (0 : Int32) fun σ5 => bcall (M_X11_does σ5 k r4) fun σ6 r7 => some (σ6, r7)) else (bcall (M_X11_refuses σ3 k (11 : Int32) p0) fun σ8 r9 => some (σ8, r9)))
set_option maxRecDepth 20000 in
set_option maxHeartbeats 4000000 in
theorem C_X11_comesDown (l : Launch) (E : Ev) {σ σ' : St} {k : Nat} {p0 : Int32} {r : Int32} (h : M_X11_comesDown σ k p0 = some (σ', r)) (hL : lay 11 k) : Mi l E yX11_comesDown cX11_comesDown 3 (some .int) 3 [.ref (E.1 k), .int p0] σ σ' r := by
  refine Mi_of (C := RX11) rfl (by decide) (Nat.le_of_ble_eq_true rfl) (z := (σ', r)) (fun p e s m below meth c ls X hG hl => ?_)
  have hx := X.1.1.1
  have hb := X.1.1.2.1
  have hM := h
  unfold M_X11_comesDown at hM
  generalize (σ', r) = z at hM ⊢
  have hl : lv_has ls 3 [(0, .ref (E.1 k)), (1, .int p0)] := hl
  refine lv_aload_n hx hb dX11_comesDown_0 rfl (lv_at hl 0 rfl) ?_
  refine lv_iload_n hx hb dX11_comesDown_1 rfl (lv_at hl 1 rfl) ?_
  refine g_callV_i (nA := 1) (o := M_X11_isCrew σ k p0) (As := [.int p0]) X.1 hG hL rfl rfl (fun _ _ h => C_X11_isCrew l E h hL) mw1258 mw1260 mw24 mw62 (gw_ok mw1261 rfl) (by decide +kernel) rfl ⟨Nat.le_of_ble_eq_true rfl, Nat.le_of_ble_eq_true rfl⟩ hl.1 rfl (Nat.le_of_ble_eq_true rfl) ⟨Nat.le_refl _, Nat.le_refl _⟩ dX11_comesDown_2 hM (fun σ1 r2 H locs hG hM => ?_)
  refine lv_if_ne (tgt := 10) hx hb dX11_comesDown_5 (by decide) (fun c11 => ?_) (fun c11 => ?_)
  · have hM := b_else hM c11
    refine lv_aload_n hx hb dX11_comesDown_10 rfl (lv_at hl 0 rfl) ?_
    refine lv_iload_n hx hb dX11_comesDown_11 rfl (lv_at hl 1 rfl) ?_
    refine g_callV_i (nA := 1) (o := M_X11_where σ1 k p0) (As := [.int p0]) X.1 hG hL rfl rfl (fun _ _ h => C_X11_where l E h hL) mw1262 mw1264 mw25 mw62 (gw_ok mw1265 rfl) (by decide +kernel) rfl ⟨Nat.le_of_ble_eq_true rfl, Nat.le_of_ble_eq_true rfl⟩ hl.1 rfl (Nat.le_of_ble_eq_true rfl) ⟨Nat.le_refl _, Nat.le_refl _⟩ dX11_comesDown_12 hM (fun σ3 r4 H locs hG hM => ?_)
    refine lv_istore_n (lv' := [(2, .int r4), (0, .ref (E.1 k)), (1, .int p0)]) hx hb dX11_comesDown_15 rfl hl (by decide) rfl (fun ls hl => ?_)
    refine lv_iload_n hx hb dX11_comesDown_16 rfl (lv_at hl 0 rfl) ?_
    refine lv_if_ge (tgt := 28) hx hb dX11_comesDown_17 (by decide) (fun c10 => ?_) (fun c10 => ?_)
    · have hM := b_if hM c10
      refine lv_aload_n hx hb dX11_comesDown_28 rfl (lv_at hl 1 rfl) ?_
      refine gt_11_0 X.1 hG hL mw1119 dX11_comesDown_29 ?_
      refine lv_bipush (v := (90 : Int32)) hx hb dX11_comesDown_32 (by decide) ?_
      refine lv_iconst (v := (3 : Int32)) hx hb dX11_comesDown_34 (by decide) ?_
      refine lv_iload_n hx hb dX11_comesDown_35 rfl (lv_at hl 2 rfl) ?_
      refine lv_imul hx hb dX11_comesDown_36 ?_
      refine lv_iadd hx hb dX11_comesDown_37 ?_
      refine lv_iconst (v := (1 : Int32)) hx hb dX11_comesDown_38 (by decide) ?_
      refine lv_iadd hx hb dX11_comesDown_39 ?_
      refine lv_iconst (v := (0 : Int32)) hx hb dX11_comesDown_40 (by decide) ?_
      refine g_ast X.1 hG (lf_11_0 hL) dX11_comesDown_41 hM (fun σ5 H locs hG hM => ?_)
      refine lv_aload_n hx hb dX11_comesDown_42 rfl (lv_at hl 1 rfl) ?_
      refine lv_iload_n hx hb dX11_comesDown_43 rfl (lv_at hl 0 rfl) ?_
      refine g_callV_i (nA := 1) (o := M_X11_does σ5 k r4) (As := [.int r4]) X.1 hG hL rfl rfl (fun _ _ h => C_X11_does l E h hL) mw1222 mw1224 mw18 mw62 (gw_ok mw1225 rfl) (by decide +kernel) rfl ⟨Nat.le_of_ble_eq_true rfl, Nat.le_of_ble_eq_true rfl⟩ hl.1 rfl (Nat.le_of_ble_eq_true rfl) ⟨Nat.le_refl _, Nat.le_refl _⟩ dX11_comesDown_44 hM (fun σ6 r7 H locs hG hM => ?_)
      exact e_iret X hG dX11_comesDown_47 hM
    · have hM := b_else hM c10
      refine lv_aload_n hx hb dX11_comesDown_20 rfl (lv_at hl 1 rfl) ?_
      refine lv_bipush (v := (11 : Int32)) hx hb dX11_comesDown_21 (by decide) ?_
      refine lv_iload_n hx hb dX11_comesDown_23 rfl (lv_at hl 2 rfl) ?_
      refine g_callV_i (nA := 2) (o := M_X11_refuses σ3 k (11 : Int32) p0) (As := [.int (11 : Int32), .int p0]) X.1 hG hL rfl rfl (fun _ _ h => C_X11_refuses l E h hL) mw1193 mw1195 mw13 mw62 (gw_ok mw1196 rfl) (by decide +kernel) rfl ⟨Nat.le_of_ble_eq_true rfl, Nat.le_of_ble_eq_true rfl⟩ hl.1 rfl (Nat.le_of_ble_eq_true rfl) ⟨Nat.le_refl _, Nat.le_refl _⟩ dX11_comesDown_24 hM (fun σ8 r9 H locs hG hM => ?_)
      exact e_iret X hG dX11_comesDown_27 hM
  · have hM := b_if hM c11
    refine lv_iconst (v := (-1 : Int32)) hx hb dX11_comesDown_8 (by decide) ?_
    exact e_iret X hG dX11_comesDown_9 hM
def M_X11_down (σ : St) (k : Nat) (p0 : Int32) : Option (St × Int32) := bcall (M_X11_tries σ k) fun σ1 r2 => bcall (M_X11_comesDown σ1 k p0) fun σ3 r4 => bcall (M_X11_ends σ3 k r4) fun σ5 r6 => some (σ5, r6)
set_option maxRecDepth 20000 in
set_option maxHeartbeats 4000000 in
theorem C_X11_down (l : Launch) (E : Ev) {σ σ' : St} {k : Nat} {p0 : Int32} {r : Int32} (h : M_X11_down σ k p0 = some (σ', r)) (hL : lay 11 k) : Mi l E yX11_down cX11_down 2 (some .int) 4 [.ref (E.1 k), .int p0] σ σ' r := by
  refine Mi_of (C := RX11) rfl (by decide) (Nat.le_of_ble_eq_true rfl) (z := (σ', r)) (fun p e s m below meth c ls X hG hl => ?_)
  have hx := X.1.1.1
  have hb := X.1.1.2.1
  have hM := h
  unfold M_X11_down at hM
  generalize (σ', r) = z at hM ⊢
  have hl : lv_has ls 2 [(0, .ref (E.1 k)), (1, .int p0)] := hl
  refine lv_aload_n hx hb dX11_down_0 rfl (lv_at hl 0 rfl) ?_
  refine g_callV_v (nA := 0) (o := M_X11_tries σ k) (As := []) X.1 hG hL rfl rfl (fun _ _ h => C_X11_tries l E h hL) mw1189 mw1191 mw12 mw62 (gw_ok mw1192 rfl) (by decide +kernel) rfl ⟨Nat.le_of_ble_eq_true rfl, Nat.le_of_ble_eq_true rfl⟩ hl.1 rfl (Nat.le_of_ble_eq_true rfl) ⟨Nat.le_refl _, Nat.le_refl _⟩ dX11_down_1 hM (fun σ1 r2 H locs hG hM => ?_)
  refine lv_aload_n hx hb dX11_down_4 rfl (lv_at hl 0 rfl) ?_
  refine lv_aload_n hx hb dX11_down_5 rfl (lv_at hl 0 rfl) ?_
  refine lv_iload_n hx hb dX11_down_6 rfl (lv_at hl 1 rfl) ?_
  refine g_callV_i (nA := 1) (o := M_X11_comesDown σ1 k p0) (As := [.int p0]) X.1 hG hL rfl rfl (fun _ _ h => C_X11_comesDown l E h hL) mw1283 mw1285 mw29 mw62 (gw_ok mw1286 rfl) (by decide +kernel) rfl ⟨Nat.le_of_ble_eq_true rfl, Nat.le_of_ble_eq_true rfl⟩ hl.1 rfl (Nat.le_of_ble_eq_true rfl) ⟨Nat.le_refl _, Nat.le_refl _⟩ dX11_down_7 hM (fun σ3 r4 H locs hG hM => ?_)
  refine g_callV_i (nA := 1) (o := M_X11_ends σ3 k r4) (As := [.int r4]) X.1 hG hL rfl rfl (fun _ _ h => C_X11_ends l E h hL) mw1226 mw1228 mw19 mw62 (gw_ok mw1229 rfl) (by decide +kernel) rfl ⟨Nat.le_of_ble_eq_true rfl, Nat.le_of_ble_eq_true rfl⟩ hl.1 rfl (Nat.le_of_ble_eq_true rfl) ⟨Nat.le_refl _, Nat.le_refl _⟩ dX11_down_10 hM (fun σ5 r6 H locs hG hM => ?_)
  exact e_iret X hG dX11_down_13 hM
def M_X11_lifts (σ : St) (k : Nat) (p0 p1 : Int32) : Option (St × Int32) := bcall (M_X11_isStorey σ k p0) fun σ1 r2 => if r2 = 0 then some (σ1, (-1 : Int32)) else (bcall (M_X11_in σ1 p1 (1 : Int32) (9 : Int32)) fun σ3 r4 => if r4 = 0 then some (σ3, (-2 : Int32)) else (bald σ3 (k + 1) (1 : Int32) fun q5 => if q5 < (3 : Int32) then (bcall (M_X11_of σ3 k p0 (4 : Int32)) fun σ6 r7 => if (r7 + p1) ≤ (9 : Int32) then (blet (p1 * (p0 + (1 : Int32))) fun v8 => bald σ6 (k + 1) (7 : Int32) fun q9 => if v8 ≤ q9 then (bald σ6 (k + 1) (7 : Int32) fun q10 => bast σ6 (k + 1) (7 : Int32) (q10 - v8) fun σ11 => bcall (M_X11_of σ11 k p0 (4 : Int32)) fun σ12 r13 => bcall (M_X11_sets σ12 k p0 (4 : Int32) (r13 + p1)) fun σ14 r15 => bald σ14 (k + 1) (7 : Int32) fun q16 => bcall (M_X11_does σ14 k q16) fun σ17 r18 => some (σ17, r18)) else (bald σ6 (k + 1) (7 : Int32) fun q19 => bcall (M_X11_refuses σ6 k (8 : Int32) q19) fun σ20 r21 => some (σ20, r21))) else (bcall (M_X11_of σ6 k p0 (4 : Int32)) fun σ23 r24 => bcall (M_X11_refuses σ23 k (9 : Int32) r24) fun σ25 r26 => some (σ25, r26))) else (bald σ3 (k + 1) (1 : Int32) fun q28 => bcall (M_X11_refuses σ3 k (4 : Int32) q28) fun σ29 r30 => some (σ29, r30))))
set_option maxRecDepth 20000 in
set_option maxHeartbeats 4000000 in
theorem C_X11_lifts (l : Launch) (E : Ev) {σ σ' : St} {k : Nat} {p0 : Int32} {p1 : Int32} {r : Int32} (h : M_X11_lifts σ k p0 p1 = some (σ', r)) (hL : lay 11 k) : Mi l E yX11_lifts cX11_lifts 4 (some .int) 3 [.ref (E.1 k), .int p0, .int p1] σ σ' r := by
  refine Mi_of (C := RX11) rfl (by decide) (Nat.le_of_ble_eq_true rfl) (z := (σ', r)) (fun p e s m below meth c ls X hG hl => ?_)
  have hx := X.1.1.1
  have hb := X.1.1.2.1
  have hM := h
  unfold M_X11_lifts at hM
  generalize (σ', r) = z at hM ⊢
  have hl : lv_has ls 4 [(0, .ref (E.1 k)), (1, .int p0), (2, .int p1)] := hl
  refine lv_aload_n hx hb dX11_lifts_0 rfl (lv_at hl 0 rfl) ?_
  refine lv_iload_n hx hb dX11_lifts_1 rfl (lv_at hl 1 rfl) ?_
  refine g_callV_i (nA := 1) (o := M_X11_isStorey σ k p0) (As := [.int p0]) X.1 hG hL rfl rfl (fun _ _ h => C_X11_isStorey l E h hL) mw1238 mw1240 mw21 mw62 (gw_ok mw1241 rfl) (by decide +kernel) rfl ⟨Nat.le_of_ble_eq_true rfl, Nat.le_of_ble_eq_true rfl⟩ hl.1 rfl (Nat.le_of_ble_eq_true rfl) ⟨Nat.le_refl _, Nat.le_refl _⟩ dX11_lifts_2 hM (fun σ1 r2 H locs hG hM => ?_)
  refine lv_if_ne (tgt := 10) hx hb dX11_lifts_5 (by decide) (fun c33 => ?_) (fun c33 => ?_)
  · have hM := b_else hM c33
    refine lv_iload_n hx hb dX11_lifts_10 rfl (lv_at hl 2 rfl) ?_
    refine lv_iconst (v := (1 : Int32)) hx hb dX11_lifts_11 (by decide) ?_
    refine lv_bipush (v := (9 : Int32)) hx hb dX11_lifts_12 (by decide) ?_
    refine g_callS_i (nA := 3) (o := M_X11_in σ1 p1 (1 : Int32) (9 : Int32)) (As := [.int p1, .int (1 : Int32), .int (9 : Int32)]) X.1 hG (fun _ _ h => C_X11_in l E h ) mw1182 mw1183 mw62 (gw_ok mw1184 rfl) (by decide +kernel) rfl ⟨Nat.le_of_ble_eq_true rfl, Nat.le_of_ble_eq_true rfl⟩ hl.1 rfl (Nat.le_of_ble_eq_true rfl) ⟨Nat.le_refl _, Nat.le_refl _⟩ dX11_lifts_14 hM (fun σ3 r4 H locs hG hM => ?_)
    refine lv_if_ne (tgt := 23) hx hb dX11_lifts_17 (by decide) (fun c32 => ?_) (fun c32 => ?_)
    · have hM := b_else hM c32
      refine lv_aload_n hx hb dX11_lifts_23 rfl (lv_at hl 0 rfl) ?_
      refine gt_11_0 X.1 hG hL mw1119 dX11_lifts_24 ?_
      refine lv_iconst (v := (1 : Int32)) hx hb dX11_lifts_27 (by decide) ?_
      refine g_ald X.1 hG (lf_11_0 hL) dX11_lifts_28 hM (fun q5 hM => ?_)
      refine lv_iconst (v := (3 : Int32)) hx hb dX11_lifts_29 (by decide) ?_
      refine lv_icmp_lt (tgt := 45) hx hb dX11_lifts_30 (by decide) (fun c31 => ?_) (fun c31 => ?_)
      · have hM := b_if hM c31
        refine lv_aload_n hx hb dX11_lifts_45 rfl (lv_at hl 0 rfl) ?_
        refine lv_iload_n hx hb dX11_lifts_46 rfl (lv_at hl 1 rfl) ?_
        refine lv_iconst (v := (4 : Int32)) hx hb dX11_lifts_47 (by decide) ?_
        refine g_callV_i (nA := 2) (o := M_X11_of σ3 k p0 (4 : Int32)) (As := [.int p0, .int (4 : Int32)]) X.1 hG hL rfl rfl (fun _ _ h => C_X11_of l E h hL) mw1242 mw1244 mw22 mw62 (gw_ok mw1245 rfl) (by decide +kernel) rfl ⟨Nat.le_of_ble_eq_true rfl, Nat.le_of_ble_eq_true rfl⟩ hl.1 rfl (Nat.le_of_ble_eq_true rfl) ⟨Nat.le_refl _, Nat.le_refl _⟩ dX11_lifts_48 hM (fun σ6 r7 H locs hG hM => ?_)
        refine lv_iload_n hx hb dX11_lifts_51 rfl (lv_at hl 2 rfl) ?_
        refine lv_iadd hx hb dX11_lifts_52 ?_
        refine lv_bipush (v := (9 : Int32)) hx hb dX11_lifts_53 (by decide) ?_
        refine lv_icmp_le (tgt := 71) hx hb dX11_lifts_55 (by decide) (fun c27 => ?_) (fun c27 => ?_)
        · have hM := b_if hM c27
          refine lv_iload_n hx hb dX11_lifts_71 rfl (lv_at hl 2 rfl) ?_
          refine lv_iload_n hx hb dX11_lifts_72 rfl (lv_at hl 1 rfl) ?_
          refine lv_iconst (v := (1 : Int32)) hx hb dX11_lifts_73 (by decide) ?_
          refine lv_iadd hx hb dX11_lifts_74 ?_
          refine lv_imul hx hb dX11_lifts_75 ?_
          refine g_name hM (fun v8 hM => ?_)
          refine lv_istore_n (lv' := [(3, .int v8), (0, .ref (E.1 k)), (1, .int p0), (2, .int p1)]) hx hb dX11_lifts_76 rfl hl (by decide) rfl (fun ls hl => ?_)
          refine lv_aload_n hx hb dX11_lifts_77 rfl (lv_at hl 1 rfl) ?_
          refine gt_11_0 X.1 hG hL mw1119 dX11_lifts_78 ?_
          refine lv_bipush (v := (7 : Int32)) hx hb dX11_lifts_81 (by decide) ?_
          refine g_ald X.1 hG (lf_11_0 hL) dX11_lifts_83 hM (fun q9 hM => ?_)
          refine lv_iload_n hx hb dX11_lifts_84 rfl (lv_at hl 0 rfl) ?_
          refine lv_icmp_ge (tgt := 102) hx hb dX11_lifts_85 (by decide) (fun c22 => ?_) (fun c22 => ?_)
          · have hM := b_if hM c22
            refine lv_aload_n hx hb dX11_lifts_102 rfl (lv_at hl 1 rfl) ?_
            refine gt_11_0 X.1 hG hL mw1119 dX11_lifts_103 ?_
            refine lv_bipush (v := (7 : Int32)) hx hb dX11_lifts_106 (by decide) ?_
            refine lv_dup2_11 hx hb dX11_lifts_108 rfl rfl ?_
            refine g_ald X.1 hG (lf_11_0 hL) dX11_lifts_109 hM (fun q10 hM => ?_)
            refine lv_iload_n hx hb dX11_lifts_110 rfl (lv_at hl 0 rfl) ?_
            refine lv_isub hx hb dX11_lifts_111 ?_
            refine g_ast X.1 hG (lf_11_0 hL) dX11_lifts_112 hM (fun σ11 H locs hG hM => ?_)
            refine lv_aload_n hx hb dX11_lifts_113 rfl (lv_at hl 1 rfl) ?_
            refine lv_iload_n hx hb dX11_lifts_114 rfl (lv_at hl 2 rfl) ?_
            refine lv_iconst (v := (4 : Int32)) hx hb dX11_lifts_115 (by decide) ?_
            refine lv_aload_n hx hb dX11_lifts_116 rfl (lv_at hl 1 rfl) ?_
            refine lv_iload_n hx hb dX11_lifts_117 rfl (lv_at hl 2 rfl) ?_
            refine lv_iconst (v := (4 : Int32)) hx hb dX11_lifts_118 (by decide) ?_
            refine g_callV_i (nA := 2) (o := M_X11_of σ11 k p0 (4 : Int32)) (As := [.int p0, .int (4 : Int32)]) X.1 hG hL rfl rfl (fun _ _ h => C_X11_of l E h hL) mw1242 mw1244 mw22 mw62 (gw_ok mw1245 rfl) (by decide +kernel) rfl ⟨Nat.le_of_ble_eq_true rfl, Nat.le_of_ble_eq_true rfl⟩ hl.1 rfl (Nat.le_of_ble_eq_true rfl) ⟨Nat.le_refl _, Nat.le_refl _⟩ dX11_lifts_119 hM (fun σ12 r13 H locs hG hM => ?_)
            refine lv_iload_n hx hb dX11_lifts_122 rfl (lv_at hl 3 rfl) ?_
            refine lv_iadd hx hb dX11_lifts_123 ?_
            refine g_callV_v (nA := 3) (o := M_X11_sets σ12 k p0 (4 : Int32) (r13 + p1)) (As := [.int p0, .int (4 : Int32), .int (r13 + p1)]) X.1 hG hL rfl rfl (fun _ _ h => C_X11_sets l E h hL) mw1218 mw1220 mw17 mw62 (gw_ok mw1221 rfl) (by decide +kernel) rfl ⟨Nat.le_of_ble_eq_true rfl, Nat.le_of_ble_eq_true rfl⟩ hl.1 rfl (Nat.le_of_ble_eq_true rfl) ⟨Nat.le_refl _, Nat.le_refl _⟩ dX11_lifts_124 hM (fun σ14 r15 H locs hG hM => ?_)
            refine lv_aload_n hx hb dX11_lifts_127 rfl (lv_at hl 1 rfl) ?_
            refine lv_aload_n hx hb dX11_lifts_128 rfl (lv_at hl 1 rfl) ?_
            refine gt_11_0 X.1 hG hL mw1119 dX11_lifts_129 ?_
            refine lv_bipush (v := (7 : Int32)) hx hb dX11_lifts_132 (by decide) ?_
            refine g_ald X.1 hG (lf_11_0 hL) dX11_lifts_134 hM (fun q16 hM => ?_)
            refine g_callV_i (nA := 1) (o := M_X11_does σ14 k q16) (As := [.int q16]) X.1 hG hL rfl rfl (fun _ _ h => C_X11_does l E h hL) mw1222 mw1224 mw18 mw62 (gw_ok mw1225 rfl) (by decide +kernel) rfl ⟨Nat.le_of_ble_eq_true rfl, Nat.le_of_ble_eq_true rfl⟩ hl.1 rfl (Nat.le_of_ble_eq_true rfl) ⟨Nat.le_refl _, Nat.le_refl _⟩ dX11_lifts_135 hM (fun σ17 r18 H locs hG hM => ?_)
            exact e_iret X hG dX11_lifts_138 hM
          · have hM := b_else hM c22
            refine lv_aload_n hx hb dX11_lifts_88 rfl (lv_at hl 1 rfl) ?_
            refine lv_bipush (v := (8 : Int32)) hx hb dX11_lifts_89 (by decide) ?_
            refine lv_aload_n hx hb dX11_lifts_91 rfl (lv_at hl 1 rfl) ?_
            refine gt_11_0 X.1 hG hL mw1119 dX11_lifts_92 ?_
            refine lv_bipush (v := (7 : Int32)) hx hb dX11_lifts_95 (by decide) ?_
            refine g_ald X.1 hG (lf_11_0 hL) dX11_lifts_97 hM (fun q19 hM => ?_)
            refine g_callV_i (nA := 2) (o := M_X11_refuses σ6 k (8 : Int32) q19) (As := [.int (8 : Int32), .int q19]) X.1 hG hL rfl rfl (fun _ _ h => C_X11_refuses l E h hL) mw1193 mw1195 mw13 mw62 (gw_ok mw1196 rfl) (by decide +kernel) rfl ⟨Nat.le_of_ble_eq_true rfl, Nat.le_of_ble_eq_true rfl⟩ hl.1 rfl (Nat.le_of_ble_eq_true rfl) ⟨Nat.le_refl _, Nat.le_refl _⟩ dX11_lifts_98 hM (fun σ20 r21 H locs hG hM => ?_)
            exact e_iret X hG dX11_lifts_101 hM
        · have hM := b_else hM c27
          refine lv_aload_n hx hb dX11_lifts_58 rfl (lv_at hl 0 rfl) ?_
          refine lv_bipush (v := (9 : Int32)) hx hb dX11_lifts_59 (by decide) ?_
          refine lv_aload_n hx hb dX11_lifts_61 rfl (lv_at hl 0 rfl) ?_
          refine lv_iload_n hx hb dX11_lifts_62 rfl (lv_at hl 1 rfl) ?_
          refine lv_iconst (v := (4 : Int32)) hx hb dX11_lifts_63 (by decide) ?_
          refine g_callV_i (nA := 2) (o := M_X11_of σ6 k p0 (4 : Int32)) (As := [.int p0, .int (4 : Int32)]) X.1 hG hL rfl rfl (fun _ _ h => C_X11_of l E h hL) mw1242 mw1244 mw22 mw62 (gw_ok mw1245 rfl) (by decide +kernel) rfl ⟨Nat.le_of_ble_eq_true rfl, Nat.le_of_ble_eq_true rfl⟩ hl.1 rfl (Nat.le_of_ble_eq_true rfl) ⟨Nat.le_refl _, Nat.le_refl _⟩ dX11_lifts_64 hM (fun σ23 r24 H locs hG hM => ?_)
          refine g_callV_i (nA := 2) (o := M_X11_refuses σ23 k (9 : Int32) r24) (As := [.int (9 : Int32), .int r24]) X.1 hG hL rfl rfl (fun _ _ h => C_X11_refuses l E h hL) mw1193 mw1195 mw13 mw62 (gw_ok mw1196 rfl) (by decide +kernel) rfl ⟨Nat.le_of_ble_eq_true rfl, Nat.le_of_ble_eq_true rfl⟩ hl.1 rfl (Nat.le_of_ble_eq_true rfl) ⟨Nat.le_refl _, Nat.le_refl _⟩ dX11_lifts_67 hM (fun σ25 r26 H locs hG hM => ?_)
          exact e_iret X hG dX11_lifts_70 hM
      · have hM := b_else hM c31
        refine lv_aload_n hx hb dX11_lifts_33 rfl (lv_at hl 0 rfl) ?_
        refine lv_iconst (v := (4 : Int32)) hx hb dX11_lifts_34 (by decide) ?_
        refine lv_aload_n hx hb dX11_lifts_35 rfl (lv_at hl 0 rfl) ?_
        refine gt_11_0 X.1 hG hL mw1119 dX11_lifts_36 ?_
        refine lv_iconst (v := (1 : Int32)) hx hb dX11_lifts_39 (by decide) ?_
        refine g_ald X.1 hG (lf_11_0 hL) dX11_lifts_40 hM (fun q28 hM => ?_)
        refine g_callV_i (nA := 2) (o := M_X11_refuses σ3 k (4 : Int32) q28) (As := [.int (4 : Int32), .int q28]) X.1 hG hL rfl rfl (fun _ _ h => C_X11_refuses l E h hL) mw1193 mw1195 mw13 mw62 (gw_ok mw1196 rfl) (by decide +kernel) rfl ⟨Nat.le_of_ble_eq_true rfl, Nat.le_of_ble_eq_true rfl⟩ hl.1 rfl (Nat.le_of_ble_eq_true rfl) ⟨Nat.le_refl _, Nat.le_refl _⟩ dX11_lifts_41 hM (fun σ29 r30 H locs hG hM => ?_)
        exact e_iret X hG dX11_lifts_44 hM
    · have hM := b_if hM c32
      refine lv_bipush (v := (-2 : Int32)) hx hb dX11_lifts_20 (by decide) ?_
      exact e_iret X hG dX11_lifts_22 hM
  · have hM := b_if hM c33
    refine lv_iconst (v := (-1 : Int32)) hx hb dX11_lifts_8 (by decide) ?_
    exact e_iret X hG dX11_lifts_9 hM
def M_X11_lift (σ : St) (k : Nat) (p0 p1 : Int32) : Option (St × Int32) := bcall (M_X11_tries σ k) fun σ1 r2 => bcall (M_X11_lifts σ1 k p0 p1) fun σ3 r4 => bcall (M_X11_ends σ3 k r4) fun σ5 r6 => some (σ5, r6)
set_option maxRecDepth 20000 in
set_option maxHeartbeats 4000000 in
theorem C_X11_lift (l : Launch) (E : Ev) {σ σ' : St} {k : Nat} {p0 : Int32} {p1 : Int32} {r : Int32} (h : M_X11_lift σ k p0 p1 = some (σ', r)) (hL : lay 11 k) : Mi l E yX11_lift cX11_lift 3 (some .int) 4 [.ref (E.1 k), .int p0, .int p1] σ σ' r := by
  refine Mi_of (C := RX11) rfl (by decide) (Nat.le_of_ble_eq_true rfl) (z := (σ', r)) (fun p e s m below meth c ls X hG hl => ?_)
  have hx := X.1.1.1
  have hb := X.1.1.2.1
  have hM := h
  unfold M_X11_lift at hM
  generalize (σ', r) = z at hM ⊢
  have hl : lv_has ls 3 [(0, .ref (E.1 k)), (1, .int p0), (2, .int p1)] := hl
  refine lv_aload_n hx hb dX11_lift_0 rfl (lv_at hl 0 rfl) ?_
  refine g_callV_v (nA := 0) (o := M_X11_tries σ k) (As := []) X.1 hG hL rfl rfl (fun _ _ h => C_X11_tries l E h hL) mw1189 mw1191 mw12 mw62 (gw_ok mw1192 rfl) (by decide +kernel) rfl ⟨Nat.le_of_ble_eq_true rfl, Nat.le_of_ble_eq_true rfl⟩ hl.1 rfl (Nat.le_of_ble_eq_true rfl) ⟨Nat.le_refl _, Nat.le_refl _⟩ dX11_lift_1 hM (fun σ1 r2 H locs hG hM => ?_)
  refine lv_aload_n hx hb dX11_lift_4 rfl (lv_at hl 0 rfl) ?_
  refine lv_aload_n hx hb dX11_lift_5 rfl (lv_at hl 0 rfl) ?_
  refine lv_iload_n hx hb dX11_lift_6 rfl (lv_at hl 1 rfl) ?_
  refine lv_iload_n hx hb dX11_lift_7 rfl (lv_at hl 2 rfl) ?_
  refine g_callV_i (nA := 2) (o := M_X11_lifts σ1 k p0 p1) (As := [.int p0, .int p1]) X.1 hG hL rfl rfl (fun _ _ h => C_X11_lifts l E h hL) mw1291 mw1293 mw30 mw62 (gw_ok mw1294 rfl) (by decide +kernel) rfl ⟨Nat.le_of_ble_eq_true rfl, Nat.le_of_ble_eq_true rfl⟩ hl.1 rfl (Nat.le_of_ble_eq_true rfl) ⟨Nat.le_refl _, Nat.le_refl _⟩ dX11_lift_8 hM (fun σ3 r4 H locs hG hM => ?_)
  refine g_callV_i (nA := 1) (o := M_X11_ends σ3 k r4) (As := [.int r4]) X.1 hG hL rfl rfl (fun _ _ h => C_X11_ends l E h hL) mw1226 mw1228 mw19 mw62 (gw_ok mw1229 rfl) (by decide +kernel) rfl ⟨Nat.le_of_ble_eq_true rfl, Nat.le_of_ble_eq_true rfl⟩ hl.1 rfl (Nat.le_of_ble_eq_true rfl) ⟨Nat.le_refl _, Nat.le_refl _⟩ dX11_lift_11 hM (fun σ5 r6 H locs hG hM => ?_)
  exact e_iret X hG dX11_lift_14 hM
def B_X11_signals_29  : Nat → St → Nat → Int32 → Int32 → Int32 → Option (St × Int32)
  | 0, _, _, _, _, _ => none
  | n + 1, σ, k, x1, x2, x3 => bald σ (k + 1) (4 : Int32) fun q5 => if q5 ≤ x3 then (bcall (M_X11_does σ k x2) fun σ6 r7 => some (σ6, r7)) else (if x1 < (3 : Int32) then (bcall (M_X11_does σ k x2) fun σ8 r9 => some (σ8, r9)) else (bast σ (k + 1) (((90 : Int32) + ((3 : Int32) * x3)) + (1 : Int32)) (0 : Int32) fun σ10 => blet (x3 + (1 : Int32)) fun v11 => B_X11_signals_29 n σ10 k x1 x2 v11))
def M_X11_signals (σ : St) (k : Nat) (p0 : Int32) : Option (St × Int32) := bcall (M_X11_in σ p0 (0 : Int32) (10 : Int32)) fun σ1 r2 => if r2 = 0 then some (σ1, (-2 : Int32)) else (bald σ1 (k + 1) (1 : Int32) fun q3 => bast σ1 (k + 1) (1 : Int32) p0 fun σ4 => B_X11_signals_29 FU σ4 k p0 q3 (0 : Int32))
set_option maxRecDepth 20000 in
set_option maxHeartbeats 4000000 in
theorem w_X11_signals_29 {p : Program} {l : Launch} {e : Env} {s : State} {m : MethodId} {below : List Frame} {meth : Method} {c : Code} {args : Array Value} {E : Ev} {k : Nat} (X : Bx E p m meth c cX11_signals 4 (some .int) s args RX11) (hL : lay 11 k) : ∀ (n : Nat) (σ : St) (x1 x2 x3 : Int32) (H : Heap) (locs : List Loc) (ls : Array Slot) (z : St × Int32), GS E σ s.heap H locs → lv_has ls 4 [(0, .ref (E.1 k)), (1, .int x1), (2, .int x2), (3, .int x3)] → B_X11_signals_29 n σ k x1 x2 x3 = some z → W p l e (rmd 2) s m args below meth c H locs 0 0 (QI E z below args s) (F0 m 29 ls []) := by
  have hx := X.1.1.1
  have hb := X.1.1.2.1
  intro n
  induction n with
  | zero => intro σ x1 x2 x3 H locs ls z  hG hl hM; cases hM
  | succ n ih =>
    intro σ x1 x2 x3 H locs ls z  hG hl hM
    unfold B_X11_signals_29 at hM
    refine lv_iload_n hx hb dX11_signals_29 rfl (lv_at hl 3 rfl) ?_
    refine lv_aload_n hx hb dX11_signals_30 rfl (lv_at hl 0 rfl) ?_
    refine gt_11_0 X.1 hG hL mw1119 dX11_signals_31 ?_
    refine lv_iconst (v := (4 : Int32)) hx hb dX11_signals_34 (by decide) ?_
    refine g_ald X.1 hG (lf_11_0 hL) dX11_signals_35 hM (fun q5 hM => ?_)
    refine lv_icmp_ge (tgt := 64) hx hb dX11_signals_36 (by decide) (fun c13 => ?_) (fun c13 => ?_)
    · have hM := b_if hM c13
      refine lv_aload_n hx hb dX11_signals_64 rfl (lv_at hl 0 rfl) ?_
      refine lv_iload_n hx hb dX11_signals_65 rfl (lv_at hl 2 rfl) ?_
      refine g_callV_i (nA := 1) (o := M_X11_does σ k x2) (As := [.int x2]) X.1 hG hL rfl rfl (fun _ _ h => C_X11_does l E h hL) mw1222 mw1224 mw18 mw62 (gw_ok mw1225 rfl) (by decide +kernel) rfl ⟨Nat.le_of_ble_eq_true rfl, Nat.le_of_ble_eq_true rfl⟩ hl.1 rfl (Nat.le_of_ble_eq_true rfl) ⟨Nat.le_refl _, Nat.le_refl _⟩ dX11_signals_66 hM (fun σ6 r7 H locs hG hM => ?_)
      exact e_iret X hG dX11_signals_69 hM
    · have hM := b_else hM c13
      refine lv_iload_n hx hb dX11_signals_39 rfl (lv_at hl 1 rfl) ?_
      refine lv_iconst (v := (3 : Int32)) hx hb dX11_signals_40 (by decide) ?_
      refine lv_icmp_lt (tgt := 64) hx hb dX11_signals_41 (by decide) (fun c12 => ?_) (fun c12 => ?_)
      · have hM := b_if hM c12
        refine lv_aload_n hx hb dX11_signals_64 rfl (lv_at hl 0 rfl) ?_
        refine lv_iload_n hx hb dX11_signals_65 rfl (lv_at hl 2 rfl) ?_
        refine g_callV_i (nA := 1) (o := M_X11_does σ k x2) (As := [.int x2]) X.1 hG hL rfl rfl (fun _ _ h => C_X11_does l E h hL) mw1222 mw1224 mw18 mw62 (gw_ok mw1225 rfl) (by decide +kernel) rfl ⟨Nat.le_of_ble_eq_true rfl, Nat.le_of_ble_eq_true rfl⟩ hl.1 rfl (Nat.le_of_ble_eq_true rfl) ⟨Nat.le_refl _, Nat.le_refl _⟩ dX11_signals_66 hM (fun σ8 r9 H locs hG hM => ?_)
        exact e_iret X hG dX11_signals_69 hM
      · have hM := b_else hM c12
        refine lv_aload_n hx hb dX11_signals_44 rfl (lv_at hl 0 rfl) ?_
        refine gt_11_0 X.1 hG hL mw1119 dX11_signals_45 ?_
        refine lv_bipush (v := (90 : Int32)) hx hb dX11_signals_48 (by decide) ?_
        refine lv_iconst (v := (3 : Int32)) hx hb dX11_signals_50 (by decide) ?_
        refine lv_iload_n hx hb dX11_signals_51 rfl (lv_at hl 3 rfl) ?_
        refine lv_imul hx hb dX11_signals_52 ?_
        refine lv_iadd hx hb dX11_signals_53 ?_
        refine lv_iconst (v := (1 : Int32)) hx hb dX11_signals_54 (by decide) ?_
        refine lv_iadd hx hb dX11_signals_55 ?_
        refine lv_iconst (v := (0 : Int32)) hx hb dX11_signals_56 (by decide) ?_
        refine g_ast X.1 hG (lf_11_0 hL) dX11_signals_57 hM (fun σ10 H locs hG hM => ?_)
        obtain ⟨v11, ev11, hM⟩ := g_nm hM
        refine lv_iinc (v := v11) (lv' := [(3, .int v11), (0, .ref (E.1 k)), (1, .int x1), (2, .int x2)]) hx hb dX11_signals_58 hl (k := 3) rfl (by rw [ev11]; rfl) (by decide) rfl (fun ls hl => ?_)
        refine lv_goto (tgt := 29) hx hb dX11_signals_61 (by decide) ?_
        exact ih σ10 x1 x2 v11 _ _ _ z hG (lv_sub hl [1, 2, 3, 0] rfl) hM
set_option maxRecDepth 20000 in
set_option maxHeartbeats 4000000 in
theorem C_X11_signals (l : Launch) (E : Ev) {σ σ' : St} {k : Nat} {p0 : Int32} {r : Int32} (h : M_X11_signals σ k p0 = some (σ', r)) (hL : lay 11 k) : Mi l E yX11_signals cX11_signals 4 (some .int) 2 [.ref (E.1 k), .int p0] σ σ' r := by
  refine Mi_of (C := RX11) rfl (by decide) (Nat.le_of_ble_eq_true rfl) (z := (σ', r)) (fun p e s m below meth c ls X hG hl => ?_)
  have hx := X.1.1.1
  have hb := X.1.1.2.1
  have hM := h
  unfold M_X11_signals at hM
  generalize (σ', r) = z at hM ⊢
  have hl : lv_has ls 4 [(0, .ref (E.1 k)), (1, .int p0)] := hl
  refine lv_iload_n hx hb dX11_signals_0 rfl (lv_at hl 1 rfl) ?_
  refine lv_iconst (v := (0 : Int32)) hx hb dX11_signals_1 (by decide) ?_
  refine lv_bipush (v := (10 : Int32)) hx hb dX11_signals_2 (by decide) ?_
  refine g_callS_i (nA := 3) (o := M_X11_in σ p0 (0 : Int32) (10 : Int32)) (As := [.int p0, .int (0 : Int32), .int (10 : Int32)]) X.1 hG (fun _ _ h => C_X11_in l E h ) mw1182 mw1183 mw62 (gw_ok mw1184 rfl) (by decide +kernel) rfl ⟨Nat.le_of_ble_eq_true rfl, Nat.le_of_ble_eq_true rfl⟩ hl.1 rfl (Nat.le_of_ble_eq_true rfl) ⟨Nat.le_refl _, Nat.le_refl _⟩ dX11_signals_4 hM (fun σ1 r2 H locs hG hM => ?_)
  refine lv_if_ne (tgt := 13) hx hb dX11_signals_7 (by decide) (fun c14 => ?_) (fun c14 => ?_)
  · have hM := b_else hM c14
    refine lv_aload_n hx hb dX11_signals_13 rfl (lv_at hl 0 rfl) ?_
    refine gt_11_0 X.1 hG hL mw1119 dX11_signals_14 ?_
    refine lv_iconst (v := (1 : Int32)) hx hb dX11_signals_17 (by decide) ?_
    refine g_ald X.1 hG (lf_11_0 hL) dX11_signals_18 hM (fun q3 hM => ?_)
    refine lv_istore_n (lv' := [(2, .int q3), (0, .ref (E.1 k)), (1, .int p0)]) hx hb dX11_signals_19 rfl hl (by decide) rfl (fun ls hl => ?_)
    refine lv_aload_n hx hb dX11_signals_20 rfl (lv_at hl 1 rfl) ?_
    refine gt_11_0 X.1 hG hL mw1119 dX11_signals_21 ?_
    refine lv_iconst (v := (1 : Int32)) hx hb dX11_signals_24 (by decide) ?_
    refine lv_iload_n hx hb dX11_signals_25 rfl (lv_at hl 2 rfl) ?_
    refine g_ast X.1 hG (lf_11_0 hL) dX11_signals_26 hM (fun σ4 H locs hG hM => ?_)
    refine lv_iconst (v := (0 : Int32)) hx hb dX11_signals_27 (by decide) ?_
    refine lv_istore_n (lv' := [(3, .int (0 : Int32)), (2, .int q3), (0, .ref (E.1 k)), (1, .int p0)]) hx hb dX11_signals_28 rfl hl (by decide) rfl (fun ls hl => ?_)
    exact w_X11_signals_29 X hL FU σ4 p0 q3 (0 : Int32) _ _ _ z hG (lv_sub hl [2, 3, 1, 0] rfl) hM
  · have hM := b_if hM c14
    refine lv_bipush (v := (-2 : Int32)) hx hb dX11_signals_10 (by decide) ?_
    exact e_iret X hG dX11_signals_12 hM
def M_X11_signal (σ : St) (k : Nat) (p0 : Int32) : Option (St × Int32) := bcall (M_X11_tries σ k) fun σ1 r2 => bcall (M_X11_signals σ1 k p0) fun σ3 r4 => bcall (M_X11_ends σ3 k r4) fun σ5 r6 => some (σ5, r6)
set_option maxRecDepth 20000 in
set_option maxHeartbeats 4000000 in
theorem C_X11_signal (l : Launch) (E : Ev) {σ σ' : St} {k : Nat} {p0 : Int32} {r : Int32} (h : M_X11_signal σ k p0 = some (σ', r)) (hL : lay 11 k) : Mi l E yX11_signal cX11_signal 2 (some .int) 3 [.ref (E.1 k), .int p0] σ σ' r := by
  refine Mi_of (C := RX11) rfl (by decide) (Nat.le_of_ble_eq_true rfl) (z := (σ', r)) (fun p e s m below meth c ls X hG hl => ?_)
  have hx := X.1.1.1
  have hb := X.1.1.2.1
  have hM := h
  unfold M_X11_signal at hM
  generalize (σ', r) = z at hM ⊢
  have hl : lv_has ls 2 [(0, .ref (E.1 k)), (1, .int p0)] := hl
  refine lv_aload_n hx hb dX11_signal_0 rfl (lv_at hl 0 rfl) ?_
  refine g_callV_v (nA := 0) (o := M_X11_tries σ k) (As := []) X.1 hG hL rfl rfl (fun _ _ h => C_X11_tries l E h hL) mw1189 mw1191 mw12 mw62 (gw_ok mw1192 rfl) (by decide +kernel) rfl ⟨Nat.le_of_ble_eq_true rfl, Nat.le_of_ble_eq_true rfl⟩ hl.1 rfl (Nat.le_of_ble_eq_true rfl) ⟨Nat.le_refl _, Nat.le_refl _⟩ dX11_signal_1 hM (fun σ1 r2 H locs hG hM => ?_)
  refine lv_aload_n hx hb dX11_signal_4 rfl (lv_at hl 0 rfl) ?_
  refine lv_aload_n hx hb dX11_signal_5 rfl (lv_at hl 0 rfl) ?_
  refine lv_iload_n hx hb dX11_signal_6 rfl (lv_at hl 1 rfl) ?_
  refine g_callV_i (nA := 1) (o := M_X11_signals σ1 k p0) (As := [.int p0]) X.1 hG hL rfl rfl (fun _ _ h => C_X11_signals l E h hL) mw1299 mw1301 mw31 mw62 (gw_ok mw1302 rfl) (by decide +kernel) rfl ⟨Nat.le_of_ble_eq_true rfl, Nat.le_of_ble_eq_true rfl⟩ hl.1 rfl (Nat.le_of_ble_eq_true rfl) ⟨Nat.le_refl _, Nat.le_refl _⟩ dX11_signal_7 hM (fun σ3 r4 H locs hG hM => ?_)
  refine g_callV_i (nA := 1) (o := M_X11_ends σ3 k r4) (As := [.int r4]) X.1 hG hL rfl rfl (fun _ _ h => C_X11_ends l E h hL) mw1226 mw1228 mw19 mw62 (gw_ok mw1229 rfl) (by decide +kernel) rfl ⟨Nat.le_of_ble_eq_true rfl, Nat.le_of_ble_eq_true rfl⟩ hl.1 rfl (Nat.le_of_ble_eq_true rfl) ⟨Nat.le_refl _, Nat.le_refl _⟩ dX11_signal_10 hM (fun σ5 r6 H locs hG hM => ?_)
  exact e_iret X hG dX11_signal_13 hM
def M_X11_inspector (σ : St) (k : Nat) (p0 : Int32) : Option (St × Int32) := bcall (M_X11_tries σ k) fun σ1 r2 => bcall (M_X11_in σ1 p0 (1 : Int32) (9 : Int32)) fun σ3 r4 => if r4 = 0 then some (σ3, (-2 : Int32)) else (bald σ3 (k + 1) (5 : Int32) fun q5 => if q5 = (3 : Int32) then (bcall (M_X11_refuses σ3 k (1 : Int32) (3 : Int32)) fun σ12 r13 => some (σ12, r13)) else (bald σ3 (k + 1) (5 : Int32) fun q6 => bast σ3 (k + 1) (5 : Int32) (q6 + (1 : Int32)) fun σ7 => bast σ7 (k + 1) ((105 : Int32) + ((2 : Int32) * q5)) p0 fun σ8 => bast σ8 (k + 1) (((105 : Int32) + ((2 : Int32) * q5)) + (1 : Int32)) (0 : Int32) fun σ9 => bcall (M_X11_keeps σ9 k q5) fun σ10 r11 => some (σ10, r11)))
set_option maxRecDepth 20000 in
set_option maxHeartbeats 4000000 in
theorem C_X11_inspector (l : Launch) (E : Ev) {σ σ' : St} {k : Nat} {p0 : Int32} {r : Int32} (h : M_X11_inspector σ k p0 = some (σ', r)) (hL : lay 11 k) : Mi l E yX11_inspector cX11_inspector 3 (some .int) 2 [.ref (E.1 k), .int p0] σ σ' r := by
  refine Mi_of (C := RX11) rfl (by decide) (Nat.le_of_ble_eq_true rfl) (z := (σ', r)) (fun p e s m below meth c ls X hG hl => ?_)
  have hx := X.1.1.1
  have hb := X.1.1.2.1
  have hM := h
  unfold M_X11_inspector at hM
  generalize (σ', r) = z at hM ⊢
  have hl : lv_has ls 3 [(0, .ref (E.1 k)), (1, .int p0)] := hl
  refine lv_aload_n hx hb dX11_inspector_0 rfl (lv_at hl 0 rfl) ?_
  refine g_callV_v (nA := 0) (o := M_X11_tries σ k) (As := []) X.1 hG hL rfl rfl (fun _ _ h => C_X11_tries l E h hL) mw1189 mw1191 mw12 mw62 (gw_ok mw1192 rfl) (by decide +kernel) rfl ⟨Nat.le_of_ble_eq_true rfl, Nat.le_of_ble_eq_true rfl⟩ hl.1 rfl (Nat.le_of_ble_eq_true rfl) ⟨Nat.le_refl _, Nat.le_refl _⟩ dX11_inspector_1 hM (fun σ1 r2 H locs hG hM => ?_)
  refine lv_iload_n hx hb dX11_inspector_4 rfl (lv_at hl 1 rfl) ?_
  refine lv_iconst (v := (1 : Int32)) hx hb dX11_inspector_5 (by decide) ?_
  refine lv_bipush (v := (9 : Int32)) hx hb dX11_inspector_6 (by decide) ?_
  refine g_callS_i (nA := 3) (o := M_X11_in σ1 p0 (1 : Int32) (9 : Int32)) (As := [.int p0, .int (1 : Int32), .int (9 : Int32)]) X.1 hG (fun _ _ h => C_X11_in l E h ) mw1182 mw1183 mw62 (gw_ok mw1184 rfl) (by decide +kernel) rfl ⟨Nat.le_of_ble_eq_true rfl, Nat.le_of_ble_eq_true rfl⟩ hl.1 rfl (Nat.le_of_ble_eq_true rfl) ⟨Nat.le_refl _, Nat.le_refl _⟩ dX11_inspector_8 hM (fun σ3 r4 H locs hG hM => ?_)
  refine lv_if_ne (tgt := 17) hx hb dX11_inspector_11 (by decide) (fun c15 => ?_) (fun c15 => ?_)
  · have hM := b_else hM c15
    refine lv_aload_n hx hb dX11_inspector_17 rfl (lv_at hl 0 rfl) ?_
    refine gt_11_0 X.1 hG hL mw1119 dX11_inspector_18 ?_
    refine lv_iconst (v := (5 : Int32)) hx hb dX11_inspector_21 (by decide) ?_
    refine g_ald X.1 hG (lf_11_0 hL) dX11_inspector_22 hM (fun q5 hM => ?_)
    refine lv_istore_n (lv' := [(2, .int q5), (0, .ref (E.1 k)), (1, .int p0)]) hx hb dX11_inspector_23 rfl hl (by decide) rfl (fun ls hl => ?_)
    refine lv_iload_n hx hb dX11_inspector_24 rfl (lv_at hl 0 rfl) ?_
    refine lv_iconst (v := (3 : Int32)) hx hb dX11_inspector_25 (by decide) ?_
    refine lv_icmp_ne (tgt := 36) hx hb dX11_inspector_26 (by decide) (fun c14 => ?_) (fun c14 => ?_)
    · have hM := b_else hM c14
      refine lv_aload_n hx hb dX11_inspector_36 rfl (lv_at hl 1 rfl) ?_
      refine gt_11_0 X.1 hG hL mw1119 dX11_inspector_37 ?_
      refine lv_iconst (v := (5 : Int32)) hx hb dX11_inspector_40 (by decide) ?_
      refine lv_dup2_11 hx hb dX11_inspector_41 rfl rfl ?_
      refine g_ald X.1 hG (lf_11_0 hL) dX11_inspector_42 hM (fun q6 hM => ?_)
      refine lv_iconst (v := (1 : Int32)) hx hb dX11_inspector_43 (by decide) ?_
      refine lv_iadd hx hb dX11_inspector_44 ?_
      refine g_ast X.1 hG (lf_11_0 hL) dX11_inspector_45 hM (fun σ7 H locs hG hM => ?_)
      refine lv_aload_n hx hb dX11_inspector_46 rfl (lv_at hl 1 rfl) ?_
      refine gt_11_0 X.1 hG hL mw1119 dX11_inspector_47 ?_
      refine lv_bipush (v := (105 : Int32)) hx hb dX11_inspector_50 (by decide) ?_
      refine lv_iconst (v := (2 : Int32)) hx hb dX11_inspector_52 (by decide) ?_
      refine lv_iload_n hx hb dX11_inspector_53 rfl (lv_at hl 0 rfl) ?_
      refine lv_imul hx hb dX11_inspector_54 ?_
      refine lv_iadd hx hb dX11_inspector_55 ?_
      refine lv_iload_n hx hb dX11_inspector_56 rfl (lv_at hl 2 rfl) ?_
      refine g_ast X.1 hG (lf_11_0 hL) dX11_inspector_57 hM (fun σ8 H locs hG hM => ?_)
      refine lv_aload_n hx hb dX11_inspector_58 rfl (lv_at hl 1 rfl) ?_
      refine gt_11_0 X.1 hG hL mw1119 dX11_inspector_59 ?_
      refine lv_bipush (v := (105 : Int32)) hx hb dX11_inspector_62 (by decide) ?_
      refine lv_iconst (v := (2 : Int32)) hx hb dX11_inspector_64 (by decide) ?_
      refine lv_iload_n hx hb dX11_inspector_65 rfl (lv_at hl 0 rfl) ?_
      refine lv_imul hx hb dX11_inspector_66 ?_
      refine lv_iadd hx hb dX11_inspector_67 ?_
      refine lv_iconst (v := (1 : Int32)) hx hb dX11_inspector_68 (by decide) ?_
      refine lv_iadd hx hb dX11_inspector_69 ?_
      refine lv_iconst (v := (0 : Int32)) hx hb dX11_inspector_70 (by decide) ?_
      refine g_ast X.1 hG (lf_11_0 hL) dX11_inspector_71 hM (fun σ9 H locs hG hM => ?_)
      refine lv_aload_n hx hb dX11_inspector_72 rfl (lv_at hl 1 rfl) ?_
      refine lv_iload_n hx hb dX11_inspector_73 rfl (lv_at hl 0 rfl) ?_
      refine g_callV_i (nA := 1) (o := M_X11_keeps σ9 k q5) (As := [.int q5]) X.1 hG hL rfl rfl (fun _ _ h => C_X11_keeps l E h hL) mw1197 mw1199 mw14 mw62 (gw_ok mw1200 rfl) (by decide +kernel) rfl ⟨Nat.le_of_ble_eq_true rfl, Nat.le_of_ble_eq_true rfl⟩ hl.1 rfl (Nat.le_of_ble_eq_true rfl) ⟨Nat.le_refl _, Nat.le_refl _⟩ dX11_inspector_74 hM (fun σ10 r11 H locs hG hM => ?_)
      exact e_iret X hG dX11_inspector_77 hM
    · have hM := b_if hM c14
      refine lv_aload_n hx hb dX11_inspector_29 rfl (lv_at hl 1 rfl) ?_
      refine lv_iconst (v := (1 : Int32)) hx hb dX11_inspector_30 (by decide) ?_
      refine lv_iconst (v := (3 : Int32)) hx hb dX11_inspector_31 (by decide) ?_
      refine g_callV_i (nA := 2) (o := M_X11_refuses σ3 k (1 : Int32) (3 : Int32)) (As := [.int (1 : Int32), .int (3 : Int32)]) X.1 hG hL rfl rfl (fun _ _ h => C_X11_refuses l E h hL) mw1193 mw1195 mw13 mw62 (gw_ok mw1196 rfl) (by decide +kernel) rfl ⟨Nat.le_of_ble_eq_true rfl, Nat.le_of_ble_eq_true rfl⟩ hl.1 rfl (Nat.le_of_ble_eq_true rfl) ⟨Nat.le_refl _, Nat.le_refl _⟩ dX11_inspector_32 hM (fun σ12 r13 H locs hG hM => ?_)
      exact e_iret X hG dX11_inspector_35 hM
  · have hM := b_if hM c15
    refine lv_bipush (v := (-2 : Int32)) hx hb dX11_inspector_14 (by decide) ?_
    exact e_iret X hG dX11_inspector_16 hM
def B_X11_inspects_120  : Nat → St → Nat → Int32 → Int32 → Option (St × Int32)
  | 0, _, _, _, _ => none
  | n + 1, σ, k, x2, x4 => bald σ (k + 1) (4 : Int32) fun q19 => if q19 ≤ x4 then (bcall (M_X11_does σ k (1 : Int32)) fun σ20 r21 => some (σ20, r21)) else (bcall (M_X11_where σ k x4) fun σ22 r23 => if r23 = x2 then (bast σ22 (k + 1) (((90 : Int32) + ((3 : Int32) * x4)) + (1 : Int32)) (0 : Int32) fun σ25 => blet (x4 + (1 : Int32)) fun v26 => B_X11_inspects_120 n σ25 k x2 v26) else (blet (x4 + (1 : Int32)) fun v24 => B_X11_inspects_120 n σ22 k x2 v24))
def M_X11_inspects (σ : St) (k : Nat) (p0 p1 : Int32) : Option (St × Int32) := bcall (M_X11_isInspector σ k p0) fun σ1 r2 => if r2 = 0 then some (σ1, (-1 : Int32)) else (bcall (M_X11_isStorey σ1 k p1) fun σ3 r4 => if r4 = 0 then some (σ3, (-1 : Int32)) else (bald σ3 (k + 1) (1 : Int32) fun q5 => if q5 < (3 : Int32) then (bald σ3 (k + 1) ((105 : Int32) + ((2 : Int32) * p0)) fun q6 => bcall (M_X11_of σ3 k p1 (2 : Int32)) fun σ7 r8 => if (20 : Int32) < (r8 + q6) then (bald σ7 (k + 1) (((105 : Int32) + ((2 : Int32) * p0)) + (1 : Int32)) fun q9 => bast σ7 (k + 1) (((105 : Int32) + ((2 : Int32) * p0)) + (1 : Int32)) (q9 + (1 : Int32)) fun σ10 => bald σ10 (k + 1) (8 : Int32) fun q11 => bast σ10 (k + 1) (8 : Int32) (q11 + q6) fun σ12 => bcall (M_X11_of σ12 k p1 (5 : Int32)) fun σ13 r14 => if r14 = 0 then (bcall (M_X11_sets σ13 k p1 (5 : Int32) (p0 + (1 : Int32))) fun σ17 r18 => B_X11_inspects_120 FU σ17 k p1 (0 : Int32)) else (bcall (M_X11_does σ13 k (1 : Int32)) fun σ15 r16 => some (σ15, r16))) else (bcall (M_X11_does σ7 k (0 : Int32)) fun σ30 r31 => some (σ30, r31))) else (bald σ3 (k + 1) (1 : Int32) fun q33 => bcall (M_X11_refuses σ3 k (4 : Int32) q33) fun σ34 r35 => some (σ34, r35))))
set_option maxRecDepth 20000 in
set_option maxHeartbeats 4000000 in
theorem w_X11_inspects_120 {p : Program} {l : Launch} {e : Env} {s : State} {m : MethodId} {below : List Frame} {meth : Method} {c : Code} {args : Array Value} {E : Ev} {k : Nat} (X : Bx E p m meth c cX11_inspects 5 (some .int) s args RX11) (hL : lay 11 k) : ∀ (n : Nat) (σ : St) (x2 x4 : Int32) (H : Heap) (locs : List Loc) (ls : Array Slot) (z : St × Int32), GS E σ s.heap H locs → lv_has ls 5 [(0, .ref (E.1 k)), (2, .int x2), (4, .int x4)] → B_X11_inspects_120 n σ k x2 x4 = some z → W p l e (rmd 3) s m args below meth c H locs 0 0 (QI E z below args s) (F0 m 120 ls []) := by
  have hx := X.1.1.1
  have hb := X.1.1.2.1
  intro n
  induction n with
  | zero => intro σ x2 x4 H locs ls z  hG hl hM; cases hM
  | succ n ih =>
    intro σ x2 x4 H locs ls z  hG hl hM
    unfold B_X11_inspects_120 at hM
    refine lv_iload hx hb dX11_inspects_120 (lv_at hl 2 rfl) ?_
    refine lv_aload_n hx hb dX11_inspects_122 rfl (lv_at hl 0 rfl) ?_
    refine gt_11_0 X.1 hG hL mw1119 dX11_inspects_123 ?_
    refine lv_iconst (v := (4 : Int32)) hx hb dX11_inspects_126 (by decide) ?_
    refine g_ald X.1 hG (lf_11_0 hL) dX11_inspects_127 hM (fun q19 hM => ?_)
    refine lv_icmp_ge (tgt := 162) hx hb dX11_inspects_128 (by decide) (fun c28 => ?_) (fun c28 => ?_)
    · have hM := b_if hM c28
      refine lv_aload_n hx hb dX11_inspects_162 rfl (lv_at hl 0 rfl) ?_
      refine lv_iconst (v := (1 : Int32)) hx hb dX11_inspects_163 (by decide) ?_
      refine g_callV_i (nA := 1) (o := M_X11_does σ k (1 : Int32)) (As := [.int (1 : Int32)]) X.1 hG hL rfl rfl (fun _ _ h => C_X11_does l E h hL) mw1222 mw1224 mw18 mw62 (gw_ok mw1225 rfl) (by decide +kernel) rfl ⟨Nat.le_of_ble_eq_true rfl, Nat.le_of_ble_eq_true rfl⟩ hl.1 rfl (Nat.le_of_ble_eq_true rfl) ⟨Nat.le_refl _, Nat.le_refl _⟩ dX11_inspects_164 hM (fun σ20 r21 H locs hG hM => ?_)
      exact e_iret X hG dX11_inspects_167 hM
    · have hM := b_else hM c28
      refine lv_aload_n hx hb dX11_inspects_131 rfl (lv_at hl 0 rfl) ?_
      refine lv_iload hx hb dX11_inspects_132 (lv_at hl 2 rfl) ?_
      refine g_callV_i (nA := 1) (o := M_X11_where σ k x4) (As := [.int x4]) X.1 hG hL rfl rfl (fun _ _ h => C_X11_where l E h hL) mw1262 mw1264 mw25 mw62 (gw_ok mw1265 rfl) (by decide +kernel) rfl ⟨Nat.le_of_ble_eq_true rfl, Nat.le_of_ble_eq_true rfl⟩ hl.1 rfl (Nat.le_of_ble_eq_true rfl) ⟨Nat.le_refl _, Nat.le_refl _⟩ dX11_inspects_134 hM (fun σ22 r23 H locs hG hM => ?_)
      refine lv_iload_n hx hb dX11_inspects_137 rfl (lv_at hl 1 rfl) ?_
      refine lv_icmp_ne (tgt := 156) hx hb dX11_inspects_138 (by decide) (fun c27 => ?_) (fun c27 => ?_)
      · have hM := b_else hM c27
        obtain ⟨v24, ev24, hM⟩ := g_nm hM
        refine lv_iinc (v := v24) (lv' := [(4, .int v24), (0, .ref (E.1 k)), (2, .int x2)]) hx hb dX11_inspects_156 hl (k := 2) rfl (by rw [ev24]; rfl) (by decide) rfl (fun ls hl => ?_)
        refine lv_goto (tgt := 120) hx hb dX11_inspects_159 (by decide) ?_
        exact ih σ22 x2 v24 _ _ _ z hG (lv_sub hl [1, 2, 0] rfl) hM
      · have hM := b_if hM c27
        refine lv_aload_n hx hb dX11_inspects_141 rfl (lv_at hl 0 rfl) ?_
        refine gt_11_0 X.1 hG hL mw1119 dX11_inspects_142 ?_
        refine lv_bipush (v := (90 : Int32)) hx hb dX11_inspects_145 (by decide) ?_
        refine lv_iconst (v := (3 : Int32)) hx hb dX11_inspects_147 (by decide) ?_
        refine lv_iload hx hb dX11_inspects_148 (lv_at hl 2 rfl) ?_
        refine lv_imul hx hb dX11_inspects_150 ?_
        refine lv_iadd hx hb dX11_inspects_151 ?_
        refine lv_iconst (v := (1 : Int32)) hx hb dX11_inspects_152 (by decide) ?_
        refine lv_iadd hx hb dX11_inspects_153 ?_
        refine lv_iconst (v := (0 : Int32)) hx hb dX11_inspects_154 (by decide) ?_
        refine g_ast X.1 hG (lf_11_0 hL) dX11_inspects_155 hM (fun σ25 H locs hG hM => ?_)
        obtain ⟨v26, ev26, hM⟩ := g_nm hM
        refine lv_iinc (v := v26) (lv' := [(4, .int v26), (0, .ref (E.1 k)), (2, .int x2)]) hx hb dX11_inspects_156 hl (k := 2) rfl (by rw [ev26]; rfl) (by decide) rfl (fun ls hl => ?_)
        refine lv_goto (tgt := 120) hx hb dX11_inspects_159 (by decide) ?_
        exact ih σ25 x2 v26 _ _ _ z hG (lv_sub hl [1, 2, 0] rfl) hM
set_option maxRecDepth 20000 in
set_option maxHeartbeats 4000000 in
theorem C_X11_inspects (l : Launch) (E : Ev) {σ σ' : St} {k : Nat} {p0 : Int32} {p1 : Int32} {r : Int32} (h : M_X11_inspects σ k p0 p1 = some (σ', r)) (hL : lay 11 k) : Mi l E yX11_inspects cX11_inspects 5 (some .int) 3 [.ref (E.1 k), .int p0, .int p1] σ σ' r := by
  refine Mi_of (C := RX11) rfl (by decide) (Nat.le_of_ble_eq_true rfl) (z := (σ', r)) (fun p e s m below meth c ls X hG hl => ?_)
  have hx := X.1.1.1
  have hb := X.1.1.2.1
  have hM := h
  unfold M_X11_inspects at hM
  generalize (σ', r) = z at hM ⊢
  have hl : lv_has ls 5 [(0, .ref (E.1 k)), (1, .int p0), (2, .int p1)] := hl
  refine lv_aload_n hx hb dX11_inspects_0 rfl (lv_at hl 0 rfl) ?_
  refine lv_iload_n hx hb dX11_inspects_1 rfl (lv_at hl 1 rfl) ?_
  refine g_callV_i (nA := 1) (o := M_X11_isInspector σ k p0) (As := [.int p0]) X.1 hG hL rfl rfl (fun _ _ h => C_X11_isInspector l E h hL) mw1315 mw1317 mw33 mw62 (gw_ok mw1318 rfl) (by decide +kernel) rfl ⟨Nat.le_of_ble_eq_true rfl, Nat.le_of_ble_eq_true rfl⟩ hl.1 rfl (Nat.le_of_ble_eq_true rfl) ⟨Nat.le_refl _, Nat.le_refl _⟩ dX11_inspects_2 hM (fun σ1 r2 H locs hG hM => ?_)
  refine lv_if_eq (tgt := 16) hx hb dX11_inspects_5 (by decide) (fun c38 => ?_) (fun c38 => ?_)
  · have hM := b_if hM c38
    refine lv_iconst (v := (-1 : Int32)) hx hb dX11_inspects_16 (by decide) ?_
    exact e_iret X hG dX11_inspects_17 hM
  · have hM := b_else hM c38
    refine lv_aload_n hx hb dX11_inspects_8 rfl (lv_at hl 0 rfl) ?_
    refine lv_iload_n hx hb dX11_inspects_9 rfl (lv_at hl 2 rfl) ?_
    refine g_callV_i (nA := 1) (o := M_X11_isStorey σ1 k p1) (As := [.int p1]) X.1 hG hL rfl rfl (fun _ _ h => C_X11_isStorey l E h hL) mw1238 mw1240 mw21 mw62 (gw_ok mw1241 rfl) (by decide +kernel) rfl ⟨Nat.le_of_ble_eq_true rfl, Nat.le_of_ble_eq_true rfl⟩ hl.1 rfl (Nat.le_of_ble_eq_true rfl) ⟨Nat.le_refl _, Nat.le_refl _⟩ dX11_inspects_10 hM (fun σ3 r4 H locs hG hM => ?_)
    refine lv_if_ne (tgt := 18) hx hb dX11_inspects_13 (by decide) (fun c37 => ?_) (fun c37 => ?_)
    · have hM := b_else hM c37
      refine lv_aload_n hx hb dX11_inspects_18 rfl (lv_at hl 0 rfl) ?_
      refine gt_11_0 X.1 hG hL mw1119 dX11_inspects_19 ?_
      refine lv_iconst (v := (1 : Int32)) hx hb dX11_inspects_22 (by decide) ?_
      refine g_ald X.1 hG (lf_11_0 hL) dX11_inspects_23 hM (fun q5 hM => ?_)
      refine lv_iconst (v := (3 : Int32)) hx hb dX11_inspects_24 (by decide) ?_
      refine lv_icmp_lt (tgt := 40) hx hb dX11_inspects_25 (by decide) (fun c36 => ?_) (fun c36 => ?_)
      · have hM := b_if hM c36
        refine lv_aload_n hx hb dX11_inspects_40 rfl (lv_at hl 0 rfl) ?_
        refine gt_11_0 X.1 hG hL mw1119 dX11_inspects_41 ?_
        refine lv_bipush (v := (105 : Int32)) hx hb dX11_inspects_44 (by decide) ?_
        refine lv_iconst (v := (2 : Int32)) hx hb dX11_inspects_46 (by decide) ?_
        refine lv_iload_n hx hb dX11_inspects_47 rfl (lv_at hl 1 rfl) ?_
        refine lv_imul hx hb dX11_inspects_48 ?_
        refine lv_iadd hx hb dX11_inspects_49 ?_
        refine g_ald X.1 hG (lf_11_0 hL) dX11_inspects_50 hM (fun q6 hM => ?_)
        refine lv_istore_n (lv' := [(3, .int q6), (0, .ref (E.1 k)), (1, .int p0), (2, .int p1)]) hx hb dX11_inspects_51 rfl hl (by decide) rfl (fun ls hl => ?_)
        refine lv_aload_n hx hb dX11_inspects_52 rfl (lv_at hl 1 rfl) ?_
        refine lv_iload_n hx hb dX11_inspects_53 rfl (lv_at hl 3 rfl) ?_
        refine lv_iconst (v := (2 : Int32)) hx hb dX11_inspects_54 (by decide) ?_
        refine g_callV_i (nA := 2) (o := M_X11_of σ3 k p1 (2 : Int32)) (As := [.int p1, .int (2 : Int32)]) X.1 hG hL rfl rfl (fun _ _ h => C_X11_of l E h hL) mw1242 mw1244 mw22 mw62 (gw_ok mw1245 rfl) (by decide +kernel) rfl ⟨Nat.le_of_ble_eq_true rfl, Nat.le_of_ble_eq_true rfl⟩ hl.1 rfl (Nat.le_of_ble_eq_true rfl) ⟨Nat.le_refl _, Nat.le_refl _⟩ dX11_inspects_55 hM (fun σ7 r8 H locs hG hM => ?_)
        refine lv_iload_n hx hb dX11_inspects_58 rfl (lv_at hl 0 rfl) ?_
        refine lv_iadd hx hb dX11_inspects_59 ?_
        refine lv_bipush (v := (20 : Int32)) hx hb dX11_inspects_60 (by decide) ?_
        refine lv_icmp_gt (tgt := 71) hx hb dX11_inspects_62 (by decide) (fun c32 => ?_) (fun c32 => ?_)
        · have hM := b_if hM c32
          refine lv_aload_n hx hb dX11_inspects_71 rfl (lv_at hl 1 rfl) ?_
          refine gt_11_0 X.1 hG hL mw1119 dX11_inspects_72 ?_
          refine lv_bipush (v := (105 : Int32)) hx hb dX11_inspects_75 (by decide) ?_
          refine lv_iconst (v := (2 : Int32)) hx hb dX11_inspects_77 (by decide) ?_
          refine lv_iload_n hx hb dX11_inspects_78 rfl (lv_at hl 2 rfl) ?_
          refine lv_imul hx hb dX11_inspects_79 ?_
          refine lv_iadd hx hb dX11_inspects_80 ?_
          refine lv_iconst (v := (1 : Int32)) hx hb dX11_inspects_81 (by decide) ?_
          refine lv_iadd hx hb dX11_inspects_82 ?_
          refine lv_dup2_11 hx hb dX11_inspects_83 rfl rfl ?_
          refine g_ald X.1 hG (lf_11_0 hL) dX11_inspects_84 hM (fun q9 hM => ?_)
          refine lv_iconst (v := (1 : Int32)) hx hb dX11_inspects_85 (by decide) ?_
          refine lv_iadd hx hb dX11_inspects_86 ?_
          refine g_ast X.1 hG (lf_11_0 hL) dX11_inspects_87 hM (fun σ10 H locs hG hM => ?_)
          refine lv_aload_n hx hb dX11_inspects_88 rfl (lv_at hl 1 rfl) ?_
          refine gt_11_0 X.1 hG hL mw1119 dX11_inspects_89 ?_
          refine lv_bipush (v := (8 : Int32)) hx hb dX11_inspects_92 (by decide) ?_
          refine lv_dup2_11 hx hb dX11_inspects_94 rfl rfl ?_
          refine g_ald X.1 hG (lf_11_0 hL) dX11_inspects_95 hM (fun q11 hM => ?_)
          refine lv_iload_n hx hb dX11_inspects_96 rfl (lv_at hl 0 rfl) ?_
          refine lv_iadd hx hb dX11_inspects_97 ?_
          refine g_ast X.1 hG (lf_11_0 hL) dX11_inspects_98 hM (fun σ12 H locs hG hM => ?_)
          refine lv_aload_n hx hb dX11_inspects_99 rfl (lv_at hl 1 rfl) ?_
          refine lv_iload_n hx hb dX11_inspects_100 rfl (lv_at hl 3 rfl) ?_
          refine lv_iconst (v := (5 : Int32)) hx hb dX11_inspects_101 (by decide) ?_
          refine g_callV_i (nA := 2) (o := M_X11_of σ12 k p1 (5 : Int32)) (As := [.int p1, .int (5 : Int32)]) X.1 hG hL rfl rfl (fun _ _ h => C_X11_of l E h hL) mw1242 mw1244 mw22 mw62 (gw_ok mw1245 rfl) (by decide +kernel) rfl ⟨Nat.le_of_ble_eq_true rfl, Nat.le_of_ble_eq_true rfl⟩ hl.1 rfl (Nat.le_of_ble_eq_true rfl) ⟨Nat.le_refl _, Nat.le_refl _⟩ dX11_inspects_102 hM (fun σ13 r14 H locs hG hM => ?_)
          refine lv_if_ne (tgt := 162) hx hb dX11_inspects_105 (by decide) (fun c29 => ?_) (fun c29 => ?_)
          · have hM := b_else hM c29
            refine lv_aload_n hx hb dX11_inspects_162 rfl (lv_at hl 1 rfl) ?_
            refine lv_iconst (v := (1 : Int32)) hx hb dX11_inspects_163 (by decide) ?_
            refine g_callV_i (nA := 1) (o := M_X11_does σ13 k (1 : Int32)) (As := [.int (1 : Int32)]) X.1 hG hL rfl rfl (fun _ _ h => C_X11_does l E h hL) mw1222 mw1224 mw18 mw62 (gw_ok mw1225 rfl) (by decide +kernel) rfl ⟨Nat.le_of_ble_eq_true rfl, Nat.le_of_ble_eq_true rfl⟩ hl.1 rfl (Nat.le_of_ble_eq_true rfl) ⟨Nat.le_refl _, Nat.le_refl _⟩ dX11_inspects_164 hM (fun σ15 r16 H locs hG hM => ?_)
            exact e_iret X hG dX11_inspects_167 hM
          · have hM := b_if hM c29
            refine lv_aload_n hx hb dX11_inspects_108 rfl (lv_at hl 1 rfl) ?_
            refine lv_iload_n hx hb dX11_inspects_109 rfl (lv_at hl 3 rfl) ?_
            refine lv_iconst (v := (5 : Int32)) hx hb dX11_inspects_110 (by decide) ?_
            refine lv_iload_n hx hb dX11_inspects_111 rfl (lv_at hl 2 rfl) ?_
            refine lv_iconst (v := (1 : Int32)) hx hb dX11_inspects_112 (by decide) ?_
            refine lv_iadd hx hb dX11_inspects_113 ?_
            refine g_callV_v (nA := 3) (o := M_X11_sets σ13 k p1 (5 : Int32) (p0 + (1 : Int32))) (As := [.int p1, .int (5 : Int32), .int (p0 + (1 : Int32))]) X.1 hG hL rfl rfl (fun _ _ h => C_X11_sets l E h hL) mw1218 mw1220 mw17 mw62 (gw_ok mw1221 rfl) (by decide +kernel) rfl ⟨Nat.le_of_ble_eq_true rfl, Nat.le_of_ble_eq_true rfl⟩ hl.1 rfl (Nat.le_of_ble_eq_true rfl) ⟨Nat.le_refl _, Nat.le_refl _⟩ dX11_inspects_114 hM (fun σ17 r18 H locs hG hM => ?_)
            refine lv_iconst (v := (0 : Int32)) hx hb dX11_inspects_117 (by decide) ?_
            refine lv_istore (lv' := [(4, .int (0 : Int32)), (3, .int q6), (0, .ref (E.1 k)), (1, .int p0), (2, .int p1)]) hx hb dX11_inspects_118 hl (by decide) rfl (fun ls hl => ?_)
            exact w_X11_inspects_120 X hL FU σ17 p1 (0 : Int32) _ _ _ z hG (lv_sub hl [2, 4, 0] rfl) hM
        · have hM := b_else hM c32
          refine lv_aload_n hx hb dX11_inspects_65 rfl (lv_at hl 1 rfl) ?_
          refine lv_iconst (v := (0 : Int32)) hx hb dX11_inspects_66 (by decide) ?_
          refine g_callV_i (nA := 1) (o := M_X11_does σ7 k (0 : Int32)) (As := [.int (0 : Int32)]) X.1 hG hL rfl rfl (fun _ _ h => C_X11_does l E h hL) mw1222 mw1224 mw18 mw62 (gw_ok mw1225 rfl) (by decide +kernel) rfl ⟨Nat.le_of_ble_eq_true rfl, Nat.le_of_ble_eq_true rfl⟩ hl.1 rfl (Nat.le_of_ble_eq_true rfl) ⟨Nat.le_refl _, Nat.le_refl _⟩ dX11_inspects_67 hM (fun σ30 r31 H locs hG hM => ?_)
          exact e_iret X hG dX11_inspects_70 hM
      · have hM := b_else hM c36
        refine lv_aload_n hx hb dX11_inspects_28 rfl (lv_at hl 0 rfl) ?_
        refine lv_iconst (v := (4 : Int32)) hx hb dX11_inspects_29 (by decide) ?_
        refine lv_aload_n hx hb dX11_inspects_30 rfl (lv_at hl 0 rfl) ?_
        refine gt_11_0 X.1 hG hL mw1119 dX11_inspects_31 ?_
        refine lv_iconst (v := (1 : Int32)) hx hb dX11_inspects_34 (by decide) ?_
        refine g_ald X.1 hG (lf_11_0 hL) dX11_inspects_35 hM (fun q33 hM => ?_)
        refine g_callV_i (nA := 2) (o := M_X11_refuses σ3 k (4 : Int32) q33) (As := [.int (4 : Int32), .int q33]) X.1 hG hL rfl rfl (fun _ _ h => C_X11_refuses l E h hL) mw1193 mw1195 mw13 mw62 (gw_ok mw1196 rfl) (by decide +kernel) rfl ⟨Nat.le_of_ble_eq_true rfl, Nat.le_of_ble_eq_true rfl⟩ hl.1 rfl (Nat.le_of_ble_eq_true rfl) ⟨Nat.le_refl _, Nat.le_refl _⟩ dX11_inspects_36 hM (fun σ34 r35 H locs hG hM => ?_)
        exact e_iret X hG dX11_inspects_39 hM
    · have hM := b_if hM c37
      refine lv_iconst (v := (-1 : Int32)) hx hb dX11_inspects_16 (by decide) ?_
      exact e_iret X hG dX11_inspects_17 hM
