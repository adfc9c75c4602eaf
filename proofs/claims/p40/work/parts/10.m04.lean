def B_X9_lowestWeakerThan_2  : Nat → St → Nat → Int32 → Int32 → Option (St × Int32)
  | 0, _, _, _, _ => none
  | n + 1, σ, k, x1, x2 => if (σ k 6) ≤ x2 then some (σ, (-4 : Int32)) else (bcall (M_X9_strengthOf σ k x2) fun σ1 r2 => if x1 ≤ r2 then (blet (x2 + (1 : Int32)) fun v3 => B_X9_lowestWeakerThan_2 n σ1 k x1 v3) else some (σ1, x2))
def M_X9_lowestWeakerThan (σ : St) (k : Nat) (p0 : Int32) : Option (St × Int32) := B_X9_lowestWeakerThan_2 FU σ k p0 (0 : Int32)
set_option maxRecDepth 20000 in
set_option maxHeartbeats 4000000 in
theorem w_X9_lowestWeakerThan_2 {p : Program} {l : Launch} {e : Env} {s : State} {m : MethodId} {below : List Frame} {meth : Method} {c : Code} {args : Array Value} {E : Ev} {k : Nat} (X : Bx E p m meth c cX9_lowestWeakerThan 3 (some .int) s args RX9) (hL : lay 9 k) : ∀ (n : Nat) (σ : St) (x1 x2 : Int32) (H : Heap) (locs : List Loc) (ls : Array Slot) (z : St × Int32), GS E σ s.heap H locs → lv_has ls 3 [(0, .ref (E.1 k)), (1, .int x1), (2, .int x2)] → B_X9_lowestWeakerThan_2 n σ k x1 x2 = some z → W p l e (rmd 3) s m args below meth c H locs 0 0 (QI E z below args s) (F0 m 2 ls []) := by
  have hx := X.1.1.1
  have hb := X.1.1.2.1
  intro n
  induction n with
  | zero => intro σ x1 x2 H locs ls z  hG hl hM; cases hM
  | succ n ih =>
    intro σ x1 x2 H locs ls z  hG hl hM
    unfold B_X9_lowestWeakerThan_2 at hM
    refine lv_iload_n hx hb dX9_lowestWeakerThan_2 rfl (lv_at hl 2 rfl) ?_
    refine lv_aload_n hx hb dX9_lowestWeakerThan_3 rfl (lv_at hl 0 rfl) ?_
    refine gt_9_6 X.1 hG hL mw103 dX9_lowestWeakerThan_4 ?_
    refine lv_icmp_ge (tgt := 27) hx hb dX9_lowestWeakerThan_7 (by decide) (fun c5 => ?_) (fun c5 => ?_)
    · have hM := b_if hM c5
      refine lv_bipush (v := (-4 : Int32)) hx hb dX9_lowestWeakerThan_27 (by decide) ?_
      exact e_iret X hG dX9_lowestWeakerThan_29 hM
    · have hM := b_else hM c5
      refine lv_aload_n hx hb dX9_lowestWeakerThan_10 rfl (lv_at hl 0 rfl) ?_
      refine lv_iload_n hx hb dX9_lowestWeakerThan_11 rfl (lv_at hl 2 rfl) ?_
      refine g_callV_i (nA := 1) (o := M_X9_strengthOf σ k x2) (As := [.int x2]) X.1 hG hL rfl rfl (fun _ _ h => C_X9_strengthOf l E h hL) mw715 mw716 mw717 mw17 (gw_ok mw718 rfl) (by decide +kernel) rfl ⟨Nat.le_of_ble_eq_true rfl, Nat.le_of_ble_eq_true rfl⟩ hl.1 rfl (Nat.le_of_ble_eq_true rfl) ⟨Nat.le_refl _, Nat.le_refl _⟩ dX9_lowestWeakerThan_12 hM (fun σ1 r2 H locs hG hM => ?_)
      refine lv_iload_n hx hb dX9_lowestWeakerThan_15 rfl (lv_at hl 1 rfl) ?_
      refine lv_icmp_ge (tgt := 21) hx hb dX9_lowestWeakerThan_16 (by decide) (fun c4 => ?_) (fun c4 => ?_)
      · have hM := b_if hM c4
        obtain ⟨v3, ev3, hM⟩ := g_nm hM
        refine lv_iinc (v := v3) (lv' := [(2, .int v3), (0, .ref (E.1 k)), (1, .int x1)]) hx hb dX9_lowestWeakerThan_21 hl (k := 2) rfl (by rw [ev3]; rfl) (by decide) rfl (fun ls hl => ?_)
        refine lv_goto (tgt := 2) hx hb dX9_lowestWeakerThan_24 (by decide) ?_
        exact ih σ1 x1 v3 _ _ _ z hG (lv_sub hl [1, 2, 0] rfl) hM
      · have hM := b_else hM c4
        refine lv_iload_n hx hb dX9_lowestWeakerThan_19 rfl (lv_at hl 2 rfl) ?_
        exact e_iret X hG dX9_lowestWeakerThan_20 hM
set_option maxRecDepth 20000 in
set_option maxHeartbeats 4000000 in
theorem C_X9_lowestWeakerThan (l : Launch) (E : Ev) {σ σ' : St} {k : Nat} {p0 : Int32} {r : Int32} (h : M_X9_lowestWeakerThan σ k p0 = some (σ', r)) (hL : lay 9 k) : Mi l E yX9_lowestWeakerThan cX9_lowestWeakerThan 3 (some .int) 3 [.ref (E.1 k), .int p0] σ σ' r := by
  refine Mi_of (C := RX9) rfl (by decide) (Nat.le_of_ble_eq_true rfl) (z := (σ', r)) (fun p e s m below meth c ls X hG hl => ?_)
  have hx := X.1.1.1
  have hb := X.1.1.2.1
  have hM := h
  unfold M_X9_lowestWeakerThan at hM
  generalize (σ', r) = z at hM ⊢
  have hl : lv_has ls 3 [(0, .ref (E.1 k)), (1, .int p0)] := hl
  refine lv_iconst (v := (0 : Int32)) hx hb dX9_lowestWeakerThan_0 (by decide) ?_
  refine lv_istore_n (lv' := [(2, .int (0 : Int32)), (0, .ref (E.1 k)), (1, .int p0)]) hx hb dX9_lowestWeakerThan_1 rfl hl (by decide) rfl (fun ls hl => ?_)
  exact w_X9_lowestWeakerThan_2 X hL FU σ p0 (0 : Int32) _ _ _ z hG (lv_sub hl [1, 2, 0] rfl) hM
def B_X9_leastStrong_5  : Nat → St → Nat → Int32 → Int32 → Option (St × Int32)
  | 0, _, _, _, _ => none
  | n + 1, σ, k, x1, x2 => if (σ k 6) ≤ x2 then some (σ, x1) else (if x1 = (-4 : Int32) then (blet (x2 + (1 : Int32)) fun v1 => B_X9_leastStrong_5 n σ k x2 v1) else (bcall (M_X9_strengthOf σ k x2) fun σ2 r3 => bcall (M_X9_strengthOf σ2 k x1) fun σ4 r5 => if r5 ≤ r3 then (blet (x2 + (1 : Int32)) fun v6 => B_X9_leastStrong_5 n σ4 k x1 v6) else (blet (x2 + (1 : Int32)) fun v7 => B_X9_leastStrong_5 n σ4 k x2 v7)))
def M_X9_leastStrong (σ : St) (k : Nat)  : Option (St × Int32) := B_X9_leastStrong_5 FU σ k (-4 : Int32) (0 : Int32)
set_option maxRecDepth 20000 in
set_option maxHeartbeats 4000000 in
theorem w_X9_leastStrong_5 {p : Program} {l : Launch} {e : Env} {s : State} {m : MethodId} {below : List Frame} {meth : Method} {c : Code} {args : Array Value} {E : Ev} {k : Nat} (X : Bx E p m meth c cX9_leastStrong 3 (some .int) s args RX9) (hL : lay 9 k) : ∀ (n : Nat) (σ : St) (x1 x2 : Int32) (H : Heap) (locs : List Loc) (ls : Array Slot) (z : St × Int32), GS E σ s.heap H locs → lv_has ls 3 [(0, .ref (E.1 k)), (1, .int x1), (2, .int x2)] → B_X9_leastStrong_5 n σ k x1 x2 = some z → W p l e (rmd 3) s m args below meth c H locs 0 0 (QI E z below args s) (F0 m 5 ls []) := by
  have hx := X.1.1.1
  have hb := X.1.1.2.1
  intro n
  induction n with
  | zero => intro σ x1 x2 H locs ls z  hG hl hM; cases hM
  | succ n ih =>
    intro σ x1 x2 H locs ls z  hG hl hM
    unfold B_X9_leastStrong_5 at hM
    refine lv_iload_n hx hb dX9_leastStrong_5 rfl (lv_at hl 2 rfl) ?_
    refine lv_aload_n hx hb dX9_leastStrong_6 rfl (lv_at hl 0 rfl) ?_
    refine gt_9_6 X.1 hG hL mw103 dX9_leastStrong_7 ?_
    refine lv_icmp_ge (tgt := 40) hx hb dX9_leastStrong_10 (by decide) (fun c10 => ?_) (fun c10 => ?_)
    · have hM := b_if hM c10
      refine lv_iload_n hx hb dX9_leastStrong_40 rfl (lv_at hl 1 rfl) ?_
      exact e_iret X hG dX9_leastStrong_41 hM
    · have hM := b_else hM c10
      refine lv_iload_n hx hb dX9_leastStrong_13 rfl (lv_at hl 1 rfl) ?_
      refine lv_bipush (v := (-4 : Int32)) hx hb dX9_leastStrong_14 (by decide) ?_
      refine lv_icmp_eq (tgt := 32) hx hb dX9_leastStrong_16 (by decide) (fun c9 => ?_) (fun c9 => ?_)
      · have hM := b_if hM c9
        refine lv_iload_n hx hb dX9_leastStrong_32 rfl (lv_at hl 2 rfl) ?_
        refine lv_istore_n (lv' := [(1, .int x2), (0, .ref (E.1 k)), (2, .int x2)]) hx hb dX9_leastStrong_33 rfl hl (by decide) rfl (fun ls hl => ?_)
        obtain ⟨v1, ev1, hM⟩ := g_nm hM
        refine lv_iinc (v := v1) (lv' := [(2, .int v1), (1, .int x2), (0, .ref (E.1 k))]) hx hb dX9_leastStrong_34 hl (k := 2) rfl (by rw [ev1]; rfl) (by decide) rfl (fun ls hl => ?_)
        refine lv_goto (tgt := 5) hx hb dX9_leastStrong_37 (by decide) ?_
        exact ih σ x2 v1 _ _ _ z hG (lv_sub hl [2, 1, 0] rfl) hM
      · have hM := b_else hM c9
        refine lv_aload_n hx hb dX9_leastStrong_19 rfl (lv_at hl 0 rfl) ?_
        refine lv_iload_n hx hb dX9_leastStrong_20 rfl (lv_at hl 2 rfl) ?_
        refine g_callV_i (nA := 1) (o := M_X9_strengthOf σ k x2) (As := [.int x2]) X.1 hG hL rfl rfl (fun _ _ h => C_X9_strengthOf l E h hL) mw715 mw716 mw717 mw17 (gw_ok mw718 rfl) (by decide +kernel) rfl ⟨Nat.le_of_ble_eq_true rfl, Nat.le_of_ble_eq_true rfl⟩ hl.1 rfl (Nat.le_of_ble_eq_true rfl) ⟨Nat.le_refl _, Nat.le_refl _⟩ dX9_leastStrong_21 hM (fun σ2 r3 H locs hG hM => ?_)
        refine lv_aload_n hx hb dX9_leastStrong_24 rfl (lv_at hl 0 rfl) ?_
        refine lv_iload_n hx hb dX9_leastStrong_25 rfl (lv_at hl 1 rfl) ?_
        refine g_callV_i (nA := 1) (o := M_X9_strengthOf σ2 k x1) (As := [.int x1]) X.1 hG hL rfl rfl (fun _ _ h => C_X9_strengthOf l E h hL) mw715 mw716 mw717 mw17 (gw_ok mw718 rfl) (by decide +kernel) rfl ⟨Nat.le_of_ble_eq_true rfl, Nat.le_of_ble_eq_true rfl⟩ hl.1 rfl (Nat.le_of_ble_eq_true rfl) ⟨Nat.le_refl _, Nat.le_refl _⟩ dX9_leastStrong_26 hM (fun σ4 r5 H locs hG hM => ?_)
        refine lv_icmp_ge (tgt := 34) hx hb dX9_leastStrong_29 (by decide) (fun c8 => ?_) (fun c8 => ?_)
        · have hM := b_if hM c8
          obtain ⟨v6, ev6, hM⟩ := g_nm hM
          refine lv_iinc (v := v6) (lv' := [(2, .int v6), (0, .ref (E.1 k)), (1, .int x1)]) hx hb dX9_leastStrong_34 hl (k := 2) rfl (by rw [ev6]; rfl) (by decide) rfl (fun ls hl => ?_)
          refine lv_goto (tgt := 5) hx hb dX9_leastStrong_37 (by decide) ?_
          exact ih σ4 x1 v6 _ _ _ z hG (lv_sub hl [1, 2, 0] rfl) hM
        · have hM := b_else hM c8
          refine lv_iload_n hx hb dX9_leastStrong_32 rfl (lv_at hl 2 rfl) ?_
          refine lv_istore_n (lv' := [(1, .int x2), (0, .ref (E.1 k)), (2, .int x2)]) hx hb dX9_leastStrong_33 rfl hl (by decide) rfl (fun ls hl => ?_)
          obtain ⟨v7, ev7, hM⟩ := g_nm hM
          refine lv_iinc (v := v7) (lv' := [(2, .int v7), (1, .int x2), (0, .ref (E.1 k))]) hx hb dX9_leastStrong_34 hl (k := 2) rfl (by rw [ev7]; rfl) (by decide) rfl (fun ls hl => ?_)
          refine lv_goto (tgt := 5) hx hb dX9_leastStrong_37 (by decide) ?_
          exact ih σ4 x2 v7 _ _ _ z hG (lv_sub hl [2, 1, 0] rfl) hM
set_option maxRecDepth 20000 in
set_option maxHeartbeats 4000000 in
theorem C_X9_leastStrong (l : Launch) (E : Ev) {σ σ' : St} {k : Nat} {r : Int32} (h : M_X9_leastStrong σ k = some (σ', r)) (hL : lay 9 k) : Mi l E yX9_leastStrong cX9_leastStrong 3 (some .int) 3 [.ref (E.1 k)] σ σ' r := by
  refine Mi_of (C := RX9) rfl (by decide) (Nat.le_of_ble_eq_true rfl) (z := (σ', r)) (fun p e s m below meth c ls X hG hl => ?_)
  have hx := X.1.1.1
  have hb := X.1.1.2.1
  have hM := h
  unfold M_X9_leastStrong at hM
  generalize (σ', r) = z at hM ⊢
  have hl : lv_has ls 3 [(0, .ref (E.1 k))] := hl
  refine lv_bipush (v := (-4 : Int32)) hx hb dX9_leastStrong_0 (by decide) ?_
  refine lv_istore_n (lv' := [(1, .int (-4 : Int32)), (0, .ref (E.1 k))]) hx hb dX9_leastStrong_2 rfl hl (by decide) rfl (fun ls hl => ?_)
  refine lv_iconst (v := (0 : Int32)) hx hb dX9_leastStrong_3 (by decide) ?_
  refine lv_istore_n (lv' := [(2, .int (0 : Int32)), (1, .int (-4 : Int32)), (0, .ref (E.1 k))]) hx hb dX9_leastStrong_4 rfl hl (by decide) rfl (fun ls hl => ?_)
  exact w_X9_leastStrong_5 X hL FU σ (-4 : Int32) (0 : Int32) _ _ _ z hG (lv_sub hl [2, 1, 0] rfl) hM
def B_X9_highestOpen_5  : Nat → St → Nat → Int32 → Int32 → Option (St × Int32)
  | 0, _, _, _, _ => none
  | n + 1, σ, k, x1, x2 => if (σ k 6) ≤ x2 then some (σ, x1) else (bcall (M_X9_isOld σ k x2) fun σ1 r2 => if r2 = 0 then (bcall (M_X9_isShut σ1 k x2) fun σ3 r4 => if r4 = 0 then (blet (x2 + (1 : Int32)) fun v6 => B_X9_highestOpen_5 n σ3 k x2 v6) else (blet (x2 + (1 : Int32)) fun v5 => B_X9_highestOpen_5 n σ3 k x1 v5)) else some (σ1, x1))
def M_X9_highestOpen (σ : St) (k : Nat)  : Option (St × Int32) := B_X9_highestOpen_5 FU σ k (-4 : Int32) (0 : Int32)
set_option maxRecDepth 20000 in
set_option maxHeartbeats 4000000 in
theorem w_X9_highestOpen_5 {p : Program} {l : Launch} {e : Env} {s : State} {m : MethodId} {below : List Frame} {meth : Method} {c : Code} {args : Array Value} {E : Ev} {k : Nat} (X : Bx E p m meth c cX9_highestOpen 3 (some .int) s args RX9) (hL : lay 9 k) : ∀ (n : Nat) (σ : St) (x1 x2 : Int32) (H : Heap) (locs : List Loc) (ls : Array Slot) (z : St × Int32), GS E σ s.heap H locs → lv_has ls 3 [(0, .ref (E.1 k)), (1, .int x1), (2, .int x2)] → B_X9_highestOpen_5 n σ k x1 x2 = some z → W p l e (rmd 4) s m args below meth c H locs 0 0 (QI E z below args s) (F0 m 5 ls []) := by
  have hx := X.1.1.1
  have hb := X.1.1.2.1
  intro n
  induction n with
  | zero => intro σ x1 x2 H locs ls z  hG hl hM; cases hM
  | succ n ih =>
    intro σ x1 x2 H locs ls z  hG hl hM
    unfold B_X9_highestOpen_5 at hM
    refine lv_iload_n hx hb dX9_highestOpen_5 rfl (lv_at hl 2 rfl) ?_
    refine lv_aload_n hx hb dX9_highestOpen_6 rfl (lv_at hl 0 rfl) ?_
    refine gt_9_6 X.1 hG hL mw103 dX9_highestOpen_7 ?_
    refine lv_icmp_ge (tgt := 37) hx hb dX9_highestOpen_10 (by decide) (fun c9 => ?_) (fun c9 => ?_)
    · have hM := b_if hM c9
      refine lv_iload_n hx hb dX9_highestOpen_37 rfl (lv_at hl 1 rfl) ?_
      exact e_iret X hG dX9_highestOpen_38 hM
    · have hM := b_else hM c9
      refine lv_aload_n hx hb dX9_highestOpen_13 rfl (lv_at hl 0 rfl) ?_
      refine lv_iload_n hx hb dX9_highestOpen_14 rfl (lv_at hl 2 rfl) ?_
      refine g_callV_i (nA := 1) (o := M_X9_isOld σ k x2) (As := [.int x2]) X.1 hG hL rfl rfl (fun _ _ h => C_X9_isOld l E h hL) mw977 mw978 mw979 mw17 (gw_ok mw980 rfl) (by decide +kernel) rfl ⟨Nat.le_of_ble_eq_true rfl, Nat.le_of_ble_eq_true rfl⟩ hl.1 rfl (Nat.le_of_ble_eq_true rfl) ⟨Nat.le_refl _, Nat.le_refl _⟩ dX9_highestOpen_15 hM (fun σ1 r2 H locs hG hM => ?_)
      refine lv_if_ne (tgt := 37) hx hb dX9_highestOpen_18 (by decide) (fun c8 => ?_) (fun c8 => ?_)
      · have hM := b_else hM c8
        refine lv_iload_n hx hb dX9_highestOpen_37 rfl (lv_at hl 1 rfl) ?_
        exact e_iret X hG dX9_highestOpen_38 hM
      · have hM := b_if hM c8
        refine lv_aload_n hx hb dX9_highestOpen_21 rfl (lv_at hl 0 rfl) ?_
        refine lv_iload_n hx hb dX9_highestOpen_22 rfl (lv_at hl 2 rfl) ?_
        refine g_callV_i (nA := 1) (o := M_X9_isShut σ1 k x2) (As := [.int x2]) X.1 hG hL rfl rfl (fun _ _ h => C_X9_isShut l E h hL) mw972 mw537 mw538 mw17 (gw_ok mw539 rfl) (by decide +kernel) rfl ⟨Nat.le_of_ble_eq_true rfl, Nat.le_of_ble_eq_true rfl⟩ hl.1 rfl (Nat.le_of_ble_eq_true rfl) ⟨Nat.le_refl _, Nat.le_refl _⟩ dX9_highestOpen_23 hM (fun σ3 r4 H locs hG hM => ?_)
        refine lv_if_ne (tgt := 31) hx hb dX9_highestOpen_26 (by decide) (fun c7 => ?_) (fun c7 => ?_)
        · have hM := b_else hM c7
          obtain ⟨v5, ev5, hM⟩ := g_nm hM
          refine lv_iinc (v := v5) (lv' := [(2, .int v5), (0, .ref (E.1 k)), (1, .int x1)]) hx hb dX9_highestOpen_31 hl (k := 2) rfl (by rw [ev5]; rfl) (by decide) rfl (fun ls hl => ?_)
          refine lv_goto (tgt := 5) hx hb dX9_highestOpen_34 (by decide) ?_
          exact ih σ3 x1 v5 _ _ _ z hG (lv_sub hl [1, 2, 0] rfl) hM
        · have hM := b_if hM c7
          refine lv_iload_n hx hb dX9_highestOpen_29 rfl (lv_at hl 2 rfl) ?_
          refine lv_istore_n (lv' := [(1, .int x2), (0, .ref (E.1 k)), (2, .int x2)]) hx hb dX9_highestOpen_30 rfl hl (by decide) rfl (fun ls hl => ?_)
          obtain ⟨v6, ev6, hM⟩ := g_nm hM
          refine lv_iinc (v := v6) (lv' := [(2, .int v6), (1, .int x2), (0, .ref (E.1 k))]) hx hb dX9_highestOpen_31 hl (k := 2) rfl (by rw [ev6]; rfl) (by decide) rfl (fun ls hl => ?_)
          refine lv_goto (tgt := 5) hx hb dX9_highestOpen_34 (by decide) ?_
          exact ih σ3 x2 v6 _ _ _ z hG (lv_sub hl [2, 1, 0] rfl) hM
set_option maxRecDepth 20000 in
set_option maxHeartbeats 4000000 in
theorem C_X9_highestOpen (l : Launch) (E : Ev) {σ σ' : St} {k : Nat} {r : Int32} (h : M_X9_highestOpen σ k = some (σ', r)) (hL : lay 9 k) : Mi l E yX9_highestOpen cX9_highestOpen 3 (some .int) 4 [.ref (E.1 k)] σ σ' r := by
  refine Mi_of (C := RX9) rfl (by decide) (Nat.le_of_ble_eq_true rfl) (z := (σ', r)) (fun p e s m below meth c ls X hG hl => ?_)
  have hx := X.1.1.1
  have hb := X.1.1.2.1
  have hM := h
  unfold M_X9_highestOpen at hM
  generalize (σ', r) = z at hM ⊢
  have hl : lv_has ls 3 [(0, .ref (E.1 k))] := hl
  refine lv_bipush (v := (-4 : Int32)) hx hb dX9_highestOpen_0 (by decide) ?_
  refine lv_istore_n (lv' := [(1, .int (-4 : Int32)), (0, .ref (E.1 k))]) hx hb dX9_highestOpen_2 rfl hl (by decide) rfl (fun ls hl => ?_)
  refine lv_iconst (v := (0 : Int32)) hx hb dX9_highestOpen_3 (by decide) ?_
  refine lv_istore_n (lv' := [(2, .int (0 : Int32)), (1, .int (-4 : Int32)), (0, .ref (E.1 k))]) hx hb dX9_highestOpen_4 rfl hl (by decide) rfl (fun ls hl => ?_)
  exact w_X9_highestOpen_5 X hL FU σ (-4 : Int32) (0 : Int32) _ _ _ z hG (lv_sub hl [2, 1, 0] rfl) hM
def B_X9_placeByTieOf_4  : Nat → St → Nat → Int32 → Int32 → Int32 → Option (St × Int32)
  | 0, _, _, _, _, _ => none
  | n + 1, σ, k, x1, x2, x3 => if (σ k 6) ≤ x3 then some (σ, x2) else (bcall (M_X9_tieOf σ k x3) fun σ1 r2 => bcall (M_X9_tieOf σ1 k x1) fun σ3 r4 => if r2 = r4 then (if x3 ≤ x1 then (bcall (M_X9_tieOf σ3 k x3) fun σ17 r18 => bcall (M_X9_tieOf σ17 k x1) fun σ19 r20 => if r20 < r18 then (blet (x2 + (1 : Int32)) fun v21 => blet (x3 + (1 : Int32)) fun v22 => B_X9_placeByTieOf_4 n σ19 k x1 v21 v22) else (if (0 : Int32) = 0 then (blet (x2 + (0 : Int32)) fun v23 => blet (x3 + (1 : Int32)) fun v24 => B_X9_placeByTieOf_4 n σ19 k x1 v23 v24) else (blet (x2 + (1 : Int32)) fun v25 => blet (x3 + (1 : Int32)) fun v26 => B_X9_placeByTieOf_4 n σ19 k x1 v25 v26))) else (bcall (M_X9_tieOf σ3 k x3) fun σ29 r30 => bcall (M_X9_tieOf σ29 k x1) fun σ31 r32 => if r32 < r30 then (blet (x2 + (1 : Int32)) fun v33 => blet (x3 + (1 : Int32)) fun v34 => B_X9_placeByTieOf_4 n σ31 k x1 v33 v34) else (if (1 : Int32) = 0 then (blet (x2 + (0 : Int32)) fun v35 => blet (x3 + (1 : Int32)) fun v36 => B_X9_placeByTieOf_4 n σ31 k x1 v35 v36) else (blet (x2 + (1 : Int32)) fun v37 => blet (x3 + (1 : Int32)) fun v38 => B_X9_placeByTieOf_4 n σ31 k x1 v37 v38)))) else (bcall (M_X9_tieOf σ3 k x3) fun σ5 r6 => bcall (M_X9_tieOf σ5 k x1) fun σ7 r8 => if r8 < r6 then (blet (x2 + (1 : Int32)) fun v9 => blet (x3 + (1 : Int32)) fun v10 => B_X9_placeByTieOf_4 n σ7 k x1 v9 v10) else (if (0 : Int32) = 0 then (blet (x2 + (0 : Int32)) fun v11 => blet (x3 + (1 : Int32)) fun v12 => B_X9_placeByTieOf_4 n σ7 k x1 v11 v12) else (blet (x2 + (1 : Int32)) fun v13 => blet (x3 + (1 : Int32)) fun v14 => B_X9_placeByTieOf_4 n σ7 k x1 v13 v14))))
def M_X9_placeByTieOf (σ : St) (k : Nat) (p0 : Int32) : Option (St × Int32) := B_X9_placeByTieOf_4 FU σ k p0 (0 : Int32) (0 : Int32)
set_option maxRecDepth 20000 in
set_option maxHeartbeats 4000000 in
theorem w_X9_placeByTieOf_4 {p : Program} {l : Launch} {e : Env} {s : State} {m : MethodId} {below : List Frame} {meth : Method} {c : Code} {args : Array Value} {E : Ev} {k : Nat} (X : Bx E p m meth c cX9_placeByTieOf 5 (some .int) s args RX9) (hL : lay 9 k) : ∀ (n : Nat) (σ : St) (x1 x2 x3 : Int32) (H : Heap) (locs : List Loc) (ls : Array Slot) (z : St × Int32), GS E σ s.heap H locs → lv_has ls 5 [(0, .ref (E.1 k)), (1, .int x1), (2, .int x2), (3, .int x3)] → B_X9_placeByTieOf_4 n σ k x1 x2 x3 = some z → W p l e (rmd 3) s m args below meth c H locs 0 0 (QI E z below args s) (F0 m 4 ls []) := by
  have hx := X.1.1.1
  have hb := X.1.1.2.1
  intro n
  induction n with
  | zero => intro σ x1 x2 x3 H locs ls z  hG hl hM; cases hM
  | succ n ih =>
    intro σ x1 x2 x3 H locs ls z  hG hl hM
    unfold B_X9_placeByTieOf_4 at hM
    refine lv_iload_n hx hb dX9_placeByTieOf_4 rfl (lv_at hl 3 rfl) ?_
    refine lv_aload_n hx hb dX9_placeByTieOf_5 rfl (lv_at hl 0 rfl) ?_
    refine gt_9_6 X.1 hG hL mw103 dX9_placeByTieOf_6 ?_
    refine lv_icmp_ge (tgt := 69) hx hb dX9_placeByTieOf_9 (by decide) (fun c43 => ?_) (fun c43 => ?_)
    · have hM := b_if hM c43
      refine lv_iload_n hx hb dX9_placeByTieOf_69 rfl (lv_at hl 2 rfl) ?_
      exact e_iret X hG dX9_placeByTieOf_70 hM
    · have hM := b_else hM c43
      refine lv_aload_n hx hb dX9_placeByTieOf_12 rfl (lv_at hl 0 rfl) ?_
      refine lv_iload_n hx hb dX9_placeByTieOf_13 rfl (lv_at hl 3 rfl) ?_
      refine g_callV_i (nA := 1) (o := M_X9_tieOf σ k x3) (As := [.int x3]) X.1 hG hL rfl rfl (fun _ _ h => C_X9_tieOf l E h hL) mw889 mw642 mw643 mw17 (gw_ok mw644 rfl) (by decide +kernel) rfl ⟨Nat.le_of_ble_eq_true rfl, Nat.le_of_ble_eq_true rfl⟩ hl.1 rfl (Nat.le_of_ble_eq_true rfl) ⟨Nat.le_refl _, Nat.le_refl _⟩ dX9_placeByTieOf_14 hM (fun σ1 r2 H locs hG hM => ?_)
      refine lv_aload_n hx hb dX9_placeByTieOf_17 rfl (lv_at hl 0 rfl) ?_
      refine lv_iload_n hx hb dX9_placeByTieOf_18 rfl (lv_at hl 1 rfl) ?_
      refine g_callV_i (nA := 1) (o := M_X9_tieOf σ1 k x1) (As := [.int x1]) X.1 hG hL rfl rfl (fun _ _ h => C_X9_tieOf l E h hL) mw889 mw642 mw643 mw17 (gw_ok mw644 rfl) (by decide +kernel) rfl ⟨Nat.le_of_ble_eq_true rfl, Nat.le_of_ble_eq_true rfl⟩ hl.1 rfl (Nat.le_of_ble_eq_true rfl) ⟨Nat.le_refl _, Nat.le_refl _⟩ dX9_placeByTieOf_19 hM (fun σ3 r4 H locs hG hM => ?_)
      refine lv_icmp_ne (tgt := 34) hx hb dX9_placeByTieOf_22 (by decide) (fun c42 => ?_) (fun c42 => ?_)
      · have hM := b_else hM c42
        refine lv_iconst (v := (0 : Int32)) hx hb dX9_placeByTieOf_34 (by decide) ?_
        refine lv_istore (lv' := [(4, .int (0 : Int32)), (0, .ref (E.1 k)), (1, .int x1), (2, .int x2), (3, .int x3)]) hx hb dX9_placeByTieOf_35 hl (by decide) rfl (fun ls hl => ?_)
        refine lv_iload_n hx hb dX9_placeByTieOf_37 rfl (lv_at hl 3 rfl) ?_
        refine lv_aload_n hx hb dX9_placeByTieOf_38 rfl (lv_at hl 1 rfl) ?_
        refine lv_iload_n hx hb dX9_placeByTieOf_39 rfl (lv_at hl 4 rfl) ?_
        refine g_callV_i (nA := 1) (o := M_X9_tieOf σ3 k x3) (As := [.int x3]) X.1 hG hL rfl rfl (fun _ _ h => C_X9_tieOf l E h hL) mw889 mw642 mw643 mw17 (gw_ok mw644 rfl) (by decide +kernel) rfl ⟨Nat.le_of_ble_eq_true rfl, Nat.le_of_ble_eq_true rfl⟩ hl.1 rfl (Nat.le_of_ble_eq_true rfl) ⟨Nat.le_refl _, Nat.le_refl _⟩ dX9_placeByTieOf_40 hM (fun σ5 r6 H locs hG hM => ?_)
        refine lv_aload_n hx hb dX9_placeByTieOf_43 rfl (lv_at hl 1 rfl) ?_
        refine lv_iload_n hx hb dX9_placeByTieOf_44 rfl (lv_at hl 2 rfl) ?_
        refine g_callV_i (nA := 1) (o := M_X9_tieOf σ5 k x1) (As := [.int x1]) X.1 hG hL rfl rfl (fun _ _ h => C_X9_tieOf l E h hL) mw889 mw642 mw643 mw17 (gw_ok mw644 rfl) (by decide +kernel) rfl ⟨Nat.le_of_ble_eq_true rfl, Nat.le_of_ble_eq_true rfl⟩ hl.1 rfl (Nat.le_of_ble_eq_true rfl) ⟨Nat.le_refl _, Nat.le_refl _⟩ dX9_placeByTieOf_45 hM (fun σ7 r8 H locs hG hM => ?_)
        refine lv_icmp_gt (tgt := 56) hx hb dX9_placeByTieOf_48 (by decide) (fun c16 => ?_) (fun c16 => ?_)
        · have hM := b_if hM c16
          refine lv_iconst (v := (1 : Int32)) hx hb dX9_placeByTieOf_56 (by decide) ?_
          refine lv_goto (tgt := 61) hx hb dX9_placeByTieOf_57 (by decide) ?_
          refine lv_iadd hx hb dX9_placeByTieOf_61 ?_
          refine g_name hM (fun v9 hM => ?_)
          refine lv_istore_n (lv' := [(2, .int v9), (4, .int (0 : Int32)), (0, .ref (E.1 k)), (1, .int x1), (3, .int x3)]) hx hb dX9_placeByTieOf_62 rfl hl (by decide) rfl (fun ls hl => ?_)
          obtain ⟨v10, ev10, hM⟩ := g_nm hM
          refine lv_iinc (v := v10) (lv' := [(3, .int v10), (2, .int v9), (4, .int (0 : Int32)), (0, .ref (E.1 k)), (1, .int x1)]) hx hb dX9_placeByTieOf_63 hl (k := 4) rfl (by rw [ev10]; rfl) (by decide) rfl (fun ls hl => ?_)
          refine lv_goto (tgt := 4) hx hb dX9_placeByTieOf_66 (by decide) ?_
          exact ih σ7 x1 v9 v10 _ _ _ z hG (lv_sub hl [3, 4, 1, 0] rfl) hM
        · have hM := b_else hM c16
          refine lv_iload hx hb dX9_placeByTieOf_51 (lv_at hl 0 rfl) ?_
          refine lv_if_eq (tgt := 60) hx hb dX9_placeByTieOf_53 (by decide) (fun c15 => ?_) (fun c15 => ?_)
          · have hM := b_if hM c15
            refine lv_iconst (v := (0 : Int32)) hx hb dX9_placeByTieOf_60 (by decide) ?_
            refine lv_iadd hx hb dX9_placeByTieOf_61 ?_
            refine g_name hM (fun v11 hM => ?_)
            refine lv_istore_n (lv' := [(2, .int v11), (4, .int (0 : Int32)), (0, .ref (E.1 k)), (1, .int x1), (3, .int x3)]) hx hb dX9_placeByTieOf_62 rfl hl (by decide) rfl (fun ls hl => ?_)
            obtain ⟨v12, ev12, hM⟩ := g_nm hM
            refine lv_iinc (v := v12) (lv' := [(3, .int v12), (2, .int v11), (4, .int (0 : Int32)), (0, .ref (E.1 k)), (1, .int x1)]) hx hb dX9_placeByTieOf_63 hl (k := 4) rfl (by rw [ev12]; rfl) (by decide) rfl (fun ls hl => ?_)
            refine lv_goto (tgt := 4) hx hb dX9_placeByTieOf_66 (by decide) ?_
            exact ih σ7 x1 v11 v12 _ _ _ z hG (lv_sub hl [3, 4, 1, 0] rfl) hM
          · have hM := b_else hM c15
            refine lv_iconst (v := (1 : Int32)) hx hb dX9_placeByTieOf_56 (by decide) ?_
            refine lv_goto (tgt := 61) hx hb dX9_placeByTieOf_57 (by decide) ?_
            refine lv_iadd hx hb dX9_placeByTieOf_61 ?_
            refine g_name hM (fun v13 hM => ?_)
            refine lv_istore_n (lv' := [(2, .int v13), (4, .int (0 : Int32)), (0, .ref (E.1 k)), (1, .int x1), (3, .int x3)]) hx hb dX9_placeByTieOf_62 rfl hl (by decide) rfl (fun ls hl => ?_)
            obtain ⟨v14, ev14, hM⟩ := g_nm hM
            refine lv_iinc (v := v14) (lv' := [(3, .int v14), (2, .int v13), (4, .int (0 : Int32)), (0, .ref (E.1 k)), (1, .int x1)]) hx hb dX9_placeByTieOf_63 hl (k := 4) rfl (by rw [ev14]; rfl) (by decide) rfl (fun ls hl => ?_)
            refine lv_goto (tgt := 4) hx hb dX9_placeByTieOf_66 (by decide) ?_
            exact ih σ7 x1 v13 v14 _ _ _ z hG (lv_sub hl [3, 4, 1, 0] rfl) hM
      · have hM := b_if hM c42
        refine lv_iload_n hx hb dX9_placeByTieOf_25 rfl (lv_at hl 3 rfl) ?_
        refine lv_iload_n hx hb dX9_placeByTieOf_26 rfl (lv_at hl 1 rfl) ?_
        refine lv_icmp_le (tgt := 34) hx hb dX9_placeByTieOf_27 (by decide) (fun c41 => ?_) (fun c41 => ?_)
        · have hM := b_if hM c41
          refine lv_iconst (v := (0 : Int32)) hx hb dX9_placeByTieOf_34 (by decide) ?_
          refine lv_istore (lv' := [(4, .int (0 : Int32)), (0, .ref (E.1 k)), (1, .int x1), (2, .int x2), (3, .int x3)]) hx hb dX9_placeByTieOf_35 hl (by decide) rfl (fun ls hl => ?_)
          refine lv_iload_n hx hb dX9_placeByTieOf_37 rfl (lv_at hl 3 rfl) ?_
          refine lv_aload_n hx hb dX9_placeByTieOf_38 rfl (lv_at hl 1 rfl) ?_
          refine lv_iload_n hx hb dX9_placeByTieOf_39 rfl (lv_at hl 4 rfl) ?_
          refine g_callV_i (nA := 1) (o := M_X9_tieOf σ3 k x3) (As := [.int x3]) X.1 hG hL rfl rfl (fun _ _ h => C_X9_tieOf l E h hL) mw889 mw642 mw643 mw17 (gw_ok mw644 rfl) (by decide +kernel) rfl ⟨Nat.le_of_ble_eq_true rfl, Nat.le_of_ble_eq_true rfl⟩ hl.1 rfl (Nat.le_of_ble_eq_true rfl) ⟨Nat.le_refl _, Nat.le_refl _⟩ dX9_placeByTieOf_40 hM (fun σ17 r18 H locs hG hM => ?_)
          refine lv_aload_n hx hb dX9_placeByTieOf_43 rfl (lv_at hl 1 rfl) ?_
          refine lv_iload_n hx hb dX9_placeByTieOf_44 rfl (lv_at hl 2 rfl) ?_
          refine g_callV_i (nA := 1) (o := M_X9_tieOf σ17 k x1) (As := [.int x1]) X.1 hG hL rfl rfl (fun _ _ h => C_X9_tieOf l E h hL) mw889 mw642 mw643 mw17 (gw_ok mw644 rfl) (by decide +kernel) rfl ⟨Nat.le_of_ble_eq_true rfl, Nat.le_of_ble_eq_true rfl⟩ hl.1 rfl (Nat.le_of_ble_eq_true rfl) ⟨Nat.le_refl _, Nat.le_refl _⟩ dX9_placeByTieOf_45 hM (fun σ19 r20 H locs hG hM => ?_)
          refine lv_icmp_gt (tgt := 56) hx hb dX9_placeByTieOf_48 (by decide) (fun c28 => ?_) (fun c28 => ?_)
          · have hM := b_if hM c28
            refine lv_iconst (v := (1 : Int32)) hx hb dX9_placeByTieOf_56 (by decide) ?_
            refine lv_goto (tgt := 61) hx hb dX9_placeByTieOf_57 (by decide) ?_
            refine lv_iadd hx hb dX9_placeByTieOf_61 ?_
            refine g_name hM (fun v21 hM => ?_)
            refine lv_istore_n (lv' := [(2, .int v21), (4, .int (0 : Int32)), (0, .ref (E.1 k)), (1, .int x1), (3, .int x3)]) hx hb dX9_placeByTieOf_62 rfl hl (by decide) rfl (fun ls hl => ?_)
            obtain ⟨v22, ev22, hM⟩ := g_nm hM
            refine lv_iinc (v := v22) (lv' := [(3, .int v22), (2, .int v21), (4, .int (0 : Int32)), (0, .ref (E.1 k)), (1, .int x1)]) hx hb dX9_placeByTieOf_63 hl (k := 4) rfl (by rw [ev22]; rfl) (by decide) rfl (fun ls hl => ?_)
            refine lv_goto (tgt := 4) hx hb dX9_placeByTieOf_66 (by decide) ?_
            exact ih σ19 x1 v21 v22 _ _ _ z hG (lv_sub hl [3, 4, 1, 0] rfl) hM
          · have hM := b_else hM c28
            refine lv_iload hx hb dX9_placeByTieOf_51 (lv_at hl 0 rfl) ?_
            refine lv_if_eq (tgt := 60) hx hb dX9_placeByTieOf_53 (by decide) (fun c27 => ?_) (fun c27 => ?_)
            · have hM := b_if hM c27
              refine lv_iconst (v := (0 : Int32)) hx hb dX9_placeByTieOf_60 (by decide) ?_
              refine lv_iadd hx hb dX9_placeByTieOf_61 ?_
              refine g_name hM (fun v23 hM => ?_)
              refine lv_istore_n (lv' := [(2, .int v23), (4, .int (0 : Int32)), (0, .ref (E.1 k)), (1, .int x1), (3, .int x3)]) hx hb dX9_placeByTieOf_62 rfl hl (by decide) rfl (fun ls hl => ?_)
              obtain ⟨v24, ev24, hM⟩ := g_nm hM
              refine lv_iinc (v := v24) (lv' := [(3, .int v24), (2, .int v23), (4, .int (0 : Int32)), (0, .ref (E.1 k)), (1, .int x1)]) hx hb dX9_placeByTieOf_63 hl (k := 4) rfl (by rw [ev24]; rfl) (by decide) rfl (fun ls hl => ?_)
              refine lv_goto (tgt := 4) hx hb dX9_placeByTieOf_66 (by decide) ?_
              exact ih σ19 x1 v23 v24 _ _ _ z hG (lv_sub hl [3, 4, 1, 0] rfl) hM
            · have hM := b_else hM c27
              refine lv_iconst (v := (1 : Int32)) hx hb dX9_placeByTieOf_56 (by decide) ?_
              refine lv_goto (tgt := 61) hx hb dX9_placeByTieOf_57 (by decide) ?_
              refine lv_iadd hx hb dX9_placeByTieOf_61 ?_
              refine g_name hM (fun v25 hM => ?_)
              refine lv_istore_n (lv' := [(2, .int v25), (4, .int (0 : Int32)), (0, .ref (E.1 k)), (1, .int x1), (3, .int x3)]) hx hb dX9_placeByTieOf_62 rfl hl (by decide) rfl (fun ls hl => ?_)
              obtain ⟨v26, ev26, hM⟩ := g_nm hM
              refine lv_iinc (v := v26) (lv' := [(3, .int v26), (2, .int v25), (4, .int (0 : Int32)), (0, .ref (E.1 k)), (1, .int x1)]) hx hb dX9_placeByTieOf_63 hl (k := 4) rfl (by rw [ev26]; rfl) (by decide) rfl (fun ls hl => ?_)
              refine lv_goto (tgt := 4) hx hb dX9_placeByTieOf_66 (by decide) ?_
              exact ih σ19 x1 v25 v26 _ _ _ z hG (lv_sub hl [3, 4, 1, 0] rfl) hM
        · have hM := b_else hM c41
          refine lv_iconst (v := (1 : Int32)) hx hb dX9_placeByTieOf_30 (by decide) ?_
          refine lv_goto (tgt := 35) hx hb dX9_placeByTieOf_31 (by decide) ?_
          refine lv_istore (lv' := [(4, .int (1 : Int32)), (0, .ref (E.1 k)), (1, .int x1), (2, .int x2), (3, .int x3)]) hx hb dX9_placeByTieOf_35 hl (by decide) rfl (fun ls hl => ?_)
          refine lv_iload_n hx hb dX9_placeByTieOf_37 rfl (lv_at hl 3 rfl) ?_
          refine lv_aload_n hx hb dX9_placeByTieOf_38 rfl (lv_at hl 1 rfl) ?_
          refine lv_iload_n hx hb dX9_placeByTieOf_39 rfl (lv_at hl 4 rfl) ?_
          refine g_callV_i (nA := 1) (o := M_X9_tieOf σ3 k x3) (As := [.int x3]) X.1 hG hL rfl rfl (fun _ _ h => C_X9_tieOf l E h hL) mw889 mw642 mw643 mw17 (gw_ok mw644 rfl) (by decide +kernel) rfl ⟨Nat.le_of_ble_eq_true rfl, Nat.le_of_ble_eq_true rfl⟩ hl.1 rfl (Nat.le_of_ble_eq_true rfl) ⟨Nat.le_refl _, Nat.le_refl _⟩ dX9_placeByTieOf_40 hM (fun σ29 r30 H locs hG hM => ?_)
          refine lv_aload_n hx hb dX9_placeByTieOf_43 rfl (lv_at hl 1 rfl) ?_
          refine lv_iload_n hx hb dX9_placeByTieOf_44 rfl (lv_at hl 2 rfl) ?_
          refine g_callV_i (nA := 1) (o := M_X9_tieOf σ29 k x1) (As := [.int x1]) X.1 hG hL rfl rfl (fun _ _ h => C_X9_tieOf l E h hL) mw889 mw642 mw643 mw17 (gw_ok mw644 rfl) (by decide +kernel) rfl ⟨Nat.le_of_ble_eq_true rfl, Nat.le_of_ble_eq_true rfl⟩ hl.1 rfl (Nat.le_of_ble_eq_true rfl) ⟨Nat.le_refl _, Nat.le_refl _⟩ dX9_placeByTieOf_45 hM (fun σ31 r32 H locs hG hM => ?_)
          refine lv_icmp_gt (tgt := 56) hx hb dX9_placeByTieOf_48 (by decide) (fun c40 => ?_) (fun c40 => ?_)
          · have hM := b_if hM c40
            refine lv_iconst (v := (1 : Int32)) hx hb dX9_placeByTieOf_56 (by decide) ?_
            refine lv_goto (tgt := 61) hx hb dX9_placeByTieOf_57 (by decide) ?_
            refine lv_iadd hx hb dX9_placeByTieOf_61 ?_
            refine g_name hM (fun v33 hM => ?_)
            refine lv_istore_n (lv' := [(2, .int v33), (4, .int (1 : Int32)), (0, .ref (E.1 k)), (1, .int x1), (3, .int x3)]) hx hb dX9_placeByTieOf_62 rfl hl (by decide) rfl (fun ls hl => ?_)
            obtain ⟨v34, ev34, hM⟩ := g_nm hM
            refine lv_iinc (v := v34) (lv' := [(3, .int v34), (2, .int v33), (4, .int (1 : Int32)), (0, .ref (E.1 k)), (1, .int x1)]) hx hb dX9_placeByTieOf_63 hl (k := 4) rfl (by rw [ev34]; rfl) (by decide) rfl (fun ls hl => ?_)
            refine lv_goto (tgt := 4) hx hb dX9_placeByTieOf_66 (by decide) ?_
            exact ih σ31 x1 v33 v34 _ _ _ z hG (lv_sub hl [3, 4, 1, 0] rfl) hM
          · have hM := b_else hM c40
            refine lv_iload hx hb dX9_placeByTieOf_51 (lv_at hl 0 rfl) ?_
            refine lv_if_eq (tgt := 60) hx hb dX9_placeByTieOf_53 (by decide) (fun c39 => ?_) (fun c39 => ?_)
            · have hM := b_if hM c39
              refine lv_iconst (v := (0 : Int32)) hx hb dX9_placeByTieOf_60 (by decide) ?_
              refine lv_iadd hx hb dX9_placeByTieOf_61 ?_
              refine g_name hM (fun v35 hM => ?_)
              refine lv_istore_n (lv' := [(2, .int v35), (4, .int (1 : Int32)), (0, .ref (E.1 k)), (1, .int x1), (3, .int x3)]) hx hb dX9_placeByTieOf_62 rfl hl (by decide) rfl (fun ls hl => ?_)
              obtain ⟨v36, ev36, hM⟩ := g_nm hM
              refine lv_iinc (v := v36) (lv' := [(3, .int v36), (2, .int v35), (4, .int (1 : Int32)), (0, .ref (E.1 k)), (1, .int x1)]) hx hb dX9_placeByTieOf_63 hl (k := 4) rfl (by rw [ev36]; rfl) (by decide) rfl (fun ls hl => ?_)
              refine lv_goto (tgt := 4) hx hb dX9_placeByTieOf_66 (by decide) ?_
              exact ih σ31 x1 v35 v36 _ _ _ z hG (lv_sub hl [3, 4, 1, 0] rfl) hM
            · have hM := b_else hM c39
              refine lv_iconst (v := (1 : Int32)) hx hb dX9_placeByTieOf_56 (by decide) ?_
              refine lv_goto (tgt := 61) hx hb dX9_placeByTieOf_57 (by decide) ?_
              refine lv_iadd hx hb dX9_placeByTieOf_61 ?_
              refine g_name hM (fun v37 hM => ?_)
              refine lv_istore_n (lv' := [(2, .int v37), (4, .int (1 : Int32)), (0, .ref (E.1 k)), (1, .int x1), (3, .int x3)]) hx hb dX9_placeByTieOf_62 rfl hl (by decide) rfl (fun ls hl => ?_)
              obtain ⟨v38, ev38, hM⟩ := g_nm hM
              refine lv_iinc (v := v38) (lv' := [(3, .int v38), (2, .int v37), (4, .int (1 : Int32)), (0, .ref (E.1 k)), (1, .int x1)]) hx hb dX9_placeByTieOf_63 hl (k := 4) rfl (by rw [ev38]; rfl) (by decide) rfl (fun ls hl => ?_)
              refine lv_goto (tgt := 4) hx hb dX9_placeByTieOf_66 (by decide) ?_
              exact ih σ31 x1 v37 v38 _ _ _ z hG (lv_sub hl [3, 4, 1, 0] rfl) hM
set_option maxRecDepth 20000 in
set_option maxHeartbeats 4000000 in
theorem C_X9_placeByTieOf (l : Launch) (E : Ev) {σ σ' : St} {k : Nat} {p0 : Int32} {r : Int32} (h : M_X9_placeByTieOf σ k p0 = some (σ', r)) (hL : lay 9 k) : Mi l E yX9_placeByTieOf cX9_placeByTieOf 5 (some .int) 3 [.ref (E.1 k), .int p0] σ σ' r := by
  refine Mi_of (C := RX9) rfl (by decide) (Nat.le_of_ble_eq_true rfl) (z := (σ', r)) (fun p e s m below meth c ls X hG hl => ?_)
  have hx := X.1.1.1
  have hb := X.1.1.2.1
  have hM := h
  unfold M_X9_placeByTieOf at hM
  generalize (σ', r) = z at hM ⊢
  have hl : lv_has ls 5 [(0, .ref (E.1 k)), (1, .int p0)] := hl
  refine lv_iconst (v := (0 : Int32)) hx hb dX9_placeByTieOf_0 (by decide) ?_
  refine lv_istore_n (lv' := [(2, .int (0 : Int32)), (0, .ref (E.1 k)), (1, .int p0)]) hx hb dX9_placeByTieOf_1 rfl hl (by decide) rfl (fun ls hl => ?_)
  refine lv_iconst (v := (0 : Int32)) hx hb dX9_placeByTieOf_2 (by decide) ?_
  refine lv_istore_n (lv' := [(3, .int (0 : Int32)), (2, .int (0 : Int32)), (0, .ref (E.1 k)), (1, .int p0)]) hx hb dX9_placeByTieOf_3 rfl hl (by decide) rfl (fun ls hl => ?_)
  exact w_X9_placeByTieOf_4 X hL FU σ p0 (0 : Int32) (0 : Int32) _ _ _ z hG (lv_sub hl [2, 3, 1, 0] rfl) hM
def M_X9_bind (σ : St) (k : Nat) (p0 : Int32) : Option (St × Int32) := bcall (M_X10_put σ (k + 3) p0 (0 : Int32)) fun σ1 r2 => bcall (M_X10_put σ1 (k + 6) p0 (-4 : Int32)) fun σ3 r4 => some (σ3, 0)
set_option maxRecDepth 20000 in
set_option maxHeartbeats 4000000 in
theorem C_X9_bind (l : Launch) (E : Ev) {σ σ' : St} {k : Nat} {p0 : Int32} {r : Int32} (h : M_X9_bind σ k p0 = some (σ', r)) (hL : lay 9 k) : Mv l E yX9_bind cX9_bind 2 2 [.ref (E.1 k), .int p0] σ σ' := by
  refine Mv_of (C := RX9) rfl (by decide) (Nat.le_of_ble_eq_true rfl) (z := (σ', r)) (fun p e s m below meth c ls X hG hl => ?_)
  have hx := X.1.1.1
  have hb := X.1.1.2.1
  have hM := h
  unfold M_X9_bind at hM
  generalize (σ', r) = z at hM ⊢
  have hl : lv_has ls 2 [(0, .ref (E.1 k)), (1, .int p0)] := hl
  refine lv_aload_n hx hb dX9_bind_0 rfl (lv_at hl 0 rfl) ?_
  refine gt_9_2 X.1 hG hL mw99 dX9_bind_1 ?_
  refine lv_iload_n hx hb dX9_bind_4 rfl (lv_at hl 1 rfl) ?_
  refine lv_iconst (v := (0 : Int32)) hx hb dX9_bind_5 (by decide) ?_
  refine g_callSN_v (nA := 3) (o := M_X10_put σ (k + 3) p0 (0 : Int32)) (As := [.ref (E.1 (k + 3)), .int p0, .int (0 : Int32)]) X.1 hG (fun _ _ h => C_X10_put l E h (lf_9_2 hL)) mw492 mw431 mw12 (gw_ok mw432 rfl) (by decide +kernel) rfl ⟨Nat.le_of_ble_eq_true rfl, Nat.le_of_ble_eq_true rfl⟩ hl.1 rfl (Nat.le_of_ble_eq_true rfl) ⟨Nat.le_refl _, Nat.le_refl _⟩ dX9_bind_6 hM (fun σ1 r2 H locs hG hM => ?_)
  refine lv_aload_n hx hb dX9_bind_9 rfl (lv_at hl 0 rfl) ?_
  refine gt_9_5 X.1 hG hL mw102 dX9_bind_10 ?_
  refine lv_iload_n hx hb dX9_bind_13 rfl (lv_at hl 1 rfl) ?_
  refine lv_bipush (v := (-4 : Int32)) hx hb dX9_bind_14 (by decide) ?_
  refine g_callSN_v (nA := 3) (o := M_X10_put σ1 (k + 6) p0 (-4 : Int32)) (As := [.ref (E.1 (k + 6)), .int p0, .int (-4 : Int32)]) X.1 hG (fun _ _ h => C_X10_put l E h (lf_9_5 hL)) mw492 mw431 mw12 (gw_ok mw432 rfl) (by decide +kernel) rfl ⟨Nat.le_of_ble_eq_true rfl, Nat.le_of_ble_eq_true rfl⟩ hl.1 rfl (Nat.le_of_ble_eq_true rfl) ⟨Nat.le_refl _, Nat.le_refl _⟩ dX9_bind_16 hM (fun σ3 r4 H locs hG hM => ?_)
  exact e_vret X hG dX9_bind_19 hM
def M_X9_shut (σ : St) (k : Nat) (p0 p1 : Int32) : Option (St × Int32) := bcall (M_X10_put σ (k + 6) p0 p1) fun σ1 r2 => some (σ1, 0)
set_option maxRecDepth 20000 in
set_option maxHeartbeats 4000000 in
theorem C_X9_shut (l : Launch) (E : Ev) {σ σ' : St} {k : Nat} {p0 : Int32} {p1 : Int32} {r : Int32} (h : M_X9_shut σ k p0 p1 = some (σ', r)) (hL : lay 9 k) : Mv l E yX9_shut cX9_shut 3 2 [.ref (E.1 k), .int p0, .int p1] σ σ' := by
  refine Mv_of (C := RX9) rfl (by decide) (Nat.le_of_ble_eq_true rfl) (z := (σ', r)) (fun p e s m below meth c ls X hG hl => ?_)
  have hx := X.1.1.1
  have hb := X.1.1.2.1
  have hM := h
  unfold M_X9_shut at hM
  generalize (σ', r) = z at hM ⊢
  have hl : lv_has ls 3 [(0, .ref (E.1 k)), (1, .int p0), (2, .int p1)] := hl
  refine lv_aload_n hx hb dX9_shut_0 rfl (lv_at hl 0 rfl) ?_
  refine gt_9_5 X.1 hG hL mw102 dX9_shut_1 ?_
  refine lv_iload_n hx hb dX9_shut_4 rfl (lv_at hl 1 rfl) ?_
  refine lv_iload_n hx hb dX9_shut_5 rfl (lv_at hl 2 rfl) ?_
  refine g_callSN_v (nA := 3) (o := M_X10_put σ (k + 6) p0 p1) (As := [.ref (E.1 (k + 6)), .int p0, .int p1]) X.1 hG (fun _ _ h => C_X10_put l E h (lf_9_5 hL)) mw492 mw431 mw12 (gw_ok mw432 rfl) (by decide +kernel) rfl ⟨Nat.le_of_ble_eq_true rfl, Nat.le_of_ble_eq_true rfl⟩ hl.1 rfl (Nat.le_of_ble_eq_true rfl) ⟨Nat.le_refl _, Nat.le_refl _⟩ dX9_shut_6 hM (fun σ1 r2 H locs hG hM => ?_)
  exact e_vret X hG dX9_shut_9 hM
def M_X9_addLoads (σ : St) (k : Nat) (p0 p1 : Int32) : Option (St × Int32) := bcall (M_X9_loadsOf σ k p0) fun σ1 r2 => bcall (M_X10_put σ1 (k + 5) p0 (r2 + p1)) fun σ3 r4 => some (σ3, 0)
set_option maxRecDepth 20000 in
set_option maxHeartbeats 4000000 in
theorem C_X9_addLoads (l : Launch) (E : Ev) {σ σ' : St} {k : Nat} {p0 : Int32} {p1 : Int32} {r : Int32} (h : M_X9_addLoads σ k p0 p1 = some (σ', r)) (hL : lay 9 k) : Mv l E yX9_addLoads cX9_addLoads 3 3 [.ref (E.1 k), .int p0, .int p1] σ σ' := by
  refine Mv_of (C := RX9) rfl (by decide) (Nat.le_of_ble_eq_true rfl) (z := (σ', r)) (fun p e s m below meth c ls X hG hl => ?_)
  have hx := X.1.1.1
  have hb := X.1.1.2.1
  have hM := h
  unfold M_X9_addLoads at hM
  generalize (σ', r) = z at hM ⊢
  have hl : lv_has ls 3 [(0, .ref (E.1 k)), (1, .int p0), (2, .int p1)] := hl
  refine lv_aload_n hx hb dX9_addLoads_0 rfl (lv_at hl 0 rfl) ?_
  refine gt_9_4 X.1 hG hL mw101 dX9_addLoads_1 ?_
  refine lv_iload_n hx hb dX9_addLoads_4 rfl (lv_at hl 1 rfl) ?_
  refine lv_aload_n hx hb dX9_addLoads_5 rfl (lv_at hl 0 rfl) ?_
  refine lv_iload_n hx hb dX9_addLoads_6 rfl (lv_at hl 1 rfl) ?_
  refine g_callV_i (nA := 1) (o := M_X9_loadsOf σ k p0) (As := [.int p0]) X.1 hG hL rfl rfl (fun _ _ h => C_X9_loadsOf l E h hL) mw597 mw590 mw591 mw17 (gw_ok mw592 rfl) (by decide +kernel) rfl ⟨Nat.le_of_ble_eq_true rfl, Nat.le_of_ble_eq_true rfl⟩ hl.1 rfl (Nat.le_of_ble_eq_true rfl) ⟨Nat.le_refl _, Nat.le_refl _⟩ dX9_addLoads_7 hM (fun σ1 r2 H locs hG hM => ?_)
  refine lv_iload_n hx hb dX9_addLoads_10 rfl (lv_at hl 2 rfl) ?_
  refine lv_iadd hx hb dX9_addLoads_11 ?_
  refine g_callSN_v (nA := 3) (o := M_X10_put σ1 (k + 5) p0 (r2 + p1)) (As := [.ref (E.1 (k + 5)), .int p0, .int (r2 + p1)]) X.1 hG (fun _ _ h => C_X10_put l E h (lf_9_4 hL)) mw492 mw431 mw12 (gw_ok mw432 rfl) (by decide +kernel) rfl ⟨Nat.le_of_ble_eq_true rfl, Nat.le_of_ble_eq_true rfl⟩ hl.1 rfl (Nat.le_of_ble_eq_true rfl) ⟨Nat.le_refl _, Nat.le_refl _⟩ dX9_addLoads_12 hM (fun σ3 r4 H locs hG hM => ?_)
  exact e_vret X hG dX9_addLoads_15 hM
def M_X9_workOff (σ : St) (k : Nat) (p0 p1 : Int32) : Option (St × Int32) := bcall (M_X10_at σ (k + 4) p0) fun σ1 r2 => bcall (M_X10_put σ1 (k + 4) p0 (r2 - p1)) fun σ3 r4 => bcall (M_X10_at σ3 (k + 5) p0) fun σ5 r6 => bcall (M_X10_put σ5 (k + 5) p0 (r6 - (1 : Int32))) fun σ7 r8 => some (σ7, 0)
set_option maxRecDepth 20000 in
set_option maxHeartbeats 4000000 in
theorem C_X9_workOff (l : Launch) (E : Ev) {σ σ' : St} {k : Nat} {p0 : Int32} {p1 : Int32} {r : Int32} (h : M_X9_workOff σ k p0 p1 = some (σ', r)) (hL : lay 9 k) : Mv l E yX9_workOff cX9_workOff 3 2 [.ref (E.1 k), .int p0, .int p1] σ σ' := by
  refine Mv_of (C := RX9) rfl (by decide) (Nat.le_of_ble_eq_true rfl) (z := (σ', r)) (fun p e s m below meth c ls X hG hl => ?_)
  have hx := X.1.1.1
  have hb := X.1.1.2.1
  have hM := h
  unfold M_X9_workOff at hM
  generalize (σ', r) = z at hM ⊢
  have hl : lv_has ls 3 [(0, .ref (E.1 k)), (1, .int p0), (2, .int p1)] := hl
  refine lv_aload_n hx hb dX9_workOff_0 rfl (lv_at hl 0 rfl) ?_
  refine gt_9_3 X.1 hG hL mw100 dX9_workOff_1 ?_
  refine lv_iload_n hx hb dX9_workOff_4 rfl (lv_at hl 1 rfl) ?_
  refine lv_aload_n hx hb dX9_workOff_5 rfl (lv_at hl 0 rfl) ?_
  refine gt_9_3 X.1 hG hL mw100 dX9_workOff_6 ?_
  refine lv_iload_n hx hb dX9_workOff_9 rfl (lv_at hl 1 rfl) ?_
  refine g_callSN_i (nA := 2) (o := M_X10_at σ (k + 4) p0) (As := [.ref (E.1 (k + 4)), .int p0]) X.1 hG (fun _ _ h => C_X10_at l E h (lf_9_3 hL)) mw535 mw477 mw12 (gw_ok mw478 rfl) (by decide +kernel) rfl ⟨Nat.le_of_ble_eq_true rfl, Nat.le_of_ble_eq_true rfl⟩ hl.1 rfl (Nat.le_of_ble_eq_true rfl) ⟨Nat.le_refl _, Nat.le_refl _⟩ dX9_workOff_10 hM (fun σ1 r2 H locs hG hM => ?_)
  refine lv_iload_n hx hb dX9_workOff_13 rfl (lv_at hl 2 rfl) ?_
  refine lv_isub hx hb dX9_workOff_14 ?_
  refine g_callSN_v (nA := 3) (o := M_X10_put σ1 (k + 4) p0 (r2 - p1)) (As := [.ref (E.1 (k + 4)), .int p0, .int (r2 - p1)]) X.1 hG (fun _ _ h => C_X10_put l E h (lf_9_3 hL)) mw492 mw431 mw12 (gw_ok mw432 rfl) (by decide +kernel) rfl ⟨Nat.le_of_ble_eq_true rfl, Nat.le_of_ble_eq_true rfl⟩ hl.1 rfl (Nat.le_of_ble_eq_true rfl) ⟨Nat.le_refl _, Nat.le_refl _⟩ dX9_workOff_15 hM (fun σ3 r4 H locs hG hM => ?_)
  refine lv_aload_n hx hb dX9_workOff_18 rfl (lv_at hl 0 rfl) ?_
  refine gt_9_4 X.1 hG hL mw101 dX9_workOff_19 ?_
  refine lv_iload_n hx hb dX9_workOff_22 rfl (lv_at hl 1 rfl) ?_
  refine lv_aload_n hx hb dX9_workOff_23 rfl (lv_at hl 0 rfl) ?_
  refine gt_9_4 X.1 hG hL mw101 dX9_workOff_24 ?_
  refine lv_iload_n hx hb dX9_workOff_27 rfl (lv_at hl 1 rfl) ?_
  refine g_callSN_i (nA := 2) (o := M_X10_at σ3 (k + 5) p0) (As := [.ref (E.1 (k + 5)), .int p0]) X.1 hG (fun _ _ h => C_X10_at l E h (lf_9_4 hL)) mw535 mw477 mw12 (gw_ok mw478 rfl) (by decide +kernel) rfl ⟨Nat.le_of_ble_eq_true rfl, Nat.le_of_ble_eq_true rfl⟩ hl.1 rfl (Nat.le_of_ble_eq_true rfl) ⟨Nat.le_refl _, Nat.le_refl _⟩ dX9_workOff_28 hM (fun σ5 r6 H locs hG hM => ?_)
  refine lv_iconst (v := (1 : Int32)) hx hb dX9_workOff_31 (by decide) ?_
  refine lv_isub hx hb dX9_workOff_32 ?_
  refine g_callSN_v (nA := 3) (o := M_X10_put σ5 (k + 5) p0 (r6 - (1 : Int32))) (As := [.ref (E.1 (k + 5)), .int p0, .int (r6 - (1 : Int32))]) X.1 hG (fun _ _ h => C_X10_put l E h (lf_9_4 hL)) mw492 mw431 mw12 (gw_ok mw432 rfl) (by decide +kernel) rfl ⟨Nat.le_of_ble_eq_true rfl, Nat.le_of_ble_eq_true rfl⟩ hl.1 rfl (Nat.le_of_ble_eq_true rfl) ⟨Nat.le_refl _, Nat.le_refl _⟩ dX9_workOff_33 hM (fun σ7 r8 H locs hG hM => ?_)
  exact e_vret X hG dX9_workOff_36 hM
def M_X9_makeTiesOlder (σ : St) (k : Nat) (p0 : Int32) : Option (St × Int32) := bcall (M_X10_makeOlder σ (k + 3) (σ k 6) p0 (99 : Int32)) fun σ1 r2 => some (σ1, 0)
set_option maxRecDepth 20000 in
set_option maxHeartbeats 4000000 in
theorem C_X9_makeTiesOlder (l : Launch) (E : Ev) {σ σ' : St} {k : Nat} {p0 : Int32} {r : Int32} (h : M_X9_makeTiesOlder σ k p0 = some (σ', r)) (hL : lay 9 k) : Mv l E yX9_makeTiesOlder cX9_makeTiesOlder 2 3 [.ref (E.1 k), .int p0] σ σ' := by
  refine Mv_of (C := RX9) rfl (by decide) (Nat.le_of_ble_eq_true rfl) (z := (σ', r)) (fun p e s m below meth c ls X hG hl => ?_)
  have hx := X.1.1.1
  have hb := X.1.1.2.1
  have hM := h
  unfold M_X9_makeTiesOlder at hM
  generalize (σ', r) = z at hM ⊢
  have hl : lv_has ls 2 [(0, .ref (E.1 k)), (1, .int p0)] := hl
  refine lv_aload_n hx hb dX9_makeTiesOlder_0 rfl (lv_at hl 0 rfl) ?_
  refine gt_9_2 X.1 hG hL mw99 dX9_makeTiesOlder_1 ?_
  refine lv_aload_n hx hb dX9_makeTiesOlder_4 rfl (lv_at hl 0 rfl) ?_
  refine gt_9_6 X.1 hG hL mw103 dX9_makeTiesOlder_5 ?_
  refine lv_iload_n hx hb dX9_makeTiesOlder_8 rfl (lv_at hl 1 rfl) ?_
  refine lv_bipush (v := (99 : Int32)) hx hb dX9_makeTiesOlder_9 (by decide) ?_
  refine g_callSN_v (nA := 4) (o := M_X10_makeOlder σ (k + 3) (σ k 6) p0 (99 : Int32)) (As := [.ref (E.1 (k + 3)), .int (σ k 6), .int p0, .int (99 : Int32)]) X.1 hG (fun _ _ h => C_X10_makeOlder l E h (lf_9_2 hL)) mw706 mw707 mw12 (gw_ok mw708 rfl) (by decide +kernel) rfl ⟨Nat.le_of_ble_eq_true rfl, Nat.le_of_ble_eq_true rfl⟩ hl.1 rfl (Nat.le_of_ble_eq_true rfl) ⟨Nat.le_refl _, Nat.le_refl _⟩ dX9_makeTiesOlder_11 hM (fun σ1 r2 H locs hG hM => ?_)
  exact e_vret X hG dX9_makeTiesOlder_14 hM
def M_X9_makePolesOlder (σ : St) (k : Nat)  : Option (St × Int32) := bcall (M_X10_makeOlder σ (k + 2) (σ k 6) (1 : Int32) (60 : Int32)) fun σ1 r2 => some (σ1, 0)
set_option maxRecDepth 20000 in
set_option maxHeartbeats 4000000 in
theorem C_X9_makePolesOlder (l : Launch) (E : Ev) {σ σ' : St} {k : Nat} {r : Int32} (h : M_X9_makePolesOlder σ k = some (σ', r)) (hL : lay 9 k) : Mv l E yX9_makePolesOlder cX9_makePolesOlder 1 3 [.ref (E.1 k)] σ σ' := by
  refine Mv_of (C := RX9) rfl (by decide) (Nat.le_of_ble_eq_true rfl) (z := (σ', r)) (fun p e s m below meth c ls X hG hl => ?_)
  have hx := X.1.1.1
  have hb := X.1.1.2.1
  have hM := h
  unfold M_X9_makePolesOlder at hM
  generalize (σ', r) = z at hM ⊢
  have hl : lv_has ls 1 [(0, .ref (E.1 k))] := hl
  refine lv_aload_n hx hb dX9_makePolesOlder_0 rfl (lv_at hl 0 rfl) ?_
  refine gt_9_1 X.1 hG hL mw98 dX9_makePolesOlder_1 ?_
  refine lv_aload_n hx hb dX9_makePolesOlder_4 rfl (lv_at hl 0 rfl) ?_
  refine gt_9_6 X.1 hG hL mw103 dX9_makePolesOlder_5 ?_
  refine lv_iconst (v := (1 : Int32)) hx hb dX9_makePolesOlder_8 (by decide) ?_
  refine lv_bipush (v := (60 : Int32)) hx hb dX9_makePolesOlder_9 (by decide) ?_
  refine g_callSN_v (nA := 4) (o := M_X10_makeOlder σ (k + 2) (σ k 6) (1 : Int32) (60 : Int32)) (As := [.ref (E.1 (k + 2)), .int (σ k 6), .int (1 : Int32), .int (60 : Int32)]) X.1 hG (fun _ _ h => C_X10_makeOlder l E h (lf_9_1 hL)) mw706 mw707 mw12 (gw_ok mw708 rfl) (by decide +kernel) rfl ⟨Nat.le_of_ble_eq_true rfl, Nat.le_of_ble_eq_true rfl⟩ hl.1 rfl (Nat.le_of_ble_eq_true rfl) ⟨Nat.le_refl _, Nat.le_refl _⟩ dX9_makePolesOlder_11 hM (fun σ1 r2 H locs hG hM => ?_)
  exact e_vret X hG dX9_makePolesOlder_14 hM
def M_X9_take (σ : St) (k a0 : Nat)  : Option (St × Int32) := bcall (M_X10_copy σ (a0 + 1) (k + 1)) fun σ1 r2 => bcall (M_X10_copy σ1 (a0 + 2) (k + 2)) fun σ3 r4 => bcall (M_X10_copy σ3 (a0 + 3) (k + 3)) fun σ5 r6 => bcall (M_X10_copy σ5 (a0 + 4) (k + 4)) fun σ7 r8 => bcall (M_X10_copy σ7 (a0 + 5) (k + 5)) fun σ9 r10 => bcall (M_X10_copy σ9 (a0 + 6) (k + 6)) fun σ11 r12 => bput σ11 k 6 (σ11 a0 6) fun σ13 => some (σ13, 0)
set_option maxRecDepth 20000 in
set_option maxHeartbeats 4000000 in
theorem C_X9_take (l : Launch) (E : Ev) {σ σ' : St} {k : Nat} {a0 : Nat} {r : Int32} (h : M_X9_take σ k a0 = some (σ', r)) (hL : lay 9 k) (hA0 : lay 9 a0) : Mv l E yX9_take cX9_take 2 2 [.ref (E.1 k), .ref (E.1 a0)] σ σ' := by
  refine Mv_of (C := RX9) rfl (by decide) (Nat.le_of_ble_eq_true rfl) (z := (σ', r)) (fun p e s m below meth c ls X hG hl => ?_)
  have hx := X.1.1.1
  have hb := X.1.1.2.1
  have hM := h
  unfold M_X9_take at hM
  generalize (σ', r) = z at hM ⊢
  have hl : lv_has ls 2 [(0, .ref (E.1 k)), (1, .ref (E.1 a0))] := hl
  refine lv_aload_n hx hb dX9_take_0 rfl (lv_at hl 1 rfl) ?_
  refine gt_9_0 X.1 hG hA0 mw97 dX9_take_1 ?_
  refine lv_aload_n hx hb dX9_take_4 rfl (lv_at hl 0 rfl) ?_
  refine gt_9_0 X.1 hG hL mw97 dX9_take_5 ?_
  refine g_callSN_v (nA := 2) (o := M_X10_copy σ (a0 + 1) (k + 1)) (As := [.ref (E.1 (a0 + 1)), .ref (E.1 (k + 1))]) X.1 hG (fun _ _ h => C_X10_copy l E h (lf_9_0 hA0) (lf_9_0 hL)) mw406 mw396 mw12 (gw_ok mw397 rfl) (by decide +kernel) rfl ⟨Nat.le_of_ble_eq_true rfl, Nat.le_of_ble_eq_true rfl⟩ hl.1 rfl (Nat.le_of_ble_eq_true rfl) ⟨Nat.le_refl _, Nat.le_refl _⟩ dX9_take_8 hM (fun σ1 r2 H locs hG hM => ?_)
  refine lv_aload_n hx hb dX9_take_11 rfl (lv_at hl 1 rfl) ?_
  refine gt_9_1 X.1 hG hA0 mw98 dX9_take_12 ?_
  refine lv_aload_n hx hb dX9_take_15 rfl (lv_at hl 0 rfl) ?_
  refine gt_9_1 X.1 hG hL mw98 dX9_take_16 ?_
  refine g_callSN_v (nA := 2) (o := M_X10_copy σ1 (a0 + 2) (k + 2)) (As := [.ref (E.1 (a0 + 2)), .ref (E.1 (k + 2))]) X.1 hG (fun _ _ h => C_X10_copy l E h (lf_9_1 hA0) (lf_9_1 hL)) mw406 mw396 mw12 (gw_ok mw397 rfl) (by decide +kernel) rfl ⟨Nat.le_of_ble_eq_true rfl, Nat.le_of_ble_eq_true rfl⟩ hl.1 rfl (Nat.le_of_ble_eq_true rfl) ⟨Nat.le_refl _, Nat.le_refl _⟩ dX9_take_19 hM (fun σ3 r4 H locs hG hM => ?_)
  refine lv_aload_n hx hb dX9_take_22 rfl (lv_at hl 1 rfl) ?_
  refine gt_9_2 X.1 hG hA0 mw99 dX9_take_23 ?_
  refine lv_aload_n hx hb dX9_take_26 rfl (lv_at hl 0 rfl) ?_
  refine gt_9_2 X.1 hG hL mw99 dX9_take_27 ?_
  refine g_callSN_v (nA := 2) (o := M_X10_copy σ3 (a0 + 3) (k + 3)) (As := [.ref (E.1 (a0 + 3)), .ref (E.1 (k + 3))]) X.1 hG (fun _ _ h => C_X10_copy l E h (lf_9_2 hA0) (lf_9_2 hL)) mw406 mw396 mw12 (gw_ok mw397 rfl) (by decide +kernel) rfl ⟨Nat.le_of_ble_eq_true rfl, Nat.le_of_ble_eq_true rfl⟩ hl.1 rfl (Nat.le_of_ble_eq_true rfl) ⟨Nat.le_refl _, Nat.le_refl _⟩ dX9_take_30 hM (fun σ5 r6 H locs hG hM => ?_)
  refine lv_aload_n hx hb dX9_take_33 rfl (lv_at hl 1 rfl) ?_
  refine gt_9_3 X.1 hG hA0 mw100 dX9_take_34 ?_
  refine lv_aload_n hx hb dX9_take_37 rfl (lv_at hl 0 rfl) ?_
  refine gt_9_3 X.1 hG hL mw100 dX9_take_38 ?_
  refine g_callSN_v (nA := 2) (o := M_X10_copy σ5 (a0 + 4) (k + 4)) (As := [.ref (E.1 (a0 + 4)), .ref (E.1 (k + 4))]) X.1 hG (fun _ _ h => C_X10_copy l E h (lf_9_3 hA0) (lf_9_3 hL)) mw406 mw396 mw12 (gw_ok mw397 rfl) (by decide +kernel) rfl ⟨Nat.le_of_ble_eq_true rfl, Nat.le_of_ble_eq_true rfl⟩ hl.1 rfl (Nat.le_of_ble_eq_true rfl) ⟨Nat.le_refl _, Nat.le_refl _⟩ dX9_take_41 hM (fun σ7 r8 H locs hG hM => ?_)
  refine lv_aload_n hx hb dX9_take_44 rfl (lv_at hl 1 rfl) ?_
  refine gt_9_4 X.1 hG hA0 mw101 dX9_take_45 ?_
  refine lv_aload_n hx hb dX9_take_48 rfl (lv_at hl 0 rfl) ?_
  refine gt_9_4 X.1 hG hL mw101 dX9_take_49 ?_
  refine g_callSN_v (nA := 2) (o := M_X10_copy σ7 (a0 + 5) (k + 5)) (As := [.ref (E.1 (a0 + 5)), .ref (E.1 (k + 5))]) X.1 hG (fun _ _ h => C_X10_copy l E h (lf_9_4 hA0) (lf_9_4 hL)) mw406 mw396 mw12 (gw_ok mw397 rfl) (by decide +kernel) rfl ⟨Nat.le_of_ble_eq_true rfl, Nat.le_of_ble_eq_true rfl⟩ hl.1 rfl (Nat.le_of_ble_eq_true rfl) ⟨Nat.le_refl _, Nat.le_refl _⟩ dX9_take_52 hM (fun σ9 r10 H locs hG hM => ?_)
  refine lv_aload_n hx hb dX9_take_55 rfl (lv_at hl 1 rfl) ?_
  refine gt_9_5 X.1 hG hA0 mw102 dX9_take_56 ?_
  refine lv_aload_n hx hb dX9_take_59 rfl (lv_at hl 0 rfl) ?_
  refine gt_9_5 X.1 hG hL mw102 dX9_take_60 ?_
  refine g_callSN_v (nA := 2) (o := M_X10_copy σ9 (a0 + 6) (k + 6)) (As := [.ref (E.1 (a0 + 6)), .ref (E.1 (k + 6))]) X.1 hG (fun _ _ h => C_X10_copy l E h (lf_9_5 hA0) (lf_9_5 hL)) mw406 mw396 mw12 (gw_ok mw397 rfl) (by decide +kernel) rfl ⟨Nat.le_of_ble_eq_true rfl, Nat.le_of_ble_eq_true rfl⟩ hl.1 rfl (Nat.le_of_ble_eq_true rfl) ⟨Nat.le_refl _, Nat.le_refl _⟩ dX9_take_63 hM (fun σ11 r12 H locs hG hM => ?_)
  refine lv_aload_n hx hb dX9_take_66 rfl (lv_at hl 0 rfl) ?_
  refine lv_aload_n hx hb dX9_take_67 rfl (lv_at hl 1 rfl) ?_
  refine gt_9_6 X.1 hG hA0 mw103 dX9_take_68 ?_
  refine pt_9_6 X.1 hG hL mw103 dX9_take_71 hM (fun σ13 H locs hG hM => ?_)
  exact e_vret X hG dX9_take_74 hM
def M_X10_clear (σ : St) (k : Nat)  : Option (St × Int32) := blet (σ (k + 5) 4) fun v1 => bcall (M_X7_makeBare σ (k + 5)) fun σ2 r3 => bcall (M_X2_forget σ2 (k + 59)) fun σ4 r5 => some (σ4, v1)
set_option maxRecDepth 20000 in
set_option maxHeartbeats 4000000 in
theorem C_X10_clear (l : Launch) (E : Ev) {σ σ' : St} {k : Nat} {r : Int32} (h : M_X10_clear σ k = some (σ', r)) (hL : lay 10 k) : Mi l E yX10_clear cX10_clear 2 (some .int) 3 [.ref (E.1 k)] σ σ' r := by
  refine Mi_of (C := RX10) rfl (by decide) (Nat.le_of_ble_eq_true rfl) (z := (σ', r)) (fun p e s m below meth c ls X hG hl => ?_)
  have hx := X.1.1.1
  have hb := X.1.1.2.1
  have hM := h
  unfold M_X10_clear at hM
  generalize (σ', r) = z at hM ⊢
  have hl : lv_has ls 2 [(0, .ref (E.1 k))] := hl
  refine lv_aload_n hx hb dX10_clear_0 rfl (lv_at hl 0 rfl) ?_
  refine gt_10_1 X.1 hG hL mw300 dX10_clear_1 ?_
  refine gtN_7_4 X.1 hG (lf_10_1 hL) mw175 dX10_clear_4 ?_
  refine g_name hM (fun v1 hM => ?_)
  refine lv_istore_n (lv' := [(1, .int v1), (0, .ref (E.1 k))]) hx hb dX10_clear_7 rfl hl (by decide) rfl (fun ls hl => ?_)
  refine lv_aload_n hx hb dX10_clear_8 rfl (lv_at hl 1 rfl) ?_
  refine gt_10_1 X.1 hG hL mw300 dX10_clear_9 ?_
  refine g_callV_v (nA := 0) (o := M_X7_makeBare σ (k + 5)) (As := []) X.1 hG (lf_10_1 hL) rfl rfl (fun _ _ h => C_X7_makeBare l E h (lf_10_1 hL)) mw334 mw335 mw336 mw15 (gw_ok mw337 rfl) (by decide +kernel) rfl ⟨Nat.le_of_ble_eq_true rfl, Nat.le_of_ble_eq_true rfl⟩ hl.1 rfl (Nat.le_of_ble_eq_true rfl) ⟨Nat.le_refl _, Nat.le_refl _⟩ dX10_clear_12 hM (fun σ2 r3 H locs hG hM => ?_)
  refine lv_aload_n hx hb dX10_clear_15 rfl (lv_at hl 1 rfl) ?_
  refine gt_10_4 X.1 hG hL mw303 dX10_clear_16 ?_
  refine g_callV_v (nA := 0) (o := M_X2_forget σ2 (k + 59)) (As := []) X.1 hG (lf_10_4 hL) rfl rfl (fun _ _ h => C_X2_forget l E h (lf_10_4 hL)) mw360 mw361 mw362 mw20 (gw_ok mw363 rfl) (by decide +kernel) rfl ⟨Nat.le_of_ble_eq_true rfl, Nat.le_of_ble_eq_true rfl⟩ hl.1 rfl (Nat.le_of_ble_eq_true rfl) ⟨Nat.le_refl _, Nat.le_refl _⟩ dX10_clear_19 hM (fun σ4 r5 H locs hG hM => ?_)
  refine lv_iload_n hx hb dX10_clear_22 rfl (lv_at hl 0 rfl) ?_
  exact e_iret X hG dX10_clear_23 hM
def M_X10_append (σ : St) (k : Nat) (p0 : Int32) : Option (St × Int32) := bcall (M_X10_isWithin σ p0 (32 : Int32) (126 : Int32)) fun σ1 r2 => if r2 = 0 then some (σ1, (-2 : Int32)) else (if (σ1 (k + 241) 1) < (60 : Int32) then (bcall (M_X4_put σ1 (k + 241) p0) fun σ3 r4 => some (σ3, σ3 (k + 241) 1)) else some (σ1, (-2 : Int32)))
set_option maxRecDepth 20000 in
set_option maxHeartbeats 4000000 in
theorem C_X10_append (l : Launch) (E : Ev) {σ σ' : St} {k : Nat} {p0 : Int32} {r : Int32} (h : M_X10_append σ k p0 = some (σ', r)) (hL : lay 10 k) : Mi l E yX10_append cX10_append 2 (some .int) 2 [.ref (E.1 k), .int p0] σ σ' r := by
  refine Mi_of (C := RX10) rfl (by decide) (Nat.le_of_ble_eq_true rfl) (z := (σ', r)) (fun p e s m below meth c ls X hG hl => ?_)
  have hx := X.1.1.1
  have hb := X.1.1.2.1
  have hM := h
  unfold M_X10_append at hM
  generalize (σ', r) = z at hM ⊢
  have hl : lv_has ls 2 [(0, .ref (E.1 k)), (1, .int p0)] := hl
  refine lv_iload_n hx hb dX10_append_0 rfl (lv_at hl 1 rfl) ?_
  refine lv_bipush (v := (32 : Int32)) hx hb dX10_append_1 (by decide) ?_
  refine lv_bipush (v := (126 : Int32)) hx hb dX10_append_3 (by decide) ?_
  refine g_callS_i (nA := 3) (o := M_X10_isWithin σ p0 (32 : Int32) (126 : Int32)) (As := [.int p0, .int (32 : Int32), .int (126 : Int32)]) X.1 hG (fun _ _ h => C_X10_isWithin l E h ) mw368 mw369 mw12 (gw_ok mw370 rfl) (by decide +kernel) rfl ⟨Nat.le_of_ble_eq_true rfl, Nat.le_of_ble_eq_true rfl⟩ hl.1 rfl (Nat.le_of_ble_eq_true rfl) ⟨Nat.le_refl _, Nat.le_refl _⟩ dX10_append_5 hM (fun σ1 r2 H locs hG hM => ?_)
  refine lv_if_eq (tgt := 23) hx hb dX10_append_8 (by decide) (fun c6 => ?_) (fun c6 => ?_)
  · have hM := b_if hM c6
    refine lv_bipush (v := (-2 : Int32)) hx hb dX10_append_23 (by decide) ?_
    exact e_iret X hG dX10_append_25 hM
  · have hM := b_else hM c6
    refine lv_aload_n hx hb dX10_append_11 rfl (lv_at hl 0 rfl) ?_
    refine gt_10_5 X.1 hG hL mw304 dX10_append_12 ?_
    refine gtN_4_1 X.1 hG (lf_10_5 hL) mw272 dX10_append_15 ?_
    refine lv_bipush (v := (60 : Int32)) hx hb dX10_append_18 (by decide) ?_
    refine lv_icmp_lt (tgt := 26) hx hb dX10_append_20 (by decide) (fun c5 => ?_) (fun c5 => ?_)
    · have hM := b_if hM c5
      refine lv_aload_n hx hb dX10_append_26 rfl (lv_at hl 0 rfl) ?_
      refine gt_10_5 X.1 hG hL mw304 dX10_append_27 ?_
      refine lv_iload_n hx hb dX10_append_30 rfl (lv_at hl 1 rfl) ?_
      refine g_callV_v (nA := 1) (o := M_X4_put σ1 (k + 241) p0) (As := [.int p0]) X.1 hG (lf_10_5 hL) rfl rfl (fun _ _ h => C_X4_put l E h (lf_10_5 hL)) mw371 mw372 mw373 mw21 (gw_ok mw374 rfl) (by decide +kernel) rfl ⟨Nat.le_of_ble_eq_true rfl, Nat.le_of_ble_eq_true rfl⟩ hl.1 rfl (Nat.le_of_ble_eq_true rfl) ⟨Nat.le_refl _, Nat.le_refl _⟩ dX10_append_31 hM (fun σ3 r4 H locs hG hM => ?_)
      refine lv_aload_n hx hb dX10_append_34 rfl (lv_at hl 0 rfl) ?_
      refine gt_10_5 X.1 hG hL mw304 dX10_append_35 ?_
      refine gtN_4_1 X.1 hG (lf_10_5 hL) mw272 dX10_append_38 ?_
      exact e_iret X hG dX10_append_41 hM
    · have hM := b_else hM c5
      refine lv_bipush (v := (-2 : Int32)) hx hb dX10_append_23 (by decide) ?_
      exact e_iret X hG dX10_append_25 hM
def M_X10_reason (σ : St) (k : Nat) (p0 p1 : Int32) : Option (St × Int32) := bcall (M_X6_tell σ ((k + 1) + 1) p0 p1) fun σ1 r2 => some (σ1, r2)
set_option maxRecDepth 20000 in
set_option maxHeartbeats 4000000 in
theorem C_X10_reason (l : Launch) (E : Ev) {σ σ' : St} {k : Nat} {p0 : Int32} {p1 : Int32} {r : Int32} (h : M_X10_reason σ k p0 p1 = some (σ', r)) (hL : lay 10 k) : Mi l E yX10_reason cX10_reason 3 (some .int) 3 [.ref (E.1 k), .int p0, .int p1] σ σ' r := by
  refine Mi_of (C := RX10) rfl (by decide) (Nat.le_of_ble_eq_true rfl) (z := (σ', r)) (fun p e s m below meth c ls X hG hl => ?_)
  have hx := X.1.1.1
  have hb := X.1.1.2.1
  have hM := h
  unfold M_X10_reason at hM
  generalize (σ', r) = z at hM ⊢
  have hl : lv_has ls 3 [(0, .ref (E.1 k)), (1, .int p0), (2, .int p1)] := hl
  refine lv_aload_n hx hb dX10_reason_0 rfl (lv_at hl 0 rfl) ?_
  refine gt_10_0 X.1 hG hL mw299 dX10_reason_1 ?_
  refine gtN_8_0 X.1 hG (lf_10_0 hL) mw230 dX10_reason_4 ?_
  refine lv_iload_n hx hb dX10_reason_7 rfl (lv_at hl 1 rfl) ?_
  refine lv_iload_n hx hb dX10_reason_8 rfl (lv_at hl 2 rfl) ?_
  refine g_callV_i (nA := 2) (o := M_X6_tell σ ((k + 1) + 1) p0 p1) (As := [.int p0, .int p1]) X.1 hG (lf_8_0 (lf_10_0 hL)) rfl rfl (fun _ _ h => C_X6_tell l E h (lf_8_0 (lf_10_0 hL))) mw1019 mw1020 mw1021 mw14 (gw_ok mw1022 rfl) (by decide +kernel) rfl ⟨Nat.le_of_ble_eq_true rfl, Nat.le_of_ble_eq_true rfl⟩ hl.1 rfl (Nat.le_of_ble_eq_true rfl) ⟨Nat.le_refl _, Nat.le_refl _⟩ dX10_reason_9 hM (fun σ1 r2 H locs hG hM => ?_)
  exact e_iret X hG dX10_reason_12 hM
def M_X10_bundleOf (σ : St) (k : Nat) (p0 p1 : Int32) : Option (St × Int32) := bcall (M_X0_has σ ((k + 5) + 1) p0) fun σ1 r2 => if r2 = 0 then some (σ1, (-1 : Int32)) else (if p1 = 0 then (bcall (M_X0_polesOf σ1 ((k + 5) + 1) p0) fun σ3 r4 => some (σ3, r4)) else (bcall (M_X0_weeksOf σ1 ((k + 5) + 1) p0) fun σ5 r6 => some (σ5, r6)))
set_option maxRecDepth 20000 in
set_option maxHeartbeats 4000000 in
theorem C_X10_bundleOf (l : Launch) (E : Ev) {σ σ' : St} {k : Nat} {p0 : Int32} {p1 : Int32} {r : Int32} (h : M_X10_bundleOf σ k p0 p1 = some (σ', r)) (hL : lay 10 k) : Mi l E yX10_bundleOf cX10_bundleOf 3 (some .int) 3 [.ref (E.1 k), .int p0, .int p1] σ σ' r := by
  refine Mi_of (C := RX10) rfl (by decide) (Nat.le_of_ble_eq_true rfl) (z := (σ', r)) (fun p e s m below meth c ls X hG hl => ?_)
  have hx := X.1.1.1
  have hb := X.1.1.2.1
  have hM := h
  unfold M_X10_bundleOf at hM
  generalize (σ', r) = z at hM ⊢
  have hl : lv_has ls 3 [(0, .ref (E.1 k)), (1, .int p0), (2, .int p1)] := hl
  refine lv_aload_n hx hb dX10_bundleOf_0 rfl (lv_at hl 0 rfl) ?_
  refine gt_10_1 X.1 hG hL mw300 dX10_bundleOf_1 ?_
  refine gtN_7_0 X.1 hG (lf_10_1 hL) mw164 dX10_bundleOf_4 ?_
  refine lv_iload_n hx hb dX10_bundleOf_7 rfl (lv_at hl 1 rfl) ?_
  refine g_callV_i (nA := 1) (o := M_X0_has σ ((k + 5) + 1) p0) (As := [.int p0]) X.1 hG (lf_7_0 (lf_10_1 hL)) rfl rfl (fun _ _ h => C_X0_has l E h (lf_7_0 (lf_10_1 hL))) mw1090 mw465 mw466 mw16 (gw_ok mw467 rfl) (by decide +kernel) rfl ⟨Nat.le_of_ble_eq_true rfl, Nat.le_of_ble_eq_true rfl⟩ hl.1 rfl (Nat.le_of_ble_eq_true rfl) ⟨Nat.le_refl _, Nat.le_refl _⟩ dX10_bundleOf_8 hM (fun σ1 r2 H locs hG hM => ?_)
  refine lv_if_ne (tgt := 16) hx hb dX10_bundleOf_11 (by decide) (fun c8 => ?_) (fun c8 => ?_)
  · have hM := b_else hM c8
    refine lv_iload_n hx hb dX10_bundleOf_16 rfl (lv_at hl 2 rfl) ?_
    refine lv_if_eq (tgt := 34) hx hb dX10_bundleOf_17 (by decide) (fun c7 => ?_) (fun c7 => ?_)
    · have hM := b_if hM c7
      refine lv_aload_n hx hb dX10_bundleOf_34 rfl (lv_at hl 0 rfl) ?_
      refine gt_10_1 X.1 hG hL mw300 dX10_bundleOf_35 ?_
      refine gtN_7_0 X.1 hG (lf_10_1 hL) mw164 dX10_bundleOf_38 ?_
      refine lv_iload_n hx hb dX10_bundleOf_41 rfl (lv_at hl 1 rfl) ?_
      refine g_callV_i (nA := 1) (o := M_X0_polesOf σ1 ((k + 5) + 1) p0) (As := [.int p0]) X.1 hG (lf_7_0 (lf_10_1 hL)) rfl rfl (fun _ _ h => C_X0_polesOf l E h (lf_7_0 (lf_10_1 hL))) mw1092 mw473 mw474 mw16 (gw_ok mw475 rfl) (by decide +kernel) rfl ⟨Nat.le_of_ble_eq_true rfl, Nat.le_of_ble_eq_true rfl⟩ hl.1 rfl (Nat.le_of_ble_eq_true rfl) ⟨Nat.le_refl _, Nat.le_refl _⟩ dX10_bundleOf_42 hM (fun σ3 r4 H locs hG hM => ?_)
      exact e_iret X hG dX10_bundleOf_45 hM
    · have hM := b_else hM c7
      refine lv_aload_n hx hb dX10_bundleOf_20 rfl (lv_at hl 0 rfl) ?_
      refine gt_10_1 X.1 hG hL mw300 dX10_bundleOf_21 ?_
      refine gtN_7_0 X.1 hG (lf_10_1 hL) mw164 dX10_bundleOf_24 ?_
      refine lv_iload_n hx hb dX10_bundleOf_27 rfl (lv_at hl 1 rfl) ?_
      refine g_callV_i (nA := 1) (o := M_X0_weeksOf σ1 ((k + 5) + 1) p0) (As := [.int p0]) X.1 hG (lf_7_0 (lf_10_1 hL)) rfl rfl (fun _ _ h => C_X0_weeksOf l E h (lf_7_0 (lf_10_1 hL))) mw1091 mw485 mw486 mw16 (gw_ok mw487 rfl) (by decide +kernel) rfl ⟨Nat.le_of_ble_eq_true rfl, Nat.le_of_ble_eq_true rfl⟩ hl.1 rfl (Nat.le_of_ble_eq_true rfl) ⟨Nat.le_refl _, Nat.le_refl _⟩ dX10_bundleOf_28 hM (fun σ5 r6 H locs hG hM => ?_)
      refine lv_goto (tgt := 45) hx hb dX10_bundleOf_31 (by decide) ?_
      exact e_iret X hG dX10_bundleOf_45 hM
  · have hM := b_if hM c8
    refine lv_iconst (v := (-1 : Int32)) hx hb dX10_bundleOf_14 (by decide) ?_
    exact e_iret X hG dX10_bundleOf_15 hM
