def B_X9_strengthByStepsOf_54  : Nat → St → Nat → Int32 → Int32 → Int32 → Option (St × Int32)
  | 0, _, _, _, _, _ => none
  | n + 1, σ, k, x1, x2, x3 => if x1 < x3 then (if 0 ≤ x2 then some (σ, x2) else some (σ, (0 : Int32))) else (blet (x2 + (-1 : Int32)) fun v9 => blet (x3 + (2 : Int32)) fun v10 => B_X9_strengthByStepsOf_54 n σ k x1 v9 v10)
def B_X9_strengthByStepsOf_34  : Nat → St → Nat → Int32 → Int32 → Int32 → Option (St × Int32)
  | 0, _, _, _, _, _ => none
  | n + 1, σ, k, x1, x2, x3 => bcall (M_X9_tieOf σ k x1) fun σ6 r7 => if r7 < x3 then (B_X9_strengthByStepsOf_54 FU σ6 k x1 x2 (2 : Int32)) else (blet (x2 + (-1 : Int32)) fun v12 => blet (x3 + (5 : Int32)) fun v13 => B_X9_strengthByStepsOf_34 n σ6 k x1 v12 v13)
def B_X9_strengthByStepsOf_14  : Nat → St → Nat → Int32 → Int32 → Int32 → Option (St × Int32)
  | 0, _, _, _, _, _ => none
  | n + 1, σ, k, x1, x2, x3 => bcall (M_X9_polesOf σ k x1) fun σ4 r5 => if r5 < x3 then (B_X9_strengthByStepsOf_34 FU σ4 k x1 x2 (5 : Int32)) else (blet (x2 + (1 : Int32)) fun v15 => blet (x3 + (1 : Int32)) fun v16 => B_X9_strengthByStepsOf_14 n σ4 k x1 v15 v16)
def M_X9_strengthByStepsOf (σ : St) (k : Nat) (p0 : Int32) : Option (St × Int32) := bcall (M_X9_weeksOf σ k p0) fun σ1 r2 => blet ((12 : Int32) - (r2 / (6 : Int32))) fun v3 => B_X9_strengthByStepsOf_14 FU σ1 k p0 v3 (1 : Int32)
set_option maxRecDepth 20000 in
set_option maxHeartbeats 4000000 in
theorem w_X9_strengthByStepsOf_54 {p : Program} {l : Launch} {e : Env} {s : State} {m : MethodId} {below : List Frame} {meth : Method} {c : Code} {args : Array Value} {E : Ev} {k : Nat} (X : Bx E p m meth c cX9_strengthByStepsOf 4 (some .int) s args RX9) (hL : lay 9 k) : ∀ (n : Nat) (σ : St) (x1 x2 x3 : Int32) (H : Heap) (locs : List Loc) (ls : Array Slot) (z : St × Int32), GS E σ s.heap H locs → lv_has ls 4 [(1, .int x1), (2, .int x2), (3, .int x3)] → B_X9_strengthByStepsOf_54 n σ k x1 x2 x3 = some z → W p l e (rmd 3) s m args below meth c H locs 0 0 (QI E z below args s) (F0 m 54 ls []) := by
  have hx := X.1.1.1
  have hb := X.1.1.2.1
  intro n
  induction n with
  | zero => intro σ x1 x2 x3 H locs ls z  hG hl hM; cases hM
  | succ n ih =>
    intro σ x1 x2 x3 H locs ls z  hG hl hM
    unfold B_X9_strengthByStepsOf_54 at hM
    refine lv_iload_n hx hb dX9_strengthByStepsOf_54 rfl (lv_at hl 2 rfl) ?_
    refine lv_iload_n hx hb dX9_strengthByStepsOf_55 rfl (lv_at hl 0 rfl) ?_
    refine lv_icmp_gt (tgt := 68) hx hb dX9_strengthByStepsOf_56 (by decide) (fun c11 => ?_) (fun c11 => ?_)
    · have hM := b_if hM c11
      refine lv_iload_n hx hb dX9_strengthByStepsOf_68 rfl (lv_at hl 1 rfl) ?_
      refine lv_if_ge (tgt := 76) hx hb dX9_strengthByStepsOf_69 (by decide) (fun c8 => ?_) (fun c8 => ?_)
      · have hM := b_if hM c8
        refine lv_iload_n hx hb dX9_strengthByStepsOf_76 rfl (lv_at hl 1 rfl) ?_
        exact e_iret X hG dX9_strengthByStepsOf_77 hM
      · have hM := b_else hM c8
        refine lv_iconst (v := (0 : Int32)) hx hb dX9_strengthByStepsOf_72 (by decide) ?_
        refine lv_goto (tgt := 77) hx hb dX9_strengthByStepsOf_73 (by decide) ?_
        exact e_iret X hG dX9_strengthByStepsOf_77 hM
    · have hM := b_else hM c11
      obtain ⟨v9, ev9, hM⟩ := g_nm hM
      refine lv_iinc (v := v9) (lv' := [(2, .int v9), (1, .int x1), (3, .int x3)]) hx hb dX9_strengthByStepsOf_59 hl (k := 1) rfl (by rw [ev9]; rfl) (by decide) rfl (fun ls hl => ?_)
      obtain ⟨v10, ev10, hM⟩ := g_nm hM
      refine lv_iinc (v := v10) (lv' := [(3, .int v10), (2, .int v9), (1, .int x1)]) hx hb dX9_strengthByStepsOf_62 hl (k := 2) rfl (by rw [ev10]; rfl) (by decide) rfl (fun ls hl => ?_)
      refine lv_goto (tgt := 54) hx hb dX9_strengthByStepsOf_65 (by decide) ?_
      exact ih σ x1 v9 v10 _ _ _ z hG (lv_sub hl [2, 1, 0] rfl) hM
set_option maxRecDepth 20000 in
set_option maxHeartbeats 4000000 in
theorem w_X9_strengthByStepsOf_34 {p : Program} {l : Launch} {e : Env} {s : State} {m : MethodId} {below : List Frame} {meth : Method} {c : Code} {args : Array Value} {E : Ev} {k : Nat} (X : Bx E p m meth c cX9_strengthByStepsOf 4 (some .int) s args RX9) (hL : lay 9 k) : ∀ (n : Nat) (σ : St) (x1 x2 x3 : Int32) (H : Heap) (locs : List Loc) (ls : Array Slot) (z : St × Int32), GS E σ s.heap H locs → lv_has ls 4 [(0, .ref (E.1 k)), (1, .int x1), (2, .int x2), (3, .int x3)] → B_X9_strengthByStepsOf_34 n σ k x1 x2 x3 = some z → W p l e (rmd 3) s m args below meth c H locs 0 0 (QI E z below args s) (F0 m 34 ls []) := by
  have hx := X.1.1.1
  have hb := X.1.1.2.1
  intro n
  induction n with
  | zero => intro σ x1 x2 x3 H locs ls z  hG hl hM; cases hM
  | succ n ih =>
    intro σ x1 x2 x3 H locs ls z  hG hl hM
    unfold B_X9_strengthByStepsOf_34 at hM
    refine lv_iload_n hx hb dX9_strengthByStepsOf_34 rfl (lv_at hl 3 rfl) ?_
    refine lv_aload_n hx hb dX9_strengthByStepsOf_35 rfl (lv_at hl 0 rfl) ?_
    refine lv_iload_n hx hb dX9_strengthByStepsOf_36 rfl (lv_at hl 1 rfl) ?_
    refine g_callV_i (nA := 1) (o := M_X9_tieOf σ k x1) (As := [.int x1]) X.1 hG hL rfl rfl (fun _ _ h => C_X9_tieOf l E h hL) mw942 mw544 mw545 mw56 (gw_ok mw546 rfl) (by decide +kernel) rfl ⟨Nat.le_of_ble_eq_true rfl, Nat.le_of_ble_eq_true rfl⟩ hl.1 rfl (Nat.le_of_ble_eq_true rfl) ⟨Nat.le_refl _, Nat.le_refl _⟩ dX9_strengthByStepsOf_37 hM (fun σ6 r7 H locs hG hM => ?_)
    refine lv_icmp_gt (tgt := 52) hx hb dX9_strengthByStepsOf_40 (by decide) (fun c14 => ?_) (fun c14 => ?_)
    · have hM := b_if hM c14
      refine lv_iconst (v := (2 : Int32)) hx hb dX9_strengthByStepsOf_52 (by decide) ?_
      refine lv_istore_n (lv' := [(3, .int (2 : Int32)), (0, .ref (E.1 k)), (1, .int x1), (2, .int x2)]) hx hb dX9_strengthByStepsOf_53 rfl hl (by decide) rfl (fun ls hl => ?_)
      exact w_X9_strengthByStepsOf_54 X hL FU σ6 x1 x2 (2 : Int32) _ _ _ z hG (lv_sub hl [2, 3, 0] rfl) hM
    · have hM := b_else hM c14
      obtain ⟨v12, ev12, hM⟩ := g_nm hM
      refine lv_iinc (v := v12) (lv' := [(2, .int v12), (0, .ref (E.1 k)), (1, .int x1), (3, .int x3)]) hx hb dX9_strengthByStepsOf_43 hl (k := 2) rfl (by rw [ev12]; rfl) (by decide) rfl (fun ls hl => ?_)
      obtain ⟨v13, ev13, hM⟩ := g_nm hM
      refine lv_iinc (v := v13) (lv' := [(3, .int v13), (2, .int v12), (0, .ref (E.1 k)), (1, .int x1)]) hx hb dX9_strengthByStepsOf_46 hl (k := 3) rfl (by rw [ev13]; rfl) (by decide) rfl (fun ls hl => ?_)
      refine lv_goto (tgt := 34) hx hb dX9_strengthByStepsOf_49 (by decide) ?_
      exact ih σ6 x1 v12 v13 _ _ _ z hG (lv_sub hl [2, 3, 1, 0] rfl) hM
set_option maxRecDepth 20000 in
set_option maxHeartbeats 4000000 in
theorem w_X9_strengthByStepsOf_14 {p : Program} {l : Launch} {e : Env} {s : State} {m : MethodId} {below : List Frame} {meth : Method} {c : Code} {args : Array Value} {E : Ev} {k : Nat} (X : Bx E p m meth c cX9_strengthByStepsOf 4 (some .int) s args RX9) (hL : lay 9 k) : ∀ (n : Nat) (σ : St) (x1 x2 x3 : Int32) (H : Heap) (locs : List Loc) (ls : Array Slot) (z : St × Int32), GS E σ s.heap H locs → lv_has ls 4 [(0, .ref (E.1 k)), (1, .int x1), (2, .int x2), (3, .int x3)] → B_X9_strengthByStepsOf_14 n σ k x1 x2 x3 = some z → W p l e (rmd 3) s m args below meth c H locs 0 0 (QI E z below args s) (F0 m 14 ls []) := by
  have hx := X.1.1.1
  have hb := X.1.1.2.1
  intro n
  induction n with
  | zero => intro σ x1 x2 x3 H locs ls z  hG hl hM; cases hM
  | succ n ih =>
    intro σ x1 x2 x3 H locs ls z  hG hl hM
    unfold B_X9_strengthByStepsOf_14 at hM
    refine lv_iload_n hx hb dX9_strengthByStepsOf_14 rfl (lv_at hl 3 rfl) ?_
    refine lv_aload_n hx hb dX9_strengthByStepsOf_15 rfl (lv_at hl 0 rfl) ?_
    refine lv_iload_n hx hb dX9_strengthByStepsOf_16 rfl (lv_at hl 1 rfl) ?_
    refine g_callV_i (nA := 1) (o := M_X9_polesOf σ k x1) (As := [.int x1]) X.1 hG hL rfl rfl (fun _ _ h => C_X9_polesOf l E h hL) mw552 mw553 mw554 mw56 (gw_ok mw555 rfl) (by decide +kernel) rfl ⟨Nat.le_of_ble_eq_true rfl, Nat.le_of_ble_eq_true rfl⟩ hl.1 rfl (Nat.le_of_ble_eq_true rfl) ⟨Nat.le_refl _, Nat.le_refl _⟩ dX9_strengthByStepsOf_17 hM (fun σ4 r5 H locs hG hM => ?_)
    refine lv_icmp_gt (tgt := 32) hx hb dX9_strengthByStepsOf_20 (by decide) (fun c17 => ?_) (fun c17 => ?_)
    · have hM := b_if hM c17
      refine lv_iconst (v := (5 : Int32)) hx hb dX9_strengthByStepsOf_32 (by decide) ?_
      refine lv_istore_n (lv' := [(3, .int (5 : Int32)), (0, .ref (E.1 k)), (1, .int x1), (2, .int x2)]) hx hb dX9_strengthByStepsOf_33 rfl hl (by decide) rfl (fun ls hl => ?_)
      exact w_X9_strengthByStepsOf_34 X hL FU σ4 x1 x2 (5 : Int32) _ _ _ z hG (lv_sub hl [1, 2, 3, 0] rfl) hM
    · have hM := b_else hM c17
      obtain ⟨v15, ev15, hM⟩ := g_nm hM
      refine lv_iinc (v := v15) (lv' := [(2, .int v15), (0, .ref (E.1 k)), (1, .int x1), (3, .int x3)]) hx hb dX9_strengthByStepsOf_23 hl (k := 2) rfl (by rw [ev15]; rfl) (by decide) rfl (fun ls hl => ?_)
      obtain ⟨v16, ev16, hM⟩ := g_nm hM
      refine lv_iinc (v := v16) (lv' := [(3, .int v16), (2, .int v15), (0, .ref (E.1 k)), (1, .int x1)]) hx hb dX9_strengthByStepsOf_26 hl (k := 3) rfl (by rw [ev16]; rfl) (by decide) rfl (fun ls hl => ?_)
      refine lv_goto (tgt := 14) hx hb dX9_strengthByStepsOf_29 (by decide) ?_
      exact ih σ4 x1 v15 v16 _ _ _ z hG (lv_sub hl [2, 3, 1, 0] rfl) hM
set_option maxRecDepth 20000 in
set_option maxHeartbeats 4000000 in
theorem C_X9_strengthByStepsOf (l : Launch) (E : Ev) {σ σ' : St} {k : Nat} {p0 : Int32} {r : Int32} (h : M_X9_strengthByStepsOf σ k p0 = some (σ', r)) (hL : lay 9 k) : Mi l E yX9_strengthByStepsOf cX9_strengthByStepsOf 4 (some .int) 3 [.ref (E.1 k), .int p0] σ σ' r := by
  refine Mi_of (C := RX9) rfl (by decide) (Nat.le_of_ble_eq_true rfl) (z := (σ', r)) (fun p e s m below meth c ls X hG hl => ?_)
  have hx := X.1.1.1
  have hb := X.1.1.2.1
  have hM := h
  unfold M_X9_strengthByStepsOf at hM
  generalize (σ', r) = z at hM ⊢
  have hl : lv_has ls 4 [(0, .ref (E.1 k)), (1, .int p0)] := hl
  refine lv_bipush (v := (12 : Int32)) hx hb dX9_strengthByStepsOf_0 (by decide) ?_
  refine lv_aload_n hx hb dX9_strengthByStepsOf_2 rfl (lv_at hl 0 rfl) ?_
  refine lv_iload_n hx hb dX9_strengthByStepsOf_3 rfl (lv_at hl 1 rfl) ?_
  refine g_callV_i (nA := 1) (o := M_X9_weeksOf σ k p0) (As := [.int p0]) X.1 hG hL rfl rfl (fun _ _ h => C_X9_weeksOf l E h hL) mw941 mw925 mw926 mw56 (gw_ok mw927 rfl) (by decide +kernel) rfl ⟨Nat.le_of_ble_eq_true rfl, Nat.le_of_ble_eq_true rfl⟩ hl.1 rfl (Nat.le_of_ble_eq_true rfl) ⟨Nat.le_refl _, Nat.le_refl _⟩ dX9_strengthByStepsOf_4 hM (fun σ1 r2 H locs hG hM => ?_)
  refine lv_bipush (v := (6 : Int32)) hx hb dX9_strengthByStepsOf_7 (by decide) ?_
  refine lv_idiv hx hb dX9_strengthByStepsOf_9 (by decide) ?_
  refine lv_isub hx hb dX9_strengthByStepsOf_10 ?_
  refine g_name hM (fun v3 hM => ?_)
  refine lv_istore_n (lv' := [(2, .int v3), (0, .ref (E.1 k)), (1, .int p0)]) hx hb dX9_strengthByStepsOf_11 rfl hl (by decide) rfl (fun ls hl => ?_)
  refine lv_iconst (v := (1 : Int32)) hx hb dX9_strengthByStepsOf_12 (by decide) ?_
  refine lv_istore_n (lv' := [(3, .int (1 : Int32)), (2, .int v3), (0, .ref (E.1 k)), (1, .int p0)]) hx hb dX9_strengthByStepsOf_13 rfl hl (by decide) rfl (fun ls hl => ?_)
  exact w_X9_strengthByStepsOf_14 X hL FU σ1 p0 v3 (1 : Int32) _ _ _ z hG (lv_sub hl [2, 3, 1, 0] rfl) hM
def B_X9_allStrength_4  : Nat → St → Nat → Int32 → Int32 → Option (St × Int32)
  | 0, _, _, _, _ => none
  | n + 1, σ, k, x1, x2 => if (σ k 6) ≤ x2 then some (σ, x1) else (bcall (M_X9_strengthOf σ k x2) fun σ1 r2 => blet (x1 + r2) fun v3 => blet (x2 + (1 : Int32)) fun v4 => B_X9_allStrength_4 n σ1 k v3 v4)
def M_X9_allStrength (σ : St) (k : Nat)  : Option (St × Int32) := B_X9_allStrength_4 FU σ k (0 : Int32) (0 : Int32)
set_option maxRecDepth 20000 in
set_option maxHeartbeats 4000000 in
theorem w_X9_allStrength_4 {p : Program} {l : Launch} {e : Env} {s : State} {m : MethodId} {below : List Frame} {meth : Method} {c : Code} {args : Array Value} {E : Ev} {k : Nat} (X : Bx E p m meth c cX9_allStrength 3 (some .int) s args RX9) (hL : lay 9 k) : ∀ (n : Nat) (σ : St) (x1 x2 : Int32) (H : Heap) (locs : List Loc) (ls : Array Slot) (z : St × Int32), GS E σ s.heap H locs → lv_has ls 3 [(0, .ref (E.1 k)), (1, .int x1), (2, .int x2)] → B_X9_allStrength_4 n σ k x1 x2 = some z → W p l e (rmd 3) s m args below meth c H locs 0 0 (QI E z below args s) (F0 m 4 ls []) := by
  have hx := X.1.1.1
  have hb := X.1.1.2.1
  intro n
  induction n with
  | zero => intro σ x1 x2 H locs ls z  hG hl hM; cases hM
  | succ n ih =>
    intro σ x1 x2 H locs ls z  hG hl hM
    unfold B_X9_allStrength_4 at hM
    refine lv_iload_n hx hb dX9_allStrength_4 rfl (lv_at hl 2 rfl) ?_
    refine lv_aload_n hx hb dX9_allStrength_5 rfl (lv_at hl 0 rfl) ?_
    refine gt_9_6 X.1 hG hL mw137 dX9_allStrength_6 ?_
    refine lv_icmp_ge (tgt := 26) hx hb dX9_allStrength_9 (by decide) (fun c5 => ?_) (fun c5 => ?_)
    · have hM := b_if hM c5
      refine lv_iload_n hx hb dX9_allStrength_26 rfl (lv_at hl 1 rfl) ?_
      exact e_iret X hG dX9_allStrength_27 hM
    · have hM := b_else hM c5
      refine lv_iload_n hx hb dX9_allStrength_12 rfl (lv_at hl 1 rfl) ?_
      refine lv_aload_n hx hb dX9_allStrength_13 rfl (lv_at hl 0 rfl) ?_
      refine lv_iload_n hx hb dX9_allStrength_14 rfl (lv_at hl 2 rfl) ?_
      refine g_callV_i (nA := 1) (o := M_X9_strengthOf σ k x2) (As := [.int x2]) X.1 hG hL rfl rfl (fun _ _ h => C_X9_strengthOf l E h hL) mw766 mw767 mw768 mw56 (gw_ok mw769 rfl) (by decide +kernel) rfl ⟨Nat.le_of_ble_eq_true rfl, Nat.le_of_ble_eq_true rfl⟩ hl.1 rfl (Nat.le_of_ble_eq_true rfl) ⟨Nat.le_refl _, Nat.le_refl _⟩ dX9_allStrength_15 hM (fun σ1 r2 H locs hG hM => ?_)
      refine lv_iadd hx hb dX9_allStrength_18 ?_
      refine g_name hM (fun v3 hM => ?_)
      refine lv_istore_n (lv' := [(1, .int v3), (0, .ref (E.1 k)), (2, .int x2)]) hx hb dX9_allStrength_19 rfl hl (by decide) rfl (fun ls hl => ?_)
      obtain ⟨v4, ev4, hM⟩ := g_nm hM
      refine lv_iinc (v := v4) (lv' := [(2, .int v4), (1, .int v3), (0, .ref (E.1 k))]) hx hb dX9_allStrength_20 hl (k := 2) rfl (by rw [ev4]; rfl) (by decide) rfl (fun ls hl => ?_)
      refine lv_goto (tgt := 4) hx hb dX9_allStrength_23 (by decide) ?_
      exact ih σ1 v3 v4 _ _ _ z hG (lv_sub hl [2, 1, 0] rfl) hM
set_option maxRecDepth 20000 in
set_option maxHeartbeats 4000000 in
theorem C_X9_allStrength (l : Launch) (E : Ev) {σ σ' : St} {k : Nat} {r : Int32} (h : M_X9_allStrength σ k = some (σ', r)) (hL : lay 9 k) : Mi l E yX9_allStrength cX9_allStrength 3 (some .int) 3 [.ref (E.1 k)] σ σ' r := by
  refine Mi_of (C := RX9) rfl (by decide) (Nat.le_of_ble_eq_true rfl) (z := (σ', r)) (fun p e s m below meth c ls X hG hl => ?_)
  have hx := X.1.1.1
  have hb := X.1.1.2.1
  have hM := h
  unfold M_X9_allStrength at hM
  generalize (σ', r) = z at hM ⊢
  have hl : lv_has ls 3 [(0, .ref (E.1 k))] := hl
  refine lv_iconst (v := (0 : Int32)) hx hb dX9_allStrength_0 (by decide) ?_
  refine lv_istore_n (lv' := [(1, .int (0 : Int32)), (0, .ref (E.1 k))]) hx hb dX9_allStrength_1 rfl hl (by decide) rfl (fun ls hl => ?_)
  refine lv_iconst (v := (0 : Int32)) hx hb dX9_allStrength_2 (by decide) ?_
  refine lv_istore_n (lv' := [(2, .int (0 : Int32)), (1, .int (0 : Int32)), (0, .ref (E.1 k))]) hx hb dX9_allStrength_3 rfl hl (by decide) rfl (fun ls hl => ?_)
  exact w_X9_allStrength_4 X hL FU σ (0 : Int32) (0 : Int32) _ _ _ z hG (lv_sub hl [2, 1, 0] rfl) hM
def M_X9_allHours (σ : St) (k : Nat)  : Option (St × Int32) := bcall (M_X10_sum σ (k + 4) (σ k 6)) fun σ1 r2 => some (σ1, r2)
set_option maxRecDepth 20000 in
set_option maxHeartbeats 4000000 in
theorem C_X9_allHours (l : Launch) (E : Ev) {σ σ' : St} {k : Nat} {r : Int32} (h : M_X9_allHours σ k = some (σ', r)) (hL : lay 9 k) : Mi l E yX9_allHours cX9_allHours 1 (some .int) 3 [.ref (E.1 k)] σ σ' r := by
  refine Mi_of (C := RX9) rfl (by decide) (Nat.le_of_ble_eq_true rfl) (z := (σ', r)) (fun p e s m below meth c ls X hG hl => ?_)
  have hx := X.1.1.1
  have hb := X.1.1.2.1
  have hM := h
  unfold M_X9_allHours at hM
  generalize (σ', r) = z at hM ⊢
  have hl : lv_has ls 1 [(0, .ref (E.1 k))] := hl
  refine lv_aload_n hx hb dX9_allHours_0 rfl (lv_at hl 0 rfl) ?_
  refine gt_9_3 X.1 hG hL mw134 dX9_allHours_1 ?_
  refine lv_aload_n hx hb dX9_allHours_4 rfl (lv_at hl 0 rfl) ?_
  refine gt_9_6 X.1 hG hL mw137 dX9_allHours_5 ?_
  refine g_callSN_i (nA := 2) (o := M_X10_sum σ (k + 4) (σ k 6)) (As := [.ref (E.1 (k + 4)), .int (σ k 6)]) X.1 hG (fun _ _ h => C_X10_sum l E h (lf_9_3 hL)) mw1052 mw1053 mw51 (gw_ok mw1054 rfl) (by decide +kernel) rfl ⟨Nat.le_of_ble_eq_true rfl, Nat.le_of_ble_eq_true rfl⟩ hl.1 rfl (Nat.le_of_ble_eq_true rfl) ⟨Nat.le_refl _, Nat.le_refl _⟩ dX9_allHours_8 hM (fun σ1 r2 H locs hG hM => ?_)
  exact e_iret X hG dX9_allHours_11 hM
def M_X9_allLoads (σ : St) (k : Nat)  : Option (St × Int32) := bcall (M_X10_sum σ (k + 5) (σ k 6)) fun σ1 r2 => some (σ1, r2)
set_option maxRecDepth 20000 in
set_option maxHeartbeats 4000000 in
theorem C_X9_allLoads (l : Launch) (E : Ev) {σ σ' : St} {k : Nat} {r : Int32} (h : M_X9_allLoads σ k = some (σ', r)) (hL : lay 9 k) : Mi l E yX9_allLoads cX9_allLoads 1 (some .int) 3 [.ref (E.1 k)] σ σ' r := by
  refine Mi_of (C := RX9) rfl (by decide) (Nat.le_of_ble_eq_true rfl) (z := (σ', r)) (fun p e s m below meth c ls X hG hl => ?_)
  have hx := X.1.1.1
  have hb := X.1.1.2.1
  have hM := h
  unfold M_X9_allLoads at hM
  generalize (σ', r) = z at hM ⊢
  have hl : lv_has ls 1 [(0, .ref (E.1 k))] := hl
  refine lv_aload_n hx hb dX9_allLoads_0 rfl (lv_at hl 0 rfl) ?_
  refine gt_9_4 X.1 hG hL mw135 dX9_allLoads_1 ?_
  refine lv_aload_n hx hb dX9_allLoads_4 rfl (lv_at hl 0 rfl) ?_
  refine gt_9_6 X.1 hG hL mw137 dX9_allLoads_5 ?_
  refine g_callSN_i (nA := 2) (o := M_X10_sum σ (k + 5) (σ k 6)) (As := [.ref (E.1 (k + 5)), .int (σ k 6)]) X.1 hG (fun _ _ h => C_X10_sum l E h (lf_9_4 hL)) mw1052 mw1053 mw51 (gw_ok mw1054 rfl) (by decide +kernel) rfl ⟨Nat.le_of_ble_eq_true rfl, Nat.le_of_ble_eq_true rfl⟩ hl.1 rfl (Nat.le_of_ble_eq_true rfl) ⟨Nat.le_refl _, Nat.le_refl _⟩ dX9_allLoads_8 hM (fun σ1 r2 H locs hG hM => ?_)
  exact e_iret X hG dX9_allLoads_11 hM
def B_X9_howManyShut_4  : Nat → St → Nat → Int32 → Int32 → Option (St × Int32)
  | 0, _, _, _, _ => none
  | n + 1, σ, k, x1, x2 => if (σ k 6) ≤ x2 then some (σ, x1) else (bcall (M_X9_isShut σ k x2) fun σ1 r2 => if r2 = 0 then (blet (x1 + (0 : Int32)) fun v3 => blet (x2 + (1 : Int32)) fun v4 => B_X9_howManyShut_4 n σ1 k v3 v4) else (blet (x1 + (1 : Int32)) fun v5 => blet (x2 + (1 : Int32)) fun v6 => B_X9_howManyShut_4 n σ1 k v5 v6))
def M_X9_howManyShut (σ : St) (k : Nat)  : Option (St × Int32) := B_X9_howManyShut_4 FU σ k (0 : Int32) (0 : Int32)
set_option maxRecDepth 20000 in
set_option maxHeartbeats 4000000 in
theorem w_X9_howManyShut_4 {p : Program} {l : Launch} {e : Env} {s : State} {m : MethodId} {below : List Frame} {meth : Method} {c : Code} {args : Array Value} {E : Ev} {k : Nat} (X : Bx E p m meth c cX9_howManyShut 3 (some .int) s args RX9) (hL : lay 9 k) : ∀ (n : Nat) (σ : St) (x1 x2 : Int32) (H : Heap) (locs : List Loc) (ls : Array Slot) (z : St × Int32), GS E σ s.heap H locs → lv_has ls 3 [(0, .ref (E.1 k)), (1, .int x1), (2, .int x2)] → B_X9_howManyShut_4 n σ k x1 x2 = some z → W p l e (rmd 4) s m args below meth c H locs 0 0 (QI E z below args s) (F0 m 4 ls []) := by
  have hx := X.1.1.1
  have hb := X.1.1.2.1
  intro n
  induction n with
  | zero => intro σ x1 x2 H locs ls z  hG hl hM; cases hM
  | succ n ih =>
    intro σ x1 x2 H locs ls z  hG hl hM
    unfold B_X9_howManyShut_4 at hM
    refine lv_iload_n hx hb dX9_howManyShut_4 rfl (lv_at hl 2 rfl) ?_
    refine lv_aload_n hx hb dX9_howManyShut_5 rfl (lv_at hl 0 rfl) ?_
    refine gt_9_6 X.1 hG hL mw137 dX9_howManyShut_6 ?_
    refine lv_icmp_ge (tgt := 34) hx hb dX9_howManyShut_9 (by decide) (fun c8 => ?_) (fun c8 => ?_)
    · have hM := b_if hM c8
      refine lv_iload_n hx hb dX9_howManyShut_34 rfl (lv_at hl 1 rfl) ?_
      exact e_iret X hG dX9_howManyShut_35 hM
    · have hM := b_else hM c8
      refine lv_iload_n hx hb dX9_howManyShut_12 rfl (lv_at hl 1 rfl) ?_
      refine lv_aload_n hx hb dX9_howManyShut_13 rfl (lv_at hl 0 rfl) ?_
      refine lv_iload_n hx hb dX9_howManyShut_14 rfl (lv_at hl 2 rfl) ?_
      refine g_callV_i (nA := 1) (o := M_X9_isShut σ k x2) (As := [.int x2]) X.1 hG hL rfl rfl (fun _ _ h => C_X9_isShut l E h hL) mw1005 mw592 mw593 mw56 (gw_ok mw594 rfl) (by decide +kernel) rfl ⟨Nat.le_of_ble_eq_true rfl, Nat.le_of_ble_eq_true rfl⟩ hl.1 rfl (Nat.le_of_ble_eq_true rfl) ⟨Nat.le_refl _, Nat.le_refl _⟩ dX9_howManyShut_15 hM (fun σ1 r2 H locs hG hM => ?_)
      refine lv_if_eq (tgt := 25) hx hb dX9_howManyShut_18 (by decide) (fun c7 => ?_) (fun c7 => ?_)
      · have hM := b_if hM c7
        refine lv_iconst (v := (0 : Int32)) hx hb dX9_howManyShut_25 (by decide) ?_
        refine lv_iadd hx hb dX9_howManyShut_26 ?_
        refine g_name hM (fun v3 hM => ?_)
        refine lv_istore_n (lv' := [(1, .int v3), (0, .ref (E.1 k)), (2, .int x2)]) hx hb dX9_howManyShut_27 rfl hl (by decide) rfl (fun ls hl => ?_)
        obtain ⟨v4, ev4, hM⟩ := g_nm hM
        refine lv_iinc (v := v4) (lv' := [(2, .int v4), (1, .int v3), (0, .ref (E.1 k))]) hx hb dX9_howManyShut_28 hl (k := 2) rfl (by rw [ev4]; rfl) (by decide) rfl (fun ls hl => ?_)
        refine lv_goto (tgt := 4) hx hb dX9_howManyShut_31 (by decide) ?_
        exact ih σ1 v3 v4 _ _ _ z hG (lv_sub hl [2, 1, 0] rfl) hM
      · have hM := b_else hM c7
        refine lv_iconst (v := (1 : Int32)) hx hb dX9_howManyShut_21 (by decide) ?_
        refine lv_goto (tgt := 26) hx hb dX9_howManyShut_22 (by decide) ?_
        refine lv_iadd hx hb dX9_howManyShut_26 ?_
        refine g_name hM (fun v5 hM => ?_)
        refine lv_istore_n (lv' := [(1, .int v5), (0, .ref (E.1 k)), (2, .int x2)]) hx hb dX9_howManyShut_27 rfl hl (by decide) rfl (fun ls hl => ?_)
        obtain ⟨v6, ev6, hM⟩ := g_nm hM
        refine lv_iinc (v := v6) (lv' := [(2, .int v6), (1, .int v5), (0, .ref (E.1 k))]) hx hb dX9_howManyShut_28 hl (k := 2) rfl (by rw [ev6]; rfl) (by decide) rfl (fun ls hl => ?_)
        refine lv_goto (tgt := 4) hx hb dX9_howManyShut_31 (by decide) ?_
        exact ih σ1 v5 v6 _ _ _ z hG (lv_sub hl [2, 1, 0] rfl) hM
set_option maxRecDepth 20000 in
set_option maxHeartbeats 4000000 in
theorem C_X9_howManyShut (l : Launch) (E : Ev) {σ σ' : St} {k : Nat} {r : Int32} (h : M_X9_howManyShut σ k = some (σ', r)) (hL : lay 9 k) : Mi l E yX9_howManyShut cX9_howManyShut 3 (some .int) 4 [.ref (E.1 k)] σ σ' r := by
  refine Mi_of (C := RX9) rfl (by decide) (Nat.le_of_ble_eq_true rfl) (z := (σ', r)) (fun p e s m below meth c ls X hG hl => ?_)
  have hx := X.1.1.1
  have hb := X.1.1.2.1
  have hM := h
  unfold M_X9_howManyShut at hM
  generalize (σ', r) = z at hM ⊢
  have hl : lv_has ls 3 [(0, .ref (E.1 k))] := hl
  refine lv_iconst (v := (0 : Int32)) hx hb dX9_howManyShut_0 (by decide) ?_
  refine lv_istore_n (lv' := [(1, .int (0 : Int32)), (0, .ref (E.1 k))]) hx hb dX9_howManyShut_1 rfl hl (by decide) rfl (fun ls hl => ?_)
  refine lv_iconst (v := (0 : Int32)) hx hb dX9_howManyShut_2 (by decide) ?_
  refine lv_istore_n (lv' := [(2, .int (0 : Int32)), (1, .int (0 : Int32)), (0, .ref (E.1 k))]) hx hb dX9_howManyShut_3 rfl hl (by decide) rfl (fun ls hl => ?_)
  exact w_X9_howManyShut_4 X hL FU σ (0 : Int32) (0 : Int32) _ _ _ z hG (lv_sub hl [2, 1, 0] rfl) hM
def B_X9_howManyShutBy_4  : Nat → St → Nat → Int32 → Int32 → Int32 → Option (St × Int32)
  | 0, _, _, _, _, _ => none
  | n + 1, σ, k, x1, x2, x3 => if (σ k 6) ≤ x3 then some (σ, x2) else (bcall (M_X9_shutterOf σ k x3) fun σ1 r2 => if r2 = x1 then (blet (x2 + (1 : Int32)) fun v5 => blet (x3 + (1 : Int32)) fun v6 => B_X9_howManyShutBy_4 n σ1 k x1 v5 v6) else (blet (x2 + (0 : Int32)) fun v3 => blet (x3 + (1 : Int32)) fun v4 => B_X9_howManyShutBy_4 n σ1 k x1 v3 v4))
def M_X9_howManyShutBy (σ : St) (k : Nat) (p0 : Int32) : Option (St × Int32) := B_X9_howManyShutBy_4 FU σ k p0 (0 : Int32) (0 : Int32)
set_option maxRecDepth 20000 in
set_option maxHeartbeats 4000000 in
theorem w_X9_howManyShutBy_4 {p : Program} {l : Launch} {e : Env} {s : State} {m : MethodId} {below : List Frame} {meth : Method} {c : Code} {args : Array Value} {E : Ev} {k : Nat} (X : Bx E p m meth c cX9_howManyShutBy 4 (some .int) s args RX9) (hL : lay 9 k) : ∀ (n : Nat) (σ : St) (x1 x2 x3 : Int32) (H : Heap) (locs : List Loc) (ls : Array Slot) (z : St × Int32), GS E σ s.heap H locs → lv_has ls 4 [(0, .ref (E.1 k)), (1, .int x1), (2, .int x2), (3, .int x3)] → B_X9_howManyShutBy_4 n σ k x1 x2 x3 = some z → W p l e (rmd 3) s m args below meth c H locs 0 0 (QI E z below args s) (F0 m 4 ls []) := by
  have hx := X.1.1.1
  have hb := X.1.1.2.1
  intro n
  induction n with
  | zero => intro σ x1 x2 x3 H locs ls z  hG hl hM; cases hM
  | succ n ih =>
    intro σ x1 x2 x3 H locs ls z  hG hl hM
    unfold B_X9_howManyShutBy_4 at hM
    refine lv_iload_n hx hb dX9_howManyShutBy_4 rfl (lv_at hl 3 rfl) ?_
    refine lv_aload_n hx hb dX9_howManyShutBy_5 rfl (lv_at hl 0 rfl) ?_
    refine gt_9_6 X.1 hG hL mw137 dX9_howManyShutBy_6 ?_
    refine lv_icmp_ge (tgt := 35) hx hb dX9_howManyShutBy_9 (by decide) (fun c8 => ?_) (fun c8 => ?_)
    · have hM := b_if hM c8
      refine lv_iload_n hx hb dX9_howManyShutBy_35 rfl (lv_at hl 2 rfl) ?_
      exact e_iret X hG dX9_howManyShutBy_36 hM
    · have hM := b_else hM c8
      refine lv_iload_n hx hb dX9_howManyShutBy_12 rfl (lv_at hl 2 rfl) ?_
      refine lv_aload_n hx hb dX9_howManyShutBy_13 rfl (lv_at hl 0 rfl) ?_
      refine lv_iload_n hx hb dX9_howManyShutBy_14 rfl (lv_at hl 3 rfl) ?_
      refine g_callV_i (nA := 1) (o := M_X9_shutterOf σ k x3) (As := [.int x3]) X.1 hG hL rfl rfl (fun _ _ h => C_X9_shutterOf l E h hL) mw595 mw596 mw597 mw56 (gw_ok mw598 rfl) (by decide +kernel) rfl ⟨Nat.le_of_ble_eq_true rfl, Nat.le_of_ble_eq_true rfl⟩ hl.1 rfl (Nat.le_of_ble_eq_true rfl) ⟨Nat.le_refl _, Nat.le_refl _⟩ dX9_howManyShutBy_15 hM (fun σ1 r2 H locs hG hM => ?_)
      refine lv_iload_n hx hb dX9_howManyShutBy_18 rfl (lv_at hl 1 rfl) ?_
      refine lv_icmp_ne (tgt := 26) hx hb dX9_howManyShutBy_19 (by decide) (fun c7 => ?_) (fun c7 => ?_)
      · have hM := b_else hM c7
        refine lv_iconst (v := (0 : Int32)) hx hb dX9_howManyShutBy_26 (by decide) ?_
        refine lv_iadd hx hb dX9_howManyShutBy_27 ?_
        refine g_name hM (fun v3 hM => ?_)
        refine lv_istore_n (lv' := [(2, .int v3), (0, .ref (E.1 k)), (1, .int x1), (3, .int x3)]) hx hb dX9_howManyShutBy_28 rfl hl (by decide) rfl (fun ls hl => ?_)
        obtain ⟨v4, ev4, hM⟩ := g_nm hM
        refine lv_iinc (v := v4) (lv' := [(3, .int v4), (2, .int v3), (0, .ref (E.1 k)), (1, .int x1)]) hx hb dX9_howManyShutBy_29 hl (k := 3) rfl (by rw [ev4]; rfl) (by decide) rfl (fun ls hl => ?_)
        refine lv_goto (tgt := 4) hx hb dX9_howManyShutBy_32 (by decide) ?_
        exact ih σ1 x1 v3 v4 _ _ _ z hG (lv_sub hl [2, 3, 1, 0] rfl) hM
      · have hM := b_if hM c7
        refine lv_iconst (v := (1 : Int32)) hx hb dX9_howManyShutBy_22 (by decide) ?_
        refine lv_goto (tgt := 27) hx hb dX9_howManyShutBy_23 (by decide) ?_
        refine lv_iadd hx hb dX9_howManyShutBy_27 ?_
        refine g_name hM (fun v5 hM => ?_)
        refine lv_istore_n (lv' := [(2, .int v5), (0, .ref (E.1 k)), (1, .int x1), (3, .int x3)]) hx hb dX9_howManyShutBy_28 rfl hl (by decide) rfl (fun ls hl => ?_)
        obtain ⟨v6, ev6, hM⟩ := g_nm hM
        refine lv_iinc (v := v6) (lv' := [(3, .int v6), (2, .int v5), (0, .ref (E.1 k)), (1, .int x1)]) hx hb dX9_howManyShutBy_29 hl (k := 3) rfl (by rw [ev6]; rfl) (by decide) rfl (fun ls hl => ?_)
        refine lv_goto (tgt := 4) hx hb dX9_howManyShutBy_32 (by decide) ?_
        exact ih σ1 x1 v5 v6 _ _ _ z hG (lv_sub hl [2, 3, 1, 0] rfl) hM
set_option maxRecDepth 20000 in
set_option maxHeartbeats 4000000 in
theorem C_X9_howManyShutBy (l : Launch) (E : Ev) {σ σ' : St} {k : Nat} {p0 : Int32} {r : Int32} (h : M_X9_howManyShutBy σ k p0 = some (σ', r)) (hL : lay 9 k) : Mi l E yX9_howManyShutBy cX9_howManyShutBy 4 (some .int) 3 [.ref (E.1 k), .int p0] σ σ' r := by
  refine Mi_of (C := RX9) rfl (by decide) (Nat.le_of_ble_eq_true rfl) (z := (σ', r)) (fun p e s m below meth c ls X hG hl => ?_)
  have hx := X.1.1.1
  have hb := X.1.1.2.1
  have hM := h
  unfold M_X9_howManyShutBy at hM
  generalize (σ', r) = z at hM ⊢
  have hl : lv_has ls 4 [(0, .ref (E.1 k)), (1, .int p0)] := hl
  refine lv_iconst (v := (0 : Int32)) hx hb dX9_howManyShutBy_0 (by decide) ?_
  refine lv_istore_n (lv' := [(2, .int (0 : Int32)), (0, .ref (E.1 k)), (1, .int p0)]) hx hb dX9_howManyShutBy_1 rfl hl (by decide) rfl (fun ls hl => ?_)
  refine lv_iconst (v := (0 : Int32)) hx hb dX9_howManyShutBy_2 (by decide) ?_
  refine lv_istore_n (lv' := [(3, .int (0 : Int32)), (2, .int (0 : Int32)), (0, .ref (E.1 k)), (1, .int p0)]) hx hb dX9_howManyShutBy_3 rfl hl (by decide) rfl (fun ls hl => ?_)
  exact w_X9_howManyShutBy_4 X hL FU σ p0 (0 : Int32) (0 : Int32) _ _ _ z hG (lv_sub hl [2, 3, 1, 0] rfl) hM
def B_X9_howManyOld_4  : Nat → St → Nat → Int32 → Int32 → Option (St × Int32)
  | 0, _, _, _, _ => none
  | n + 1, σ, k, x1, x2 => if (σ k 6) ≤ x2 then some (σ, x1) else (bcall (M_X9_isOld σ k x2) fun σ1 r2 => if r2 = 0 then (blet (x1 + (0 : Int32)) fun v3 => blet (x2 + (1 : Int32)) fun v4 => B_X9_howManyOld_4 n σ1 k v3 v4) else (blet (x1 + (1 : Int32)) fun v5 => blet (x2 + (1 : Int32)) fun v6 => B_X9_howManyOld_4 n σ1 k v5 v6))
def M_X9_howManyOld (σ : St) (k : Nat)  : Option (St × Int32) := B_X9_howManyOld_4 FU σ k (0 : Int32) (0 : Int32)
set_option maxRecDepth 20000 in
set_option maxHeartbeats 4000000 in
theorem w_X9_howManyOld_4 {p : Program} {l : Launch} {e : Env} {s : State} {m : MethodId} {below : List Frame} {meth : Method} {c : Code} {args : Array Value} {E : Ev} {k : Nat} (X : Bx E p m meth c cX9_howManyOld 3 (some .int) s args RX9) (hL : lay 9 k) : ∀ (n : Nat) (σ : St) (x1 x2 : Int32) (H : Heap) (locs : List Loc) (ls : Array Slot) (z : St × Int32), GS E σ s.heap H locs → lv_has ls 3 [(0, .ref (E.1 k)), (1, .int x1), (2, .int x2)] → B_X9_howManyOld_4 n σ k x1 x2 = some z → W p l e (rmd 3) s m args below meth c H locs 0 0 (QI E z below args s) (F0 m 4 ls []) := by
  have hx := X.1.1.1
  have hb := X.1.1.2.1
  intro n
  induction n with
  | zero => intro σ x1 x2 H locs ls z  hG hl hM; cases hM
  | succ n ih =>
    intro σ x1 x2 H locs ls z  hG hl hM
    unfold B_X9_howManyOld_4 at hM
    refine lv_iload_n hx hb dX9_howManyOld_4 rfl (lv_at hl 2 rfl) ?_
    refine lv_aload_n hx hb dX9_howManyOld_5 rfl (lv_at hl 0 rfl) ?_
    refine gt_9_6 X.1 hG hL mw137 dX9_howManyOld_6 ?_
    refine lv_icmp_ge (tgt := 34) hx hb dX9_howManyOld_9 (by decide) (fun c8 => ?_) (fun c8 => ?_)
    · have hM := b_if hM c8
      refine lv_iload_n hx hb dX9_howManyOld_34 rfl (lv_at hl 1 rfl) ?_
      exact e_iret X hG dX9_howManyOld_35 hM
    · have hM := b_else hM c8
      refine lv_iload_n hx hb dX9_howManyOld_12 rfl (lv_at hl 1 rfl) ?_
      refine lv_aload_n hx hb dX9_howManyOld_13 rfl (lv_at hl 0 rfl) ?_
      refine lv_iload_n hx hb dX9_howManyOld_14 rfl (lv_at hl 2 rfl) ?_
      refine g_callV_i (nA := 1) (o := M_X9_isOld σ k x2) (As := [.int x2]) X.1 hG hL rfl rfl (fun _ _ h => C_X9_isOld l E h hL) mw1001 mw1002 mw1003 mw56 (gw_ok mw1004 rfl) (by decide +kernel) rfl ⟨Nat.le_of_ble_eq_true rfl, Nat.le_of_ble_eq_true rfl⟩ hl.1 rfl (Nat.le_of_ble_eq_true rfl) ⟨Nat.le_refl _, Nat.le_refl _⟩ dX9_howManyOld_15 hM (fun σ1 r2 H locs hG hM => ?_)
      refine lv_if_eq (tgt := 25) hx hb dX9_howManyOld_18 (by decide) (fun c7 => ?_) (fun c7 => ?_)
      · have hM := b_if hM c7
        refine lv_iconst (v := (0 : Int32)) hx hb dX9_howManyOld_25 (by decide) ?_
        refine lv_iadd hx hb dX9_howManyOld_26 ?_
        refine g_name hM (fun v3 hM => ?_)
        refine lv_istore_n (lv' := [(1, .int v3), (0, .ref (E.1 k)), (2, .int x2)]) hx hb dX9_howManyOld_27 rfl hl (by decide) rfl (fun ls hl => ?_)
        obtain ⟨v4, ev4, hM⟩ := g_nm hM
        refine lv_iinc (v := v4) (lv' := [(2, .int v4), (1, .int v3), (0, .ref (E.1 k))]) hx hb dX9_howManyOld_28 hl (k := 2) rfl (by rw [ev4]; rfl) (by decide) rfl (fun ls hl => ?_)
        refine lv_goto (tgt := 4) hx hb dX9_howManyOld_31 (by decide) ?_
        exact ih σ1 v3 v4 _ _ _ z hG (lv_sub hl [2, 1, 0] rfl) hM
      · have hM := b_else hM c7
        refine lv_iconst (v := (1 : Int32)) hx hb dX9_howManyOld_21 (by decide) ?_
        refine lv_goto (tgt := 26) hx hb dX9_howManyOld_22 (by decide) ?_
        refine lv_iadd hx hb dX9_howManyOld_26 ?_
        refine g_name hM (fun v5 hM => ?_)
        refine lv_istore_n (lv' := [(1, .int v5), (0, .ref (E.1 k)), (2, .int x2)]) hx hb dX9_howManyOld_27 rfl hl (by decide) rfl (fun ls hl => ?_)
        obtain ⟨v6, ev6, hM⟩ := g_nm hM
        refine lv_iinc (v := v6) (lv' := [(2, .int v6), (1, .int v5), (0, .ref (E.1 k))]) hx hb dX9_howManyOld_28 hl (k := 2) rfl (by rw [ev6]; rfl) (by decide) rfl (fun ls hl => ?_)
        refine lv_goto (tgt := 4) hx hb dX9_howManyOld_31 (by decide) ?_
        exact ih σ1 v5 v6 _ _ _ z hG (lv_sub hl [2, 1, 0] rfl) hM
set_option maxRecDepth 20000 in
set_option maxHeartbeats 4000000 in
theorem C_X9_howManyOld (l : Launch) (E : Ev) {σ σ' : St} {k : Nat} {r : Int32} (h : M_X9_howManyOld σ k = some (σ', r)) (hL : lay 9 k) : Mi l E yX9_howManyOld cX9_howManyOld 3 (some .int) 3 [.ref (E.1 k)] σ σ' r := by
  refine Mi_of (C := RX9) rfl (by decide) (Nat.le_of_ble_eq_true rfl) (z := (σ', r)) (fun p e s m below meth c ls X hG hl => ?_)
  have hx := X.1.1.1
  have hb := X.1.1.2.1
  have hM := h
  unfold M_X9_howManyOld at hM
  generalize (σ', r) = z at hM ⊢
  have hl : lv_has ls 3 [(0, .ref (E.1 k))] := hl
  refine lv_iconst (v := (0 : Int32)) hx hb dX9_howManyOld_0 (by decide) ?_
  refine lv_istore_n (lv' := [(1, .int (0 : Int32)), (0, .ref (E.1 k))]) hx hb dX9_howManyOld_1 rfl hl (by decide) rfl (fun ls hl => ?_)
  refine lv_iconst (v := (0 : Int32)) hx hb dX9_howManyOld_2 (by decide) ?_
  refine lv_istore_n (lv' := [(2, .int (0 : Int32)), (1, .int (0 : Int32)), (0, .ref (E.1 k))]) hx hb dX9_howManyOld_3 rfl hl (by decide) rfl (fun ls hl => ?_)
  exact w_X9_howManyOld_4 X hL FU σ (0 : Int32) (0 : Int32) _ _ _ z hG (lv_sub hl [2, 1, 0] rfl) hM
def B_X9_lowestOldUpTo_2  : Nat → St → Nat → Int32 → Int32 → Option (St × Int32)
  | 0, _, _, _, _ => none
  | n + 1, σ, k, x1, x2 => if x1 < x2 then some (σ, (-4 : Int32)) else (if (σ k 6) ≤ x2 then some (σ, (-4 : Int32)) else (bcall (M_X10_at σ (k + 3) x2) fun σ1 r2 => if r2 ≤ (20 : Int32) then (blet (x2 + (1 : Int32)) fun v3 => B_X9_lowestOldUpTo_2 n σ1 k x1 v3) else some (σ1, x2)))
def M_X9_lowestOldUpTo (σ : St) (k : Nat) (p0 : Int32) : Option (St × Int32) := B_X9_lowestOldUpTo_2 FU σ k p0 (0 : Int32)
set_option maxRecDepth 20000 in
set_option maxHeartbeats 4000000 in
theorem w_X9_lowestOldUpTo_2 {p : Program} {l : Launch} {e : Env} {s : State} {m : MethodId} {below : List Frame} {meth : Method} {c : Code} {args : Array Value} {E : Ev} {k : Nat} (X : Bx E p m meth c cX9_lowestOldUpTo 3 (some .int) s args RX9) (hL : lay 9 k) : ∀ (n : Nat) (σ : St) (x1 x2 : Int32) (H : Heap) (locs : List Loc) (ls : Array Slot) (z : St × Int32), GS E σ s.heap H locs → lv_has ls 3 [(0, .ref (E.1 k)), (1, .int x1), (2, .int x2)] → B_X9_lowestOldUpTo_2 n σ k x1 x2 = some z → W p l e (rmd 2) s m args below meth c H locs 0 0 (QI E z below args s) (F0 m 2 ls []) := by
  have hx := X.1.1.1
  have hb := X.1.1.2.1
  intro n
  induction n with
  | zero => intro σ x1 x2 H locs ls z  hG hl hM; cases hM
  | succ n ih =>
    intro σ x1 x2 H locs ls z  hG hl hM
    unfold B_X9_lowestOldUpTo_2 at hM
    refine lv_iload_n hx hb dX9_lowestOldUpTo_2 rfl (lv_at hl 2 rfl) ?_
    refine lv_iload_n hx hb dX9_lowestOldUpTo_3 rfl (lv_at hl 1 rfl) ?_
    refine lv_icmp_gt (tgt := 36) hx hb dX9_lowestOldUpTo_4 (by decide) (fun c6 => ?_) (fun c6 => ?_)
    · have hM := b_if hM c6
      refine lv_bipush (v := (-4 : Int32)) hx hb dX9_lowestOldUpTo_36 (by decide) ?_
      exact e_iret X hG dX9_lowestOldUpTo_38 hM
    · have hM := b_else hM c6
      refine lv_iload_n hx hb dX9_lowestOldUpTo_7 rfl (lv_at hl 2 rfl) ?_
      refine lv_aload_n hx hb dX9_lowestOldUpTo_8 rfl (lv_at hl 0 rfl) ?_
      refine gt_9_6 X.1 hG hL mw137 dX9_lowestOldUpTo_9 ?_
      refine lv_icmp_ge (tgt := 36) hx hb dX9_lowestOldUpTo_12 (by decide) (fun c5 => ?_) (fun c5 => ?_)
      · have hM := b_if hM c5
        refine lv_bipush (v := (-4 : Int32)) hx hb dX9_lowestOldUpTo_36 (by decide) ?_
        exact e_iret X hG dX9_lowestOldUpTo_38 hM
      · have hM := b_else hM c5
        refine lv_aload_n hx hb dX9_lowestOldUpTo_15 rfl (lv_at hl 0 rfl) ?_
        refine gt_9_2 X.1 hG hL mw133 dX9_lowestOldUpTo_16 ?_
        refine lv_iload_n hx hb dX9_lowestOldUpTo_19 rfl (lv_at hl 2 rfl) ?_
        refine g_callSN_i (nA := 2) (o := M_X10_at σ (k + 3) x2) (As := [.ref (E.1 (k + 3)), .int x2]) X.1 hG (fun _ _ h => C_X10_at l E h (lf_9_2 hL)) mw547 mw511 mw51 (gw_ok mw512 rfl) (by decide +kernel) rfl ⟨Nat.le_of_ble_eq_true rfl, Nat.le_of_ble_eq_true rfl⟩ hl.1 rfl (Nat.le_of_ble_eq_true rfl) ⟨Nat.le_refl _, Nat.le_refl _⟩ dX9_lowestOldUpTo_20 hM (fun σ1 r2 H locs hG hM => ?_)
        refine lv_bipush (v := (20 : Int32)) hx hb dX9_lowestOldUpTo_23 (by decide) ?_
        refine lv_icmp_le (tgt := 30) hx hb dX9_lowestOldUpTo_25 (by decide) (fun c4 => ?_) (fun c4 => ?_)
        · have hM := b_if hM c4
          obtain ⟨v3, ev3, hM⟩ := g_nm hM
          refine lv_iinc (v := v3) (lv' := [(2, .int v3), (0, .ref (E.1 k)), (1, .int x1)]) hx hb dX9_lowestOldUpTo_30 hl (k := 2) rfl (by rw [ev3]; rfl) (by decide) rfl (fun ls hl => ?_)
          refine lv_goto (tgt := 2) hx hb dX9_lowestOldUpTo_33 (by decide) ?_
          exact ih σ1 x1 v3 _ _ _ z hG (lv_sub hl [1, 2, 0] rfl) hM
        · have hM := b_else hM c4
          refine lv_iload_n hx hb dX9_lowestOldUpTo_28 rfl (lv_at hl 2 rfl) ?_
          exact e_iret X hG dX9_lowestOldUpTo_29 hM
set_option maxRecDepth 20000 in
set_option maxHeartbeats 4000000 in
theorem C_X9_lowestOldUpTo (l : Launch) (E : Ev) {σ σ' : St} {k : Nat} {p0 : Int32} {r : Int32} (h : M_X9_lowestOldUpTo σ k p0 = some (σ', r)) (hL : lay 9 k) : Mi l E yX9_lowestOldUpTo cX9_lowestOldUpTo 3 (some .int) 2 [.ref (E.1 k), .int p0] σ σ' r := by
  refine Mi_of (C := RX9) rfl (by decide) (Nat.le_of_ble_eq_true rfl) (z := (σ', r)) (fun p e s m below meth c ls X hG hl => ?_)
  have hx := X.1.1.1
  have hb := X.1.1.2.1
  have hM := h
  unfold M_X9_lowestOldUpTo at hM
  generalize (σ', r) = z at hM ⊢
  have hl : lv_has ls 3 [(0, .ref (E.1 k)), (1, .int p0)] := hl
  refine lv_iconst (v := (0 : Int32)) hx hb dX9_lowestOldUpTo_0 (by decide) ?_
  refine lv_istore_n (lv' := [(2, .int (0 : Int32)), (0, .ref (E.1 k)), (1, .int p0)]) hx hb dX9_lowestOldUpTo_1 rfl hl (by decide) rfl (fun ls hl => ?_)
  exact w_X9_lowestOldUpTo_2 X hL FU σ p0 (0 : Int32) _ _ _ z hG (lv_sub hl [1, 2, 0] rfl) hM
def B_X9_lowestWeakerThan_2  : Nat → St → Nat → Int32 → Int32 → Option (St × Int32)
  | 0, _, _, _, _ => none
  | n + 1, σ, k, x1, x2 => if (σ k 6) ≤ x2 then some (σ, (-4 : Int32)) else (bcall (M_X9_strengthOf σ k x2) fun σ1 r2 => if x1 ≤ r2 then (blet (x2 + (1 : Int32)) fun v3 => B_X9_lowestWeakerThan_2 n σ1 k x1 v3) else some (σ1, x2))
def M_X9_lowestWeakerThan (σ : St) (k : Nat) (p0 : Int32) : Option (St × Int32) := B_X9_lowestWeakerThan_2 FU σ k p0 (0 : Int32)
set_option maxRecDepth 20000 in
set_option maxHeartbeats 4000000 in
theorem w_X9_lowestWeakerThan_2 {p : Program} {l : Launch} {e : Env} {s : State} {m : MethodId} {below : List Frame} {meth : Method} {c : Code} {args : Array Value} {E : Ev} {k : Nat} (X : Bx E p m meth c cX9_lowestWeakerThan 3 (some .int) s args RX9) (hL : lay 9 k) : ∀ (n : Nat) (σ : St) (x1 x2 : Int32) (H : Heap) (locs : List Loc) (ls : Array Slot) (z : St × Int32), GS E σ s.heap H locs → lv_has ls 3 [(0, .ref (E.1 k)), (1, .int x1), (2, .int x2)] → B_X9_lowestWeakerThan_2 n σ k x1 x2 = some z → W p l e (rmd 3) s m args below meth c H locs 0 0 (QI E z below args s) (F0 m 2 ls []) := by
  have hx := X.1.1.1
  have hb := X.1.1.2.1
  intro n
  induction n with
  | zero => intro σ x1 x2 H locs ls z  hG hl hM; cases hM
  | succ n ih =>
    intro σ x1 x2 H locs ls z  hG hl hM
    unfold B_X9_lowestWeakerThan_2 at hM
    refine lv_iload_n hx hb dX9_lowestWeakerThan_2 rfl (lv_at hl 2 rfl) ?_
    refine lv_aload_n hx hb dX9_lowestWeakerThan_3 rfl (lv_at hl 0 rfl) ?_
    refine gt_9_6 X.1 hG hL mw137 dX9_lowestWeakerThan_4 ?_
    refine lv_icmp_ge (tgt := 27) hx hb dX9_lowestWeakerThan_7 (by decide) (fun c5 => ?_) (fun c5 => ?_)
    · have hM := b_if hM c5
      refine lv_bipush (v := (-4 : Int32)) hx hb dX9_lowestWeakerThan_27 (by decide) ?_
      exact e_iret X hG dX9_lowestWeakerThan_29 hM
    · have hM := b_else hM c5
      refine lv_aload_n hx hb dX9_lowestWeakerThan_10 rfl (lv_at hl 0 rfl) ?_
      refine lv_iload_n hx hb dX9_lowestWeakerThan_11 rfl (lv_at hl 2 rfl) ?_
      refine g_callV_i (nA := 1) (o := M_X9_strengthOf σ k x2) (As := [.int x2]) X.1 hG hL rfl rfl (fun _ _ h => C_X9_strengthOf l E h hL) mw766 mw767 mw768 mw56 (gw_ok mw769 rfl) (by decide +kernel) rfl ⟨Nat.le_of_ble_eq_true rfl, Nat.le_of_ble_eq_true rfl⟩ hl.1 rfl (Nat.le_of_ble_eq_true rfl) ⟨Nat.le_refl _, Nat.le_refl _⟩ dX9_lowestWeakerThan_12 hM (fun σ1 r2 H locs hG hM => ?_)
      refine lv_iload_n hx hb dX9_lowestWeakerThan_15 rfl (lv_at hl 1 rfl) ?_
      refine lv_icmp_ge (tgt := 21) hx hb dX9_lowestWeakerThan_16 (by decide) (fun c4 => ?_) (fun c4 => ?_)
      · have hM := b_if hM c4
        obtain ⟨v3, ev3, hM⟩ := g_nm hM
        refine lv_iinc (v := v3) (lv' := [(2, .int v3), (0, .ref (E.1 k)), (1, .int x1)]) hx hb dX9_lowestWeakerThan_21 hl (k := 2) rfl (by rw [ev3]; rfl) (by decide) rfl (fun ls hl => ?_)
        refine lv_goto (tgt := 2) hx hb dX9_lowestWeakerThan_24 (by decide) ?_
        exact ih σ1 x1 v3 _ _ _ z hG (lv_sub hl [1, 2, 0] rfl) hM
      · have hM := b_else hM c4
        refine lv_iload_n hx hb dX9_lowestWeakerThan_19 rfl (lv_at hl 2 rfl) ?_
        exact e_iret X hG dX9_lowestWeakerThan_20 hM
set_option maxRecDepth 20000 in
set_option maxHeartbeats 4000000 in
theorem C_X9_lowestWeakerThan (l : Launch) (E : Ev) {σ σ' : St} {k : Nat} {p0 : Int32} {r : Int32} (h : M_X9_lowestWeakerThan σ k p0 = some (σ', r)) (hL : lay 9 k) : Mi l E yX9_lowestWeakerThan cX9_lowestWeakerThan 3 (some .int) 3 [.ref (E.1 k), .int p0] σ σ' r := by
  refine Mi_of (C := RX9) rfl (by decide) (Nat.le_of_ble_eq_true rfl) (z := (σ', r)) (fun p e s m below meth c ls X hG hl => ?_)
  have hx := X.1.1.1
  have hb := X.1.1.2.1
  have hM := h
  unfold M_X9_lowestWeakerThan at hM
  generalize (σ', r) = z at hM ⊢
  have hl : lv_has ls 3 [(0, .ref (E.1 k)), (1, .int p0)] := hl
  refine lv_iconst (v := (0 : Int32)) hx hb dX9_lowestWeakerThan_0 (by decide) ?_
  refine lv_istore_n (lv' := [(2, .int (0 : Int32)), (0, .ref (E.1 k)), (1, .int p0)]) hx hb dX9_lowestWeakerThan_1 rfl hl (by decide) rfl (fun ls hl => ?_)
  exact w_X9_lowestWeakerThan_2 X hL FU σ p0 (0 : Int32) _ _ _ z hG (lv_sub hl [1, 2, 0] rfl) hM
def B_X9_leastStrong_5  : Nat → St → Nat → Int32 → Int32 → Option (St × Int32)
  | 0, _, _, _, _ => none
  | n + 1, σ, k, x1, x2 => if (σ k 6) ≤ x2 then some (σ, x1) else (if x1 = (-4 : Int32) then (blet (x2 + (1 : Int32)) fun v1 => B_X9_leastStrong_5 n σ k x2 v1) else (bcall (M_X9_strengthOf σ k x2) fun σ2 r3 => bcall (M_X9_strengthOf σ2 k x1) fun σ4 r5 => if r5 ≤ r3 then (blet (x2 + (1 : Int32)) fun v6 => B_X9_leastStrong_5 n σ4 k x1 v6) else (blet (x2 + (1 : Int32)) fun v7 => B_X9_leastStrong_5 n σ4 k x2 v7)))
def M_X9_leastStrong (σ : St) (k : Nat)  : Option (St × Int32) := B_X9_leastStrong_5 FU σ k (-4 : Int32) (0 : Int32)
set_option maxRecDepth 20000 in
set_option maxHeartbeats 4000000 in
theorem w_X9_leastStrong_5 {p : Program} {l : Launch} {e : Env} {s : State} {m : MethodId} {below : List Frame} {meth : Method} {c : Code} {args : Array Value} {E : Ev} {k : Nat} (X : Bx E p m meth c cX9_leastStrong 3 (some .int) s args RX9) (hL : lay 9 k) : ∀ (n : Nat) (σ : St) (x1 x2 : Int32) (H : Heap) (locs : List Loc) (ls : Array Slot) (z : St × Int32), GS E σ s.heap H locs → lv_has ls 3 [(0, .ref (E.1 k)), (1, .int x1), (2, .int x2)] → B_X9_leastStrong_5 n σ k x1 x2 = some z → W p l e (rmd 3) s m args below meth c H locs 0 0 (QI E z below args s) (F0 m 5 ls []) := by
  have hx := X.1.1.1
  have hb := X.1.1.2.1
  intro n
  induction n with
  | zero => intro σ x1 x2 H locs ls z  hG hl hM; cases hM
  | succ n ih =>
    intro σ x1 x2 H locs ls z  hG hl hM
    unfold B_X9_leastStrong_5 at hM
    refine lv_iload_n hx hb dX9_leastStrong_5 rfl (lv_at hl 2 rfl) ?_
    refine lv_aload_n hx hb dX9_leastStrong_6 rfl (lv_at hl 0 rfl) ?_
    refine gt_9_6 X.1 hG hL mw137 dX9_leastStrong_7 ?_
    refine lv_icmp_ge (tgt := 40) hx hb dX9_leastStrong_10 (by decide) (fun c10 => ?_) (fun c10 => ?_)
    · have hM := b_if hM c10
      refine lv_iload_n hx hb dX9_leastStrong_40 rfl (lv_at hl 1 rfl) ?_
      exact e_iret X hG dX9_leastStrong_41 hM
    · have hM := b_else hM c10
      refine lv_iload_n hx hb dX9_leastStrong_13 rfl (lv_at hl 1 rfl) ?_
      refine lv_bipush (v := (-4 : Int32)) hx hb dX9_leastStrong_14 (by decide) ?_
      refine lv_icmp_eq (tgt := 32) hx hb dX9_leastStrong_16 (by decide) (fun c9 => ?_) (fun c9 => ?_)
      · have hM := b_if hM c9
        refine lv_iload_n hx hb dX9_leastStrong_32 rfl (lv_at hl 2 rfl) ?_
        refine lv_istore_n (lv' := [(1, .int x2), (0, .ref (E.1 k)), (2, .int x2)]) hx hb dX9_leastStrong_33 rfl hl (by decide) rfl (fun ls hl => ?_)
        obtain ⟨v1, ev1, hM⟩ := g_nm hM
        refine lv_iinc (v := v1) (lv' := [(2, .int v1), (1, .int x2), (0, .ref (E.1 k))]) hx hb dX9_leastStrong_34 hl (k := 2) rfl (by rw [ev1]; rfl) (by decide) rfl (fun ls hl => ?_)
        refine lv_goto (tgt := 5) hx hb dX9_leastStrong_37 (by decide) ?_
        exact ih σ x2 v1 _ _ _ z hG (lv_sub hl [2, 1, 0] rfl) hM
      · have hM := b_else hM c9
        refine lv_aload_n hx hb dX9_leastStrong_19 rfl (lv_at hl 0 rfl) ?_
        refine lv_iload_n hx hb dX9_leastStrong_20 rfl (lv_at hl 2 rfl) ?_
        refine g_callV_i (nA := 1) (o := M_X9_strengthOf σ k x2) (As := [.int x2]) X.1 hG hL rfl rfl (fun _ _ h => C_X9_strengthOf l E h hL) mw766 mw767 mw768 mw56 (gw_ok mw769 rfl) (by decide +kernel) rfl ⟨Nat.le_of_ble_eq_true rfl, Nat.le_of_ble_eq_true rfl⟩ hl.1 rfl (Nat.le_of_ble_eq_true rfl) ⟨Nat.le_refl _, Nat.le_refl _⟩ dX9_leastStrong_21 hM (fun σ2 r3 H locs hG hM => ?_)
        refine lv_aload_n hx hb dX9_leastStrong_24 rfl (lv_at hl 0 rfl) ?_
        refine lv_iload_n hx hb dX9_leastStrong_25 rfl (lv_at hl 1 rfl) ?_
        refine g_callV_i (nA := 1) (o := M_X9_strengthOf σ2 k x1) (As := [.int x1]) X.1 hG hL rfl rfl (fun _ _ h => C_X9_strengthOf l E h hL) mw766 mw767 mw768 mw56 (gw_ok mw769 rfl) (by decide +kernel) rfl ⟨Nat.le_of_ble_eq_true rfl, Nat.le_of_ble_eq_true rfl⟩ hl.1 rfl (Nat.le_of_ble_eq_true rfl) ⟨Nat.le_refl _, Nat.le_refl _⟩ dX9_leastStrong_26 hM (fun σ4 r5 H locs hG hM => ?_)
        refine lv_icmp_ge (tgt := 34) hx hb dX9_leastStrong_29 (by decide) (fun c8 => ?_) (fun c8 => ?_)
        · have hM := b_if hM c8
          obtain ⟨v6, ev6, hM⟩ := g_nm hM
          refine lv_iinc (v := v6) (lv' := [(2, .int v6), (0, .ref (E.1 k)), (1, .int x1)]) hx hb dX9_leastStrong_34 hl (k := 2) rfl (by rw [ev6]; rfl) (by decide) rfl (fun ls hl => ?_)
          refine lv_goto (tgt := 5) hx hb dX9_leastStrong_37 (by decide) ?_
          exact ih σ4 x1 v6 _ _ _ z hG (lv_sub hl [1, 2, 0] rfl) hM
        · have hM := b_else hM c8
          refine lv_iload_n hx hb dX9_leastStrong_32 rfl (lv_at hl 2 rfl) ?_
          refine lv_istore_n (lv' := [(1, .int x2), (0, .ref (E.1 k)), (2, .int x2)]) hx hb dX9_leastStrong_33 rfl hl (by decide) rfl (fun ls hl => ?_)
          obtain ⟨v7, ev7, hM⟩ := g_nm hM
          refine lv_iinc (v := v7) (lv' := [(2, .int v7), (1, .int x2), (0, .ref (E.1 k))]) hx hb dX9_leastStrong_34 hl (k := 2) rfl (by rw [ev7]; rfl) (by decide) rfl (fun ls hl => ?_)
          refine lv_goto (tgt := 5) hx hb dX9_leastStrong_37 (by decide) ?_
          exact ih σ4 x2 v7 _ _ _ z hG (lv_sub hl [2, 1, 0] rfl) hM
set_option maxRecDepth 20000 in
set_option maxHeartbeats 4000000 in
theorem C_X9_leastStrong (l : Launch) (E : Ev) {σ σ' : St} {k : Nat} {r : Int32} (h : M_X9_leastStrong σ k = some (σ', r)) (hL : lay 9 k) : Mi l E yX9_leastStrong cX9_leastStrong 3 (some .int) 3 [.ref (E.1 k)] σ σ' r := by
  refine Mi_of (C := RX9) rfl (by decide) (Nat.le_of_ble_eq_true rfl) (z := (σ', r)) (fun p e s m below meth c ls X hG hl => ?_)
  have hx := X.1.1.1
  have hb := X.1.1.2.1
  have hM := h
  unfold M_X9_leastStrong at hM
  generalize (σ', r) = z at hM ⊢
  have hl : lv_has ls 3 [(0, .ref (E.1 k))] := hl
  refine lv_bipush (v := (-4 : Int32)) hx hb dX9_leastStrong_0 (by decide) ?_
  refine lv_istore_n (lv' := [(1, .int (-4 : Int32)), (0, .ref (E.1 k))]) hx hb dX9_leastStrong_2 rfl hl (by decide) rfl (fun ls hl => ?_)
  refine lv_iconst (v := (0 : Int32)) hx hb dX9_leastStrong_3 (by decide) ?_
  refine lv_istore_n (lv' := [(2, .int (0 : Int32)), (1, .int (-4 : Int32)), (0, .ref (E.1 k))]) hx hb dX9_leastStrong_4 rfl hl (by decide) rfl (fun ls hl => ?_)
  exact w_X9_leastStrong_5 X hL FU σ (-4 : Int32) (0 : Int32) _ _ _ z hG (lv_sub hl [2, 1, 0] rfl) hM
def B_X9_highestOpen_5  : Nat → St → Nat → Int32 → Int32 → Option (St × Int32)
  | 0, _, _, _, _ => none
  | n + 1, σ, k, x1, x2 => if (σ k 6) ≤ x2 then some (σ, x1) else (bcall (M_X9_isOld σ k x2) fun σ1 r2 => if r2 = 0 then (bcall (M_X9_isShut σ1 k x2) fun σ3 r4 => if r4 = 0 then (blet (x2 + (1 : Int32)) fun v6 => B_X9_highestOpen_5 n σ3 k x2 v6) else (blet (x2 + (1 : Int32)) fun v5 => B_X9_highestOpen_5 n σ3 k x1 v5)) else some (σ1, x1))
def M_X9_highestOpen (σ : St) (k : Nat)  : Option (St × Int32) := B_X9_highestOpen_5 FU σ k (-4 : Int32) (0 : Int32)
set_option maxRecDepth 20000 in
set_option maxHeartbeats 4000000 in
theorem w_X9_highestOpen_5 {p : Program} {l : Launch} {e : Env} {s : State} {m : MethodId} {below : List Frame} {meth : Method} {c : Code} {args : Array Value} {E : Ev} {k : Nat} (X : Bx E p m meth c cX9_highestOpen 3 (some .int) s args RX9) (hL : lay 9 k) : ∀ (n : Nat) (σ : St) (x1 x2 : Int32) (H : Heap) (locs : List Loc) (ls : Array Slot) (z : St × Int32), GS E σ s.heap H locs → lv_has ls 3 [(0, .ref (E.1 k)), (1, .int x1), (2, .int x2)] → B_X9_highestOpen_5 n σ k x1 x2 = some z → W p l e (rmd 4) s m args below meth c H locs 0 0 (QI E z below args s) (F0 m 5 ls []) := by
  have hx := X.1.1.1
  have hb := X.1.1.2.1
  intro n
  induction n with
  | zero => intro σ x1 x2 H locs ls z  hG hl hM; cases hM
  | succ n ih =>
    intro σ x1 x2 H locs ls z  hG hl hM
    unfold B_X9_highestOpen_5 at hM
    refine lv_iload_n hx hb dX9_highestOpen_5 rfl (lv_at hl 2 rfl) ?_
    refine lv_aload_n hx hb dX9_highestOpen_6 rfl (lv_at hl 0 rfl) ?_
    refine gt_9_6 X.1 hG hL mw137 dX9_highestOpen_7 ?_
    refine lv_icmp_ge (tgt := 37) hx hb dX9_highestOpen_10 (by decide) (fun c9 => ?_) (fun c9 => ?_)
    · have hM := b_if hM c9
      refine lv_iload_n hx hb dX9_highestOpen_37 rfl (lv_at hl 1 rfl) ?_
      exact e_iret X hG dX9_highestOpen_38 hM
    · have hM := b_else hM c9
      refine lv_aload_n hx hb dX9_highestOpen_13 rfl (lv_at hl 0 rfl) ?_
      refine lv_iload_n hx hb dX9_highestOpen_14 rfl (lv_at hl 2 rfl) ?_
      refine g_callV_i (nA := 1) (o := M_X9_isOld σ k x2) (As := [.int x2]) X.1 hG hL rfl rfl (fun _ _ h => C_X9_isOld l E h hL) mw1001 mw1002 mw1003 mw56 (gw_ok mw1004 rfl) (by decide +kernel) rfl ⟨Nat.le_of_ble_eq_true rfl, Nat.le_of_ble_eq_true rfl⟩ hl.1 rfl (Nat.le_of_ble_eq_true rfl) ⟨Nat.le_refl _, Nat.le_refl _⟩ dX9_highestOpen_15 hM (fun σ1 r2 H locs hG hM => ?_)
      refine lv_if_ne (tgt := 37) hx hb dX9_highestOpen_18 (by decide) (fun c8 => ?_) (fun c8 => ?_)
      · have hM := b_else hM c8
        refine lv_iload_n hx hb dX9_highestOpen_37 rfl (lv_at hl 1 rfl) ?_
        exact e_iret X hG dX9_highestOpen_38 hM
      · have hM := b_if hM c8
        refine lv_aload_n hx hb dX9_highestOpen_21 rfl (lv_at hl 0 rfl) ?_
        refine lv_iload_n hx hb dX9_highestOpen_22 rfl (lv_at hl 2 rfl) ?_
        refine g_callV_i (nA := 1) (o := M_X9_isShut σ1 k x2) (As := [.int x2]) X.1 hG hL rfl rfl (fun _ _ h => C_X9_isShut l E h hL) mw1005 mw592 mw593 mw56 (gw_ok mw594 rfl) (by decide +kernel) rfl ⟨Nat.le_of_ble_eq_true rfl, Nat.le_of_ble_eq_true rfl⟩ hl.1 rfl (Nat.le_of_ble_eq_true rfl) ⟨Nat.le_refl _, Nat.le_refl _⟩ dX9_highestOpen_23 hM (fun σ3 r4 H locs hG hM => ?_)
        refine lv_if_ne (tgt := 31) hx hb dX9_highestOpen_26 (by decide) (fun c7 => ?_) (fun c7 => ?_)
        · have hM := b_else hM c7
          obtain ⟨v5, ev5, hM⟩ := g_nm hM
          refine lv_iinc (v := v5) (lv' := [(2, .int v5), (0, .ref (E.1 k)), (1, .int x1)]) hx hb dX9_highestOpen_31 hl (k := 2) rfl (by rw [ev5]; rfl) (by decide) rfl (fun ls hl => ?_)
          refine lv_goto (tgt := 5) hx hb dX9_highestOpen_34 (by decide) ?_
          exact ih σ3 x1 v5 _ _ _ z hG (lv_sub hl [1, 2, 0] rfl) hM
        · have hM := b_if hM c7
          refine lv_iload_n hx hb dX9_highestOpen_29 rfl (lv_at hl 2 rfl) ?_
          refine lv_istore_n (lv' := [(1, .int x2), (0, .ref (E.1 k)), (2, .int x2)]) hx hb dX9_highestOpen_30 rfl hl (by decide) rfl (fun ls hl => ?_)
          obtain ⟨v6, ev6, hM⟩ := g_nm hM
          refine lv_iinc (v := v6) (lv' := [(2, .int v6), (1, .int x2), (0, .ref (E.1 k))]) hx hb dX9_highestOpen_31 hl (k := 2) rfl (by rw [ev6]; rfl) (by decide) rfl (fun ls hl => ?_)
          refine lv_goto (tgt := 5) hx hb dX9_highestOpen_34 (by decide) ?_
          exact ih σ3 x2 v6 _ _ _ z hG (lv_sub hl [2, 1, 0] rfl) hM
set_option maxRecDepth 20000 in
set_option maxHeartbeats 4000000 in
theorem C_X9_highestOpen (l : Launch) (E : Ev) {σ σ' : St} {k : Nat} {r : Int32} (h : M_X9_highestOpen σ k = some (σ', r)) (hL : lay 9 k) : Mi l E yX9_highestOpen cX9_highestOpen 3 (some .int) 4 [.ref (E.1 k)] σ σ' r := by
  refine Mi_of (C := RX9) rfl (by decide) (Nat.le_of_ble_eq_true rfl) (z := (σ', r)) (fun p e s m below meth c ls X hG hl => ?_)
  have hx := X.1.1.1
  have hb := X.1.1.2.1
  have hM := h
  unfold M_X9_highestOpen at hM
  generalize (σ', r) = z at hM ⊢
  have hl : lv_has ls 3 [(0, .ref (E.1 k))] := hl
  refine lv_bipush (v := (-4 : Int32)) hx hb dX9_highestOpen_0 (by decide) ?_
  refine lv_istore_n (lv' := [(1, .int (-4 : Int32)), (0, .ref (E.1 k))]) hx hb dX9_highestOpen_2 rfl hl (by decide) rfl (fun ls hl => ?_)
  refine lv_iconst (v := (0 : Int32)) hx hb dX9_highestOpen_3 (by decide) ?_
  refine lv_istore_n (lv' := [(2, .int (0 : Int32)), (1, .int (-4 : Int32)), (0, .ref (E.1 k))]) hx hb dX9_highestOpen_4 rfl hl (by decide) rfl (fun ls hl => ?_)
  exact w_X9_highestOpen_5 X hL FU σ (-4 : Int32) (0 : Int32) _ _ _ z hG (lv_sub hl [2, 1, 0] rfl) hM
def B_X9_placeByTieOf_4  : Nat → St → Nat → Int32 → Int32 → Int32 → Option (St × Int32)
  | 0, _, _, _, _, _ => none
  | n + 1, σ, k, x1, x2, x3 => if (σ k 6) ≤ x3 then some (σ, x2) else (bcall (M_X9_tieOf σ k x3) fun σ1 r2 => bcall (M_X9_tieOf σ1 k x1) fun σ3 r4 => if r2 = r4 then (if x3 ≤ x1 then (bcall (M_X9_tieOf σ3 k x3) fun σ17 r18 => bcall (M_X9_tieOf σ17 k x1) fun σ19 r20 => if r20 < r18 then (blet (x2 + (1 : Int32)) fun v21 => blet (x3 + (1 : Int32)) fun v22 => B_X9_placeByTieOf_4 n σ19 k x1 v21 v22) else (if (0 : Int32) = 0 then (blet (x2 + (0 : Int32)) fun v23 => blet (x3 + (1 : Int32)) fun v24 => B_X9_placeByTieOf_4 n σ19 k x1 v23 v24) else (blet (x2 + (1 : Int32)) fun v25 => blet (x3 + (1 : Int32)) fun v26 => B_X9_placeByTieOf_4 n σ19 k x1 v25 v26))) else (bcall (M_X9_tieOf σ3 k x3) fun σ29 r30 => bcall (M_X9_tieOf σ29 k x1) fun σ31 r32 => if r32 < r30 then (blet (x2 + (1 : Int32)) fun v33 => blet (x3 + (1 : Int32)) fun v34 => B_X9_placeByTieOf_4 n σ31 k x1 v33 v34) else (if (1 : Int32) = 0 then (blet (x2 + (0 : Int32)) fun v35 => blet (x3 + (1 : Int32)) fun v36 => B_X9_placeByTieOf_4 n σ31 k x1 v35 v36) else (blet (x2 + (1 : Int32)) fun v37 => blet (x3 + (1 : Int32)) fun v38 => B_X9_placeByTieOf_4 n σ31 k x1 v37 v38)))) else (bcall (M_X9_tieOf σ3 k x3) fun σ5 r6 => bcall (M_X9_tieOf σ5 k x1) fun σ7 r8 => if r8 < r6 then (blet (x2 + (1 : Int32)) fun v9 => blet (x3 + (1 : Int32)) fun v10 => B_X9_placeByTieOf_4 n σ7 k x1 v9 v10) else (if (0 : Int32) = 0 then (blet (x2 + (0 : Int32)) fun v11 => blet (x3 + (1 : Int32)) fun v12 => B_X9_placeByTieOf_4 n σ7 k x1 v11 v12) else (blet (x2 + (1 : Int32)) fun v13 => blet (x3 + (1 : Int32)) fun v14 => B_X9_placeByTieOf_4 n σ7 k x1 v13 v14))))
def M_X9_placeByTieOf (σ : St) (k : Nat) (p0 : Int32) : Option (St × Int32) := B_X9_placeByTieOf_4 FU σ k p0 (0 : Int32) (0 : Int32)
set_option maxRecDepth 20000 in
set_option maxHeartbeats 4000000 in
theorem w_X9_placeByTieOf_4 {p : Program} {l : Launch} {e : Env} {s : State} {m : MethodId} {below : List Frame} {meth : Method} {c : Code} {args : Array Value} {E : Ev} {k : Nat} (X : Bx E p m meth c cX9_placeByTieOf 5 (some .int) s args RX9) (hL : lay 9 k) : ∀ (n : Nat) (σ : St) (x1 x2 x3 : Int32) (H : Heap) (locs : List Loc) (ls : Array Slot) (z : St × Int32), GS E σ s.heap H locs → lv_has ls 5 [(0, .ref (E.1 k)), (1, .int x1), (2, .int x2), (3, .int x3)] → B_X9_placeByTieOf_4 n σ k x1 x2 x3 = some z → W p l e (rmd 3) s m args below meth c H locs 0 0 (QI E z below args s) (F0 m 4 ls []) := by
  have hx := X.1.1.1
  have hb := X.1.1.2.1
  intro n
  induction n with
  | zero => intro σ x1 x2 x3 H locs ls z  hG hl hM; cases hM
  | succ n ih =>
    intro σ x1 x2 x3 H locs ls z  hG hl hM
    unfold B_X9_placeByTieOf_4 at hM
    refine lv_iload_n hx hb dX9_placeByTieOf_4 rfl (lv_at hl 3 rfl) ?_
    refine lv_aload_n hx hb dX9_placeByTieOf_5 rfl (lv_at hl 0 rfl) ?_
    refine gt_9_6 X.1 hG hL mw137 dX9_placeByTieOf_6 ?_
    refine lv_icmp_ge (tgt := 69) hx hb dX9_placeByTieOf_9 (by decide) (fun c43 => ?_) (fun c43 => ?_)
    · have hM := b_if hM c43
      refine lv_iload_n hx hb dX9_placeByTieOf_69 rfl (lv_at hl 2 rfl) ?_
      exact e_iret X hG dX9_placeByTieOf_70 hM
    · have hM := b_else hM c43
      refine lv_aload_n hx hb dX9_placeByTieOf_12 rfl (lv_at hl 0 rfl) ?_
      refine lv_iload_n hx hb dX9_placeByTieOf_13 rfl (lv_at hl 3 rfl) ?_
      refine g_callV_i (nA := 1) (o := M_X9_tieOf σ k x3) (As := [.int x3]) X.1 hG hL rfl rfl (fun _ _ h => C_X9_tieOf l E h hL) mw942 mw544 mw545 mw56 (gw_ok mw546 rfl) (by decide +kernel) rfl ⟨Nat.le_of_ble_eq_true rfl, Nat.le_of_ble_eq_true rfl⟩ hl.1 rfl (Nat.le_of_ble_eq_true rfl) ⟨Nat.le_refl _, Nat.le_refl _⟩ dX9_placeByTieOf_14 hM (fun σ1 r2 H locs hG hM => ?_)
      refine lv_aload_n hx hb dX9_placeByTieOf_17 rfl (lv_at hl 0 rfl) ?_
      refine lv_iload_n hx hb dX9_placeByTieOf_18 rfl (lv_at hl 1 rfl) ?_
      refine g_callV_i (nA := 1) (o := M_X9_tieOf σ1 k x1) (As := [.int x1]) X.1 hG hL rfl rfl (fun _ _ h => C_X9_tieOf l E h hL) mw942 mw544 mw545 mw56 (gw_ok mw546 rfl) (by decide +kernel) rfl ⟨Nat.le_of_ble_eq_true rfl, Nat.le_of_ble_eq_true rfl⟩ hl.1 rfl (Nat.le_of_ble_eq_true rfl) ⟨Nat.le_refl _, Nat.le_refl _⟩ dX9_placeByTieOf_19 hM (fun σ3 r4 H locs hG hM => ?_)
      refine lv_icmp_ne (tgt := 34) hx hb dX9_placeByTieOf_22 (by decide) (fun c42 => ?_) (fun c42 => ?_)
      · have hM := b_else hM c42
        refine lv_iconst (v := (0 : Int32)) hx hb dX9_placeByTieOf_34 (by decide) ?_
        refine lv_istore (lv' := [(4, .int (0 : Int32)), (0, .ref (E.1 k)), (1, .int x1), (2, .int x2), (3, .int x3)]) hx hb dX9_placeByTieOf_35 hl (by decide) rfl (fun ls hl => ?_)
        refine lv_iload_n hx hb dX9_placeByTieOf_37 rfl (lv_at hl 3 rfl) ?_
        refine lv_aload_n hx hb dX9_placeByTieOf_38 rfl (lv_at hl 1 rfl) ?_
        refine lv_iload_n hx hb dX9_placeByTieOf_39 rfl (lv_at hl 4 rfl) ?_
        refine g_callV_i (nA := 1) (o := M_X9_tieOf σ3 k x3) (As := [.int x3]) X.1 hG hL rfl rfl (fun _ _ h => C_X9_tieOf l E h hL) mw942 mw544 mw545 mw56 (gw_ok mw546 rfl) (by decide +kernel) rfl ⟨Nat.le_of_ble_eq_true rfl, Nat.le_of_ble_eq_true rfl⟩ hl.1 rfl (Nat.le_of_ble_eq_true rfl) ⟨Nat.le_refl _, Nat.le_refl _⟩ dX9_placeByTieOf_40 hM (fun σ5 r6 H locs hG hM => ?_)
        refine lv_aload_n hx hb dX9_placeByTieOf_43 rfl (lv_at hl 1 rfl) ?_
        refine lv_iload_n hx hb dX9_placeByTieOf_44 rfl (lv_at hl 2 rfl) ?_
        refine g_callV_i (nA := 1) (o := M_X9_tieOf σ5 k x1) (As := [.int x1]) X.1 hG hL rfl rfl (fun _ _ h => C_X9_tieOf l E h hL) mw942 mw544 mw545 mw56 (gw_ok mw546 rfl) (by decide +kernel) rfl ⟨Nat.le_of_ble_eq_true rfl, Nat.le_of_ble_eq_true rfl⟩ hl.1 rfl (Nat.le_of_ble_eq_true rfl) ⟨Nat.le_refl _, Nat.le_refl _⟩ dX9_placeByTieOf_45 hM (fun σ7 r8 H locs hG hM => ?_)
        refine lv_icmp_gt (tgt := 56) hx hb dX9_placeByTieOf_48 (by decide) (fun c16 => ?_) (fun c16 => ?_)
        · have hM := b_if hM c16
          refine lv_iconst (v := (1 : Int32)) hx hb dX9_placeByTieOf_56 (by decide) ?_
          refine lv_goto (tgt := 61) hx hb dX9_placeByTieOf_57 (by decide) ?_
          refine lv_iadd hx hb dX9_placeByTieOf_61 ?_
          refine g_name hM (fun v9 hM => ?_)
          refine lv_istore_n (lv' := [(2, .int v9), (4, .int (0 : Int32)), (0, .ref (E.1 k)), (1, .int x1), (3, .int x3)]) hx hb dX9_placeByTieOf_62 rfl hl (by decide) rfl (fun ls hl => ?_)
          obtain ⟨v10, ev10, hM⟩ := g_nm hM
          refine lv_iinc (v := v10) (lv' := [(3, .int v10), (2, .int v9), (4, .int (0 : Int32)), (0, .ref (E.1 k)), (1, .int x1)]) hx hb dX9_placeByTieOf_63 hl (k := 4) rfl (by rw [ev10]; rfl) (by decide) rfl (fun ls hl => ?_)
          refine lv_goto (tgt := 4) hx hb dX9_placeByTieOf_66 (by decide) ?_
          exact ih σ7 x1 v9 v10 _ _ _ z hG (lv_sub hl [3, 4, 1, 0] rfl) hM
        · have hM := b_else hM c16
          refine lv_iload hx hb dX9_placeByTieOf_51 (lv_at hl 0 rfl) ?_
          refine lv_if_eq (tgt := 60) hx hb dX9_placeByTieOf_53 (by decide) (fun c15 => ?_) (fun c15 => ?_)
          · have hM := b_if hM c15
            refine lv_iconst (v := (0 : Int32)) hx hb dX9_placeByTieOf_60 (by decide) ?_
            refine lv_iadd hx hb dX9_placeByTieOf_61 ?_
            refine g_name hM (fun v11 hM => ?_)
            refine lv_istore_n (lv' := [(2, .int v11), (4, .int (0 : Int32)), (0, .ref (E.1 k)), (1, .int x1), (3, .int x3)]) hx hb dX9_placeByTieOf_62 rfl hl (by decide) rfl (fun ls hl => ?_)
            obtain ⟨v12, ev12, hM⟩ := g_nm hM
            refine lv_iinc (v := v12) (lv' := [(3, .int v12), (2, .int v11), (4, .int (0 : Int32)), (0, .ref (E.1 k)), (1, .int x1)]) hx hb dX9_placeByTieOf_63 hl (k := 4) rfl (by rw [ev12]; rfl) (by decide) rfl (fun ls hl => ?_)
            refine lv_goto (tgt := 4) hx hb dX9_placeByTieOf_66 (by decide) ?_
            exact ih σ7 x1 v11 v12 _ _ _ z hG (lv_sub hl [3, 4, 1, 0] rfl) hM
          · have hM := b_else hM c15
            refine lv_iconst (v := (1 : Int32)) hx hb dX9_placeByTieOf_56 (by decide) ?_
            refine lv_goto (tgt := 61) hx hb dX9_placeByTieOf_57 (by decide) ?_
            refine lv_iadd hx hb dX9_placeByTieOf_61 ?_
            refine g_name hM (fun v13 hM => ?_)
            refine lv_istore_n (lv' := [(2, .int v13), (4, .int (0 : Int32)), (0, .ref (E.1 k)), (1, .int x1), (3, .int x3)]) hx hb dX9_placeByTieOf_62 rfl hl (by decide) rfl (fun ls hl => ?_)
            obtain ⟨v14, ev14, hM⟩ := g_nm hM
            refine lv_iinc (v := v14) (lv' := [(3, .int v14), (2, .int v13), (4, .int (0 : Int32)), (0, .ref (E.1 k)), (1, .int x1)]) hx hb dX9_placeByTieOf_63 hl (k := 4) rfl (by rw [ev14]; rfl) (by decide) rfl (fun ls hl => ?_)
            refine lv_goto (tgt := 4) hx hb dX9_placeByTieOf_66 (by decide) ?_
            exact ih σ7 x1 v13 v14 _ _ _ z hG (lv_sub hl [3, 4, 1, 0] rfl) hM
      · have hM := b_if hM c42
        refine lv_iload_n hx hb dX9_placeByTieOf_25 rfl (lv_at hl 3 rfl) ?_
        refine lv_iload_n hx hb dX9_placeByTieOf_26 rfl (lv_at hl 1 rfl) ?_
        refine lv_icmp_le (tgt := 34) hx hb dX9_placeByTieOf_27 (by decide) (fun c41 => ?_) (fun c41 => ?_)
        · have hM := b_if hM c41
          refine lv_iconst (v := (0 : Int32)) hx hb dX9_placeByTieOf_34 (by decide) ?_
          refine lv_istore (lv' := [(4, .int (0 : Int32)), (0, .ref (E.1 k)), (1, .int x1), (2, .int x2), (3, .int x3)]) hx hb dX9_placeByTieOf_35 hl (by decide) rfl (fun ls hl => ?_)
          refine lv_iload_n hx hb dX9_placeByTieOf_37 rfl (lv_at hl 3 rfl) ?_
          refine lv_aload_n hx hb dX9_placeByTieOf_38 rfl (lv_at hl 1 rfl) ?_
          refine lv_iload_n hx hb dX9_placeByTieOf_39 rfl (lv_at hl 4 rfl) ?_
          refine g_callV_i (nA := 1) (o := M_X9_tieOf σ3 k x3) (As := [.int x3]) X.1 hG hL rfl rfl (fun _ _ h => C_X9_tieOf l E h hL) mw942 mw544 mw545 mw56 (gw_ok mw546 rfl) (by decide +kernel) rfl ⟨Nat.le_of_ble_eq_true rfl, Nat.le_of_ble_eq_true rfl⟩ hl.1 rfl (Nat.le_of_ble_eq_true rfl) ⟨Nat.le_refl _, Nat.le_refl _⟩ dX9_placeByTieOf_40 hM (fun σ17 r18 H locs hG hM => ?_)
          refine lv_aload_n hx hb dX9_placeByTieOf_43 rfl (lv_at hl 1 rfl) ?_
          refine lv_iload_n hx hb dX9_placeByTieOf_44 rfl (lv_at hl 2 rfl) ?_
          refine g_callV_i (nA := 1) (o := M_X9_tieOf σ17 k x1) (As := [.int x1]) X.1 hG hL rfl rfl (fun _ _ h => C_X9_tieOf l E h hL) mw942 mw544 mw545 mw56 (gw_ok mw546 rfl) (by decide +kernel) rfl ⟨Nat.le_of_ble_eq_true rfl, Nat.le_of_ble_eq_true rfl⟩ hl.1 rfl (Nat.le_of_ble_eq_true rfl) ⟨Nat.le_refl _, Nat.le_refl _⟩ dX9_placeByTieOf_45 hM (fun σ19 r20 H locs hG hM => ?_)
          refine lv_icmp_gt (tgt := 56) hx hb dX9_placeByTieOf_48 (by decide) (fun c28 => ?_) (fun c28 => ?_)
          · have hM := b_if hM c28
            refine lv_iconst (v := (1 : Int32)) hx hb dX9_placeByTieOf_56 (by decide) ?_
            refine lv_goto (tgt := 61) hx hb dX9_placeByTieOf_57 (by decide) ?_
            refine lv_iadd hx hb dX9_placeByTieOf_61 ?_
            refine g_name hM (fun v21 hM => ?_)
            refine lv_istore_n (lv' := [(2, .int v21), (4, .int (0 : Int32)), (0, .ref (E.1 k)), (1, .int x1), (3, .int x3)]) hx hb dX9_placeByTieOf_62 rfl hl (by decide) rfl (fun ls hl => ?_)
            obtain ⟨v22, ev22, hM⟩ := g_nm hM
            refine lv_iinc (v := v22) (lv' := [(3, .int v22), (2, .int v21), (4, .int (0 : Int32)), (0, .ref (E.1 k)), (1, .int x1)]) hx hb dX9_placeByTieOf_63 hl (k := 4) rfl (by rw [ev22]; rfl) (by decide) rfl (fun ls hl => ?_)
            refine lv_goto (tgt := 4) hx hb dX9_placeByTieOf_66 (by decide) ?_
            exact ih σ19 x1 v21 v22 _ _ _ z hG (lv_sub hl [3, 4, 1, 0] rfl) hM
          · have hM := b_else hM c28
            refine lv_iload hx hb dX9_placeByTieOf_51 (lv_at hl 0 rfl) ?_
            refine lv_if_eq (tgt := 60) hx hb dX9_placeByTieOf_53 (by decide) (fun c27 => ?_) (fun c27 => ?_)
            · have hM := b_if hM c27
              refine lv_iconst (v := (0 : Int32)) hx hb dX9_placeByTieOf_60 (by decide) ?_
              refine lv_iadd hx hb dX9_placeByTieOf_61 ?_
              refine g_name hM (fun v23 hM => ?_)
              refine lv_istore_n (lv' := [(2, .int v23), (4, .int (0 : Int32)), (0, .ref (E.1 k)), (1, .int x1), (3, .int x3)]) hx hb dX9_placeByTieOf_62 rfl hl (by decide) rfl (fun ls hl => ?_)
              obtain ⟨v24, ev24, hM⟩ := g_nm hM
              refine lv_iinc (v := v24) (lv' := [(3, .int v24), (2, .int v23), (4, .int (0 : Int32)), (0, .ref (E.1 k)), (1, .int x1)]) hx hb dX9_placeByTieOf_63 hl (k := 4) rfl (by rw [ev24]; rfl) (by decide) rfl (fun ls hl => ?_)
              refine lv_goto (tgt := 4) hx hb dX9_placeByTieOf_66 (by decide) ?_
              exact ih σ19 x1 v23 v24 _ _ _ z hG (lv_sub hl [3, 4, 1, 0] rfl) hM
            · have hM := b_else hM c27
              refine lv_iconst (v := (1 : Int32)) hx hb dX9_placeByTieOf_56 (by decide) ?_
              refine lv_goto (tgt := 61) hx hb dX9_placeByTieOf_57 (by decide) ?_
              refine lv_iadd hx hb dX9_placeByTieOf_61 ?_
              refine g_name hM (fun v25 hM => ?_)
              refine lv_istore_n (lv' := [(2, .int v25), (4, .int (0 : Int32)), (0, .ref (E.1 k)), (1, .int x1), (3, .int x3)]) hx hb dX9_placeByTieOf_62 rfl hl (by decide) rfl (fun ls hl => ?_)
              obtain ⟨v26, ev26, hM⟩ := g_nm hM
              refine lv_iinc (v := v26) (lv' := [(3, .int v26), (2, .int v25), (4, .int (0 : Int32)), (0, .ref (E.1 k)), (1, .int x1)]) hx hb dX9_placeByTieOf_63 hl (k := 4) rfl (by rw [ev26]; rfl) (by decide) rfl (fun ls hl => ?_)
              refine lv_goto (tgt := 4) hx hb dX9_placeByTieOf_66 (by decide) ?_
              exact ih σ19 x1 v25 v26 _ _ _ z hG (lv_sub hl [3, 4, 1, 0] rfl) hM
        · have hM := b_else hM c41
          refine lv_iconst (v := (1 : Int32)) hx hb dX9_placeByTieOf_30 (by decide) ?_
          refine lv_goto (tgt := 35) hx hb dX9_placeByTieOf_31 (by decide) ?_
          refine lv_istore (lv' := [(4, .int (1 : Int32)), (0, .ref (E.1 k)), (1, .int x1), (2, .int x2), (3, .int x3)]) hx hb dX9_placeByTieOf_35 hl (by decide) rfl (fun ls hl => ?_)
          refine lv_iload_n hx hb dX9_placeByTieOf_37 rfl (lv_at hl 3 rfl) ?_
          refine lv_aload_n hx hb dX9_placeByTieOf_38 rfl (lv_at hl 1 rfl) ?_
          refine lv_iload_n hx hb dX9_placeByTieOf_39 rfl (lv_at hl 4 rfl) ?_
          refine g_callV_i (nA := 1) (o := M_X9_tieOf σ3 k x3) (As := [.int x3]) X.1 hG hL rfl rfl (fun _ _ h => C_X9_tieOf l E h hL) mw942 mw544 mw545 mw56 (gw_ok mw546 rfl) (by decide +kernel) rfl ⟨Nat.le_of_ble_eq_true rfl, Nat.le_of_ble_eq_true rfl⟩ hl.1 rfl (Nat.le_of_ble_eq_true rfl) ⟨Nat.le_refl _, Nat.le_refl _⟩ dX9_placeByTieOf_40 hM (fun σ29 r30 H locs hG hM => ?_)
          refine lv_aload_n hx hb dX9_placeByTieOf_43 rfl (lv_at hl 1 rfl) ?_
          refine lv_iload_n hx hb dX9_placeByTieOf_44 rfl (lv_at hl 2 rfl) ?_
          refine g_callV_i (nA := 1) (o := M_X9_tieOf σ29 k x1) (As := [.int x1]) X.1 hG hL rfl rfl (fun _ _ h => C_X9_tieOf l E h hL) mw942 mw544 mw545 mw56 (gw_ok mw546 rfl) (by decide +kernel) rfl ⟨Nat.le_of_ble_eq_true rfl, Nat.le_of_ble_eq_true rfl⟩ hl.1 rfl (Nat.le_of_ble_eq_true rfl) ⟨Nat.le_refl _, Nat.le_refl _⟩ dX9_placeByTieOf_45 hM (fun σ31 r32 H locs hG hM => ?_)
          refine lv_icmp_gt (tgt := 56) hx hb dX9_placeByTieOf_48 (by decide) (fun c40 => ?_) (fun c40 => ?_)
          · have hM := b_if hM c40
            refine lv_iconst (v := (1 : Int32)) hx hb dX9_placeByTieOf_56 (by decide) ?_
            refine lv_goto (tgt := 61) hx hb dX9_placeByTieOf_57 (by decide) ?_
            refine lv_iadd hx hb dX9_placeByTieOf_61 ?_
            refine g_name hM (fun v33 hM => ?_)
            refine lv_istore_n (lv' := [(2, .int v33), (4, .int (1 : Int32)), (0, .ref (E.1 k)), (1, .int x1), (3, .int x3)]) hx hb dX9_placeByTieOf_62 rfl hl (by decide) rfl (fun ls hl => ?_)
            obtain ⟨v34, ev34, hM⟩ := g_nm hM
            refine lv_iinc (v := v34) (lv' := [(3, .int v34), (2, .int v33), (4, .int (1 : Int32)), (0, .ref (E.1 k)), (1, .int x1)]) hx hb dX9_placeByTieOf_63 hl (k := 4) rfl (by rw [ev34]; rfl) (by decide) rfl (fun ls hl => ?_)
            refine lv_goto (tgt := 4) hx hb dX9_placeByTieOf_66 (by decide) ?_
            exact ih σ31 x1 v33 v34 _ _ _ z hG (lv_sub hl [3, 4, 1, 0] rfl) hM
          · have hM := b_else hM c40
            refine lv_iload hx hb dX9_placeByTieOf_51 (lv_at hl 0 rfl) ?_
            refine lv_if_eq (tgt := 60) hx hb dX9_placeByTieOf_53 (by decide) (fun c39 => ?_) (fun c39 => ?_)
            · have hM := b_if hM c39
              refine lv_iconst (v := (0 : Int32)) hx hb dX9_placeByTieOf_60 (by decide) ?_
              refine lv_iadd hx hb dX9_placeByTieOf_61 ?_
              refine g_name hM (fun v35 hM => ?_)
              refine lv_istore_n (lv' := [(2, .int v35), (4, .int (1 : Int32)), (0, .ref (E.1 k)), (1, .int x1), (3, .int x3)]) hx hb dX9_placeByTieOf_62 rfl hl (by decide) rfl (fun ls hl => ?_)
              obtain ⟨v36, ev36, hM⟩ := g_nm hM
              refine lv_iinc (v := v36) (lv' := [(3, .int v36), (2, .int v35), (4, .int (1 : Int32)), (0, .ref (E.1 k)), (1, .int x1)]) hx hb dX9_placeByTieOf_63 hl (k := 4) rfl (by rw [ev36]; rfl) (by decide) rfl (fun ls hl => ?_)
              refine lv_goto (tgt := 4) hx hb dX9_placeByTieOf_66 (by decide) ?_
              exact ih σ31 x1 v35 v36 _ _ _ z hG (lv_sub hl [3, 4, 1, 0] rfl) hM
            · have hM := b_else hM c39
              refine lv_iconst (v := (1 : Int32)) hx hb dX9_placeByTieOf_56 (by decide) ?_
              refine lv_goto (tgt := 61) hx hb dX9_placeByTieOf_57 (by decide) ?_
              refine lv_iadd hx hb dX9_placeByTieOf_61 ?_
              refine g_name hM (fun v37 hM => ?_)
              refine lv_istore_n (lv' := [(2, .int v37), (4, .int (1 : Int32)), (0, .ref (E.1 k)), (1, .int x1), (3, .int x3)]) hx hb dX9_placeByTieOf_62 rfl hl (by decide) rfl (fun ls hl => ?_)
              obtain ⟨v38, ev38, hM⟩ := g_nm hM
              refine lv_iinc (v := v38) (lv' := [(3, .int v38), (2, .int v37), (4, .int (1 : Int32)), (0, .ref (E.1 k)), (1, .int x1)]) hx hb dX9_placeByTieOf_63 hl (k := 4) rfl (by rw [ev38]; rfl) (by decide) rfl (fun ls hl => ?_)
              refine lv_goto (tgt := 4) hx hb dX9_placeByTieOf_66 (by decide) ?_
              exact ih σ31 x1 v37 v38 _ _ _ z hG (lv_sub hl [3, 4, 1, 0] rfl) hM
set_option maxRecDepth 20000 in
set_option maxHeartbeats 4000000 in
theorem C_X9_placeByTieOf (l : Launch) (E : Ev) {σ σ' : St} {k : Nat} {p0 : Int32} {r : Int32} (h : M_X9_placeByTieOf σ k p0 = some (σ', r)) (hL : lay 9 k) : Mi l E yX9_placeByTieOf cX9_placeByTieOf 5 (some .int) 3 [.ref (E.1 k), .int p0] σ σ' r := by
  refine Mi_of (C := RX9) rfl (by decide) (Nat.le_of_ble_eq_true rfl) (z := (σ', r)) (fun p e s m below meth c ls X hG hl => ?_)
  have hx := X.1.1.1
  have hb := X.1.1.2.1
  have hM := h
  unfold M_X9_placeByTieOf at hM
  generalize (σ', r) = z at hM ⊢
  have hl : lv_has ls 5 [(0, .ref (E.1 k)), (1, .int p0)] := hl
  refine lv_iconst (v := (0 : Int32)) hx hb dX9_placeByTieOf_0 (by decide) ?_
  refine lv_istore_n (lv' := [(2, .int (0 : Int32)), (0, .ref (E.1 k)), (1, .int p0)]) hx hb dX9_placeByTieOf_1 rfl hl (by decide) rfl (fun ls hl => ?_)
  refine lv_iconst (v := (0 : Int32)) hx hb dX9_placeByTieOf_2 (by decide) ?_
  refine lv_istore_n (lv' := [(3, .int (0 : Int32)), (2, .int (0 : Int32)), (0, .ref (E.1 k)), (1, .int p0)]) hx hb dX9_placeByTieOf_3 rfl hl (by decide) rfl (fun ls hl => ?_)
  exact w_X9_placeByTieOf_4 X hL FU σ p0 (0 : Int32) (0 : Int32) _ _ _ z hG (lv_sub hl [2, 3, 1, 0] rfl) hM
