def M_L_at (σ : St) (w : (Nat × (Nat → Int32))) (p1 : Int32) : Option (St × Int32) := if (Int32.ofNat w.1) ≤ p1 then some (σ, (0 : Int32)) else (bxld w p1 fun q1 => some (σ, q1))
set_option maxRecDepth 20000 in
set_option maxHeartbeats 4000000 in
theorem C_L_at (l : Launch) (E : Ev) {σ σ' : St} {w : (Nat × (Nat → Int32))} {p1 : Int32} {jx : Nat} {r : Int32} (h : M_L_at σ w p1 = some (σ', r)) (hw : jx < nX E ∧ (eX E jx).2 = w) : Mi l E yL_at cL_at 2 (some .int) 1 [.ref (eX E jx).1, .int p1] σ σ' r := by
  refine Mi_of (C := RL) rfl (by decide) (Nat.le_of_ble_eq_true rfl) (z := (σ', r)) (fun p e s m below meth c ls X hG hl => ?_)
  have hx := X.1.1.1
  have hb := X.1.1.2.1
  have hM := h
  unfold M_L_at at hM
  generalize (σ', r) = z at hM ⊢
  have hl : lv_has ls 2 [(0, .ref (eX E jx).1), (1, .int p1)] := hl
  refine lv_iload_n hx hb dL_at_0 rfl (lv_at hl 1 rfl) ?_
  refine lv_aload_n hx hb dL_at_1 rfl (lv_at hl 0 rfl) ?_
  refine g_xlen X.1 hG hw dL_at_2 ?_
  refine lv_icmp_ge (tgt := 12) hx hb dL_at_3 (by decide) (fun c2 => ?_) (fun c2 => ?_)
  · have hM := b_if hM c2
    refine lv_iconst (v := (0 : Int32)) hx hb dL_at_12 (by decide) ?_
    exact e_iret X hG dL_at_13 hM
  · have hM := b_else hM c2
    refine lv_aload_n hx hb dL_at_6 rfl (lv_at hl 0 rfl) ?_
    refine lv_iload_n hx hb dL_at_7 rfl (lv_at hl 1 rfl) ?_
    refine g_xld X.1 hG hw dL_at_8 hM (fun q1 hM => ?_)
    refine lv_goto (tgt := 13) hx hb dL_at_9 (by decide) ?_
    exact e_iret X hG dL_at_13 hM
def M_L_some (σ : St)  (p0 : Int32) (p1 : Int32) : Option (St × Int32) := bchk (okN p1) (blet (p0 - p0 / p1 * p1) fun v2 => if 0 ≤ v2 then some (σ, v2) else some (σ, v2 + p1))
set_option maxRecDepth 20000 in
set_option maxHeartbeats 4000000 in
theorem C_L_some (l : Launch) (E : Ev) {σ σ' : St} {p0 : Int32} {p1 : Int32} {r : Int32} (h : M_L_some σ p0 p1 = some (σ', r)) : Mi l E yL_some cL_some 3 (some .int) 1 [.int p0, .int p1] σ σ' r := by
  refine Mi_of (C := RL) rfl (by decide) (Nat.le_of_ble_eq_true rfl) (z := (σ', r)) (fun p e s m below meth c ls X hG hl => ?_)
  have hx := X.1.1.1
  have hb := X.1.1.2.1
  have hM := h
  unfold M_L_some at hM
  generalize (σ', r) = z at hM ⊢
  have hl : lv_has ls 3 [(0, .int p0), (1, .int p1)] := hl
  refine lv_iload_n hx hb dL_some_0 rfl (lv_at hl 0 rfl) ?_
  refine lv_iload_n hx hb dL_some_1 rfl (lv_at hl 1 rfl) ?_
  obtain ⟨c1, hM⟩ := b_chk hM
  refine lv_irem hx hb dL_some_2 (okN_n c1) ?_
  refine g_name hM (fun v2 hM => ?_)
  refine lv_istore_n (lv' := [(2, .int v2), (0, .int p0), (1, .int p1)]) hx hb dL_some_3 rfl hl (by decide) rfl (fun ls hl => ?_)
  refine lv_iload_n hx hb dL_some_4 rfl (lv_at hl 0 rfl) ?_
  refine lv_if_ge (tgt := 14) hx hb dL_some_5 (by decide) (fun c3 => ?_) (fun c3 => ?_)
  · have hM := b_if hM c3
    refine lv_iload_n hx hb dL_some_14 rfl (lv_at hl 0 rfl) ?_
    exact e_iret X hG dL_some_15 hM
  · have hM := b_else hM c3
    refine lv_iload_n hx hb dL_some_8 rfl (lv_at hl 0 rfl) ?_
    refine lv_iload_n hx hb dL_some_9 rfl (lv_at hl 2 rfl) ?_
    refine lv_iadd hx hb dL_some_10 ?_
    refine lv_goto (tgt := 15) hx hb dL_some_11 (by decide) ?_
    exact e_iret X hG dL_some_15 hM
def B_L_reads_2  : Nat → St → Nat → Nat → Int32 → Option (St × Int32)
  | 0, _, _, _, _ => none
  | n + 1, σ, a0, a1, x2 => bcall (M_J0_length_8abf5 σ a1) fun σ1 r2 => if r2 ≤ x2 then (bcall (M_X10_script σ1 a0) fun σ3 r4 => some (σ3, r4)) else (bcall (M_J0_charAt_5068e σ1 a1 x2) fun σ5 r6 => bcall (M_X10_append σ5 a0 r6) fun σ7 r8 => if r8 = (x2 + (1 : Int32)) then (blet (x2 + (1 : Int32)) fun v9 => B_L_reads_2 n σ7 a0 a1 v9) else none)
def M_L_reads (σ : St) (a0 : Nat) (a1 : Nat)  : Option (St × Int32) := B_L_reads_2 FU σ a0 a1 (0 : Int32)
set_option maxRecDepth 20000 in
set_option maxHeartbeats 4000000 in
theorem w_L_reads_2 {p : Program} {l : Launch} {e : Env} {s : State} {m : MethodId} {below : List Frame} {meth : Method} {c : Code} {args : Array Value} {E : Ev} {a0 : Nat} {a1 : Nat} (X : Bx E p m meth c cL_reads 3 (some .int) s args RL) (hA0 : lay 10 a0) (hA1 : okS E a1) : ∀ (n : Nat) (σ : St) (x2 : Int32) (H : Heap) (locs : List Loc) (ls : Array Slot) (z : St × Int32), GS E σ s.heap H locs → lv_has ls 3 [(0, .ref (E.1 a0)), (1, .ref (eK E a1)), (2, .int x2)] → B_L_reads_2 n σ a0 a1 x2 = some z → W p l e (rmd 8) s m args below meth c H locs 0 0 (QI E z below args s) (F0 m 2 ls []) := by
  have hx := X.1.1.1
  have hb := X.1.1.2.1
  intro n
  induction n with
  | zero => intro σ x2 H locs ls z  hG hl hM; cases hM
  | succ n ih =>
    intro σ x2 H locs ls z  hG hl hM
    unfold B_L_reads_2 at hM
    refine lv_iload_n hx hb dL_reads_2 rfl (lv_at hl 2 rfl) ?_
    refine lv_aload_n hx hb dL_reads_3 rfl (lv_at hl 1 rfl) ?_
    refine g_callT_i (nA := 0) (o := M_J0_length_8abf5 σ a1) (As := []) X.1 hG hA1 rfl (fun _ _ h => C_J0_length_8abf5 l E h hA1) mw1044 mw767 mw768 mw25 (gw_ok mw769 rfl) (by decide +kernel) rfl ⟨Nat.le_of_ble_eq_true rfl, Nat.le_of_ble_eq_true rfl⟩ hl.1 rfl (Nat.le_of_ble_eq_true rfl) ⟨Nat.le_refl _, Nat.le_refl _⟩ dL_reads_4 hM (fun σ1 r2 H locs hG hM => ?_)
    refine lv_icmp_ge (tgt := 35) hx hb dL_reads_7 (by decide) (fun c11 => ?_) (fun c11 => ?_)
    · have hM := b_if hM c11
      refine lv_aload_n hx hb dL_reads_35 rfl (lv_at hl 0 rfl) ?_
      refine g_callV_i (nA := 0) (o := M_X10_script σ1 a0) (As := []) X.1 hG hA0 rfl rfl (fun _ _ h => C_X10_script l E h hA0) mw736 mw737 mw738 mw12 (gw_ok mw739 rfl) (by decide +kernel) rfl ⟨Nat.le_of_ble_eq_true rfl, Nat.le_of_ble_eq_true rfl⟩ hl.1 rfl (Nat.le_of_ble_eq_true rfl) ⟨Nat.le_refl _, Nat.le_refl _⟩ dL_reads_36 hM (fun σ3 r4 H locs hG hM => ?_)
      exact e_iret X hG dL_reads_39 hM
    · have hM := b_else hM c11
      refine lv_aload_n hx hb dL_reads_10 rfl (lv_at hl 0 rfl) ?_
      refine lv_aload_n hx hb dL_reads_11 rfl (lv_at hl 1 rfl) ?_
      refine lv_iload_n hx hb dL_reads_12 rfl (lv_at hl 2 rfl) ?_
      refine g_callT_i (nA := 1) (o := M_J0_charAt_5068e σ1 a1 x2) (As := [.int x2]) X.1 hG hA1 rfl (fun _ _ h => C_J0_charAt_5068e l E h hA1) mw1050 mw777 mw778 mw25 (gw_ok mw779 rfl) (by decide +kernel) rfl ⟨Nat.le_of_ble_eq_true rfl, Nat.le_of_ble_eq_true rfl⟩ hl.1 rfl (Nat.le_of_ble_eq_true rfl) ⟨Nat.le_refl _, Nat.le_refl _⟩ dL_reads_13 hM (fun σ5 r6 H locs hG hM => ?_)
      refine g_callV_i (nA := 1) (o := M_X10_append σ5 a0 r6) (As := [.int r6]) X.1 hG hA0 rfl rfl (fun _ _ h => C_X10_append l E h hA0) mw364 mw365 mw366 mw12 (gw_ok mw367 rfl) (by decide +kernel) rfl ⟨Nat.le_of_ble_eq_true rfl, Nat.le_of_ble_eq_true rfl⟩ hl.1 rfl (Nat.le_of_ble_eq_true rfl) ⟨Nat.le_refl _, Nat.le_refl _⟩ dL_reads_16 hM (fun σ7 r8 H locs hG hM => ?_)
      refine lv_iload_n hx hb dL_reads_19 rfl (lv_at hl 2 rfl) ?_
      refine lv_iconst (v := (1 : Int32)) hx hb dL_reads_20 (by decide) ?_
      refine lv_iadd hx hb dL_reads_21 ?_
      refine lv_icmp_eq (tgt := 29) hx hb dL_reads_22 (by decide) (fun c10 => ?_) (fun c10 => ?_)
      · have hM := b_if hM c10
        obtain ⟨v9, ev9, hM⟩ := g_nm hM
        refine lv_iinc (v := v9) (lv' := [(2, .int v9), (0, .ref (E.1 a0)), (1, .ref (eK E a1))]) hx hb dL_reads_29 hl (k := 2) rfl (by rw [ev9]; rfl) (by decide) rfl (fun ls hl => ?_)
        refine lv_goto (tgt := 2) hx hb dL_reads_32 (by decide) ?_
        exact ih σ7 v9 _ _ _ z hG (lv_sub hl [1, 2, 0] rfl) hM
      · have hM := b_else hM c10
        cases hM
set_option maxRecDepth 20000 in
set_option maxHeartbeats 4000000 in
theorem C_L_reads (l : Launch) (E : Ev) {σ σ' : St} {a0 : Nat} {a1 : Nat} {r : Int32} (h : M_L_reads σ a0 a1 = some (σ', r)) (hA0 : lay 10 a0) (hA1 : okS E a1) : Mi l E yL_reads cL_reads 3 (some .int) 8 [.ref (E.1 a0), .ref (eK E a1)] σ σ' r := by
  refine Mi_of (C := RL) rfl (by decide) (Nat.le_of_ble_eq_true rfl) (z := (σ', r)) (fun p e s m below meth c ls X hG hl => ?_)
  have hx := X.1.1.1
  have hb := X.1.1.2.1
  have hM := h
  unfold M_L_reads at hM
  generalize (σ', r) = z at hM ⊢
  have hl : lv_has ls 3 [(0, .ref (E.1 a0)), (1, .ref (eK E a1))] := hl
  refine lv_iconst (v := (0 : Int32)) hx hb dL_reads_0 (by decide) ?_
  refine lv_istore_n (lv' := [(2, .int (0 : Int32)), (0, .ref (E.1 a0)), (1, .ref (eK E a1))]) hx hb dL_reads_1 rfl hl (by decide) rfl (fun ls hl => ?_)
  exact w_L_reads_2 X hA0 hA1 FU σ (0 : Int32) _ _ _ z hG (lv_sub hl [1, 2, 0] rfl) hM
def B_L_are_2  : Nat → St → Nat → (Nat × (Nat → Int32)) → Int32 → Option (St × Int32)
  | 0, _, _, _, _ => none
  | n + 1, σ, a0, w, x2 => if ((Int32.ofNat w.1) / (2 : Int32)) ≤ x2 then (bcall (M_X10_reason σ a0 ((Int32.ofNat w.1) / (2 : Int32)) (0 : Int32)) fun σ1 r2 => if r2 = (-4 : Int32) then (bcall (M_X10_reason σ1 a0 (-1 : Int32) (1 : Int32)) fun σ3 r4 => if r4 = (-2 : Int32) then some (σ3, (1 : Int32)) else none) else none) else (bcall (M_X10_reason σ a0 x2 (0 : Int32)) fun σ7 r8 => bxld w ((2 : Int32) * x2) fun q9 => if r8 = q9 then (bcall (M_X10_reason σ7 a0 x2 (1 : Int32)) fun σ10 r11 => bxld w (((2 : Int32) * x2) + (1 : Int32)) fun q12 => if r11 = q12 then (blet (x2 + (1 : Int32)) fun v13 => B_L_are_2 n σ10 a0 w v13) else none) else none)
def M_L_are (σ : St) (a0 : Nat) (w : (Nat × (Nat → Int32)))  : Option (St × Int32) := B_L_are_2 FU σ a0 w (0 : Int32)
set_option maxRecDepth 20000 in
set_option maxHeartbeats 4000000 in
theorem w_L_are_2 {p : Program} {l : Launch} {e : Env} {s : State} {m : MethodId} {below : List Frame} {meth : Method} {c : Code} {args : Array Value} {E : Ev} {a0 : Nat} {w : (Nat × (Nat → Int32))} {jx : Nat} (X : Bx E p m meth c cL_are 3 (some .boolean) s args RL) (hA0 : lay 10 a0) (hw : jx < nX E ∧ (eX E jx).2 = w) : ∀ (n : Nat) (σ : St) (x2 : Int32) (H : Heap) (locs : List Loc) (ls : Array Slot) (z : St × Int32), GS E σ s.heap H locs → lv_has ls 3 [(0, .ref (E.1 a0)), (1, .ref (eX E jx).1), (2, .int x2)] → B_L_are_2 n σ a0 w x2 = some z → W p l e (rmd 4) s m args below meth c H locs 0 0 (QI E z below args s) (F0 m 2 ls []) := by
  have hx := X.1.1.1
  have hb := X.1.1.2.1
  intro n
  induction n with
  | zero => intro σ x2 H locs ls z  hG hl hM; cases hM
  | succ n ih =>
    intro σ x2 H locs ls z  hG hl hM
    unfold B_L_are_2 at hM
    refine lv_iload_n hx hb dL_are_2 rfl (lv_at hl 2 rfl) ?_
    refine lv_aload_n hx hb dL_are_3 rfl (lv_at hl 1 rfl) ?_
    refine g_xlen X.1 hG hw dL_are_4 ?_
    refine lv_iconst (v := (2 : Int32)) hx hb dL_are_5 (by decide) ?_
    refine lv_idiv hx hb dL_are_6 (by decide) ?_
    refine lv_icmp_ge (tgt := 48) hx hb dL_are_7 (by decide) (fun c16 => ?_) (fun c16 => ?_)
    · have hM := b_if hM c16
      refine lv_aload_n hx hb dL_are_48 rfl (lv_at hl 0 rfl) ?_
      refine lv_aload_n hx hb dL_are_49 rfl (lv_at hl 1 rfl) ?_
      refine g_xlen X.1 hG hw dL_are_50 ?_
      refine lv_iconst (v := (2 : Int32)) hx hb dL_are_51 (by decide) ?_
      refine lv_idiv hx hb dL_are_52 (by decide) ?_
      refine lv_iconst (v := (0 : Int32)) hx hb dL_are_53 (by decide) ?_
      refine g_callV_i (nA := 2) (o := M_X10_reason σ a0 ((Int32.ofNat w.1) / (2 : Int32)) (0 : Int32)) (As := [.int ((Int32.ofNat w.1) / (2 : Int32)), .int (0 : Int32)]) X.1 hG hA0 rfl rfl (fun _ _ h => C_X10_reason l E h hA0) mw1015 mw1016 mw1017 mw12 (gw_ok mw1018 rfl) (by decide +kernel) rfl ⟨Nat.le_of_ble_eq_true rfl, Nat.le_of_ble_eq_true rfl⟩ hl.1 rfl (Nat.le_of_ble_eq_true rfl) ⟨Nat.le_refl _, Nat.le_refl _⟩ dL_are_54 hM (fun σ1 r2 H locs hG hM => ?_)
      refine lv_bipush (v := (-4 : Int32)) hx hb dL_are_57 (by decide) ?_
      refine lv_icmp_ne (tgt := 77) hx hb dL_are_59 (by decide) (fun c6 => ?_) (fun c6 => ?_)
      · have hM := b_else hM c6
        cases hM
      · have hM := b_if hM c6
        refine lv_aload_n hx hb dL_are_62 rfl (lv_at hl 0 rfl) ?_
        refine lv_iconst (v := (-1 : Int32)) hx hb dL_are_63 (by decide) ?_
        refine lv_iconst (v := (1 : Int32)) hx hb dL_are_64 (by decide) ?_
        refine g_callV_i (nA := 2) (o := M_X10_reason σ1 a0 (-1 : Int32) (1 : Int32)) (As := [.int (-1 : Int32), .int (1 : Int32)]) X.1 hG hA0 rfl rfl (fun _ _ h => C_X10_reason l E h hA0) mw1015 mw1016 mw1017 mw12 (gw_ok mw1018 rfl) (by decide +kernel) rfl ⟨Nat.le_of_ble_eq_true rfl, Nat.le_of_ble_eq_true rfl⟩ hl.1 rfl (Nat.le_of_ble_eq_true rfl) ⟨Nat.le_refl _, Nat.le_refl _⟩ dL_are_65 hM (fun σ3 r4 H locs hG hM => ?_)
        refine lv_bipush (v := (-2 : Int32)) hx hb dL_are_68 (by decide) ?_
        refine lv_icmp_ne (tgt := 77) hx hb dL_are_70 (by decide) (fun c5 => ?_) (fun c5 => ?_)
        · have hM := b_else hM c5
          cases hM
        · have hM := b_if hM c5
          refine lv_iconst (v := (1 : Int32)) hx hb dL_are_73 (by decide) ?_
          refine lv_goto (tgt := 78) hx hb dL_are_74 (by decide) ?_
          exact e_zret X hG (by decide) dL_are_78 hM
    · have hM := b_else hM c16
      refine lv_aload_n hx hb dL_are_10 rfl (lv_at hl 0 rfl) ?_
      refine lv_iload_n hx hb dL_are_11 rfl (lv_at hl 2 rfl) ?_
      refine lv_iconst (v := (0 : Int32)) hx hb dL_are_12 (by decide) ?_
      refine g_callV_i (nA := 2) (o := M_X10_reason σ a0 x2 (0 : Int32)) (As := [.int x2, .int (0 : Int32)]) X.1 hG hA0 rfl rfl (fun _ _ h => C_X10_reason l E h hA0) mw1015 mw1016 mw1017 mw12 (gw_ok mw1018 rfl) (by decide +kernel) rfl ⟨Nat.le_of_ble_eq_true rfl, Nat.le_of_ble_eq_true rfl⟩ hl.1 rfl (Nat.le_of_ble_eq_true rfl) ⟨Nat.le_refl _, Nat.le_refl _⟩ dL_are_13 hM (fun σ7 r8 H locs hG hM => ?_)
      refine lv_aload_n hx hb dL_are_16 rfl (lv_at hl 1 rfl) ?_
      refine lv_iconst (v := (2 : Int32)) hx hb dL_are_17 (by decide) ?_
      refine lv_iload_n hx hb dL_are_18 rfl (lv_at hl 2 rfl) ?_
      refine lv_imul hx hb dL_are_19 ?_
      refine g_xld X.1 hG hw dL_are_20 hM (fun q9 hM => ?_)
      refine lv_icmp_ne (tgt := 40) hx hb dL_are_21 (by decide) (fun c15 => ?_) (fun c15 => ?_)
      · have hM := b_else hM c15
        cases hM
      · have hM := b_if hM c15
        refine lv_aload_n hx hb dL_are_24 rfl (lv_at hl 0 rfl) ?_
        refine lv_iload_n hx hb dL_are_25 rfl (lv_at hl 2 rfl) ?_
        refine lv_iconst (v := (1 : Int32)) hx hb dL_are_26 (by decide) ?_
        refine g_callV_i (nA := 2) (o := M_X10_reason σ7 a0 x2 (1 : Int32)) (As := [.int x2, .int (1 : Int32)]) X.1 hG hA0 rfl rfl (fun _ _ h => C_X10_reason l E h hA0) mw1015 mw1016 mw1017 mw12 (gw_ok mw1018 rfl) (by decide +kernel) rfl ⟨Nat.le_of_ble_eq_true rfl, Nat.le_of_ble_eq_true rfl⟩ hl.1 rfl (Nat.le_of_ble_eq_true rfl) ⟨Nat.le_refl _, Nat.le_refl _⟩ dL_are_27 hM (fun σ10 r11 H locs hG hM => ?_)
        refine lv_aload_n hx hb dL_are_30 rfl (lv_at hl 1 rfl) ?_
        refine lv_iconst (v := (2 : Int32)) hx hb dL_are_31 (by decide) ?_
        refine lv_iload_n hx hb dL_are_32 rfl (lv_at hl 2 rfl) ?_
        refine lv_imul hx hb dL_are_33 ?_
        refine lv_iconst (v := (1 : Int32)) hx hb dL_are_34 (by decide) ?_
        refine lv_iadd hx hb dL_are_35 ?_
        refine g_xld X.1 hG hw dL_are_36 hM (fun q12 hM => ?_)
        refine lv_icmp_eq (tgt := 42) hx hb dL_are_37 (by decide) (fun c14 => ?_) (fun c14 => ?_)
        · have hM := b_if hM c14
          obtain ⟨v13, ev13, hM⟩ := g_nm hM
          refine lv_iinc (v := v13) (lv' := [(2, .int v13), (0, .ref (E.1 a0)), (1, .ref (eX E jx).1)]) hx hb dL_are_42 hl (k := 2) rfl (by rw [ev13]; rfl) (by decide) rfl (fun ls hl => ?_)
          refine lv_goto (tgt := 2) hx hb dL_are_45 (by decide) ?_
          exact ih σ10 v13 _ _ _ z hG (lv_sub hl [1, 2, 0] rfl) hM
        · have hM := b_else hM c14
          cases hM
set_option maxRecDepth 20000 in
set_option maxHeartbeats 4000000 in
theorem C_L_are (l : Launch) (E : Ev) {σ σ' : St} {a0 : Nat} {w : (Nat × (Nat → Int32))} {jx : Nat} {r : Int32} (h : M_L_are σ a0 w = some (σ', r)) (hA0 : lay 10 a0) (hw : jx < nX E ∧ (eX E jx).2 = w) : Mi l E yL_are cL_are 3 (some .boolean) 4 [.ref (E.1 a0), .ref (eX E jx).1] σ σ' r := by
  refine Mi_of (C := RL) rfl (by decide) (Nat.le_of_ble_eq_true rfl) (z := (σ', r)) (fun p e s m below meth c ls X hG hl => ?_)
  have hx := X.1.1.1
  have hb := X.1.1.2.1
  have hM := h
  unfold M_L_are at hM
  generalize (σ', r) = z at hM ⊢
  have hl : lv_has ls 3 [(0, .ref (E.1 a0)), (1, .ref (eX E jx).1)] := hl
  refine lv_iconst (v := (0 : Int32)) hx hb dL_are_0 (by decide) ?_
  refine lv_istore_n (lv' := [(2, .int (0 : Int32)), (0, .ref (E.1 a0)), (1, .ref (eX E jx).1)]) hx hb dL_are_1 rfl hl (by decide) rfl (fun ls hl => ?_)
  exact w_L_are_2 X hA0 hw FU σ (0 : Int32) _ _ _ z hG (lv_sub hl [1, 2, 0] rfl) hM
def B_L_isLine_15  : Nat → St → Nat → Nat → Int32 → Option (St × Int32)
  | 0, _, _, _, _ => none
  | n + 1, σ, a0, a1, x2 => bcall (M_J0_length_8abf5 σ a1) fun σ5 r6 => if r6 ≤ x2 then (bcall (M_J0_length_8abf5 σ5 a1) fun σ7 r8 => bcall (M_X10_written σ7 a0 r8) fun σ9 r10 => if r10 = (-1 : Int32) then some (σ9, (1 : Int32)) else none) else (bcall (M_X10_written σ5 a0 x2) fun σ12 r13 => bcall (M_J0_charAt_5068e σ12 a1 x2) fun σ14 r15 => if r13 = r15 then (blet (x2 + (1 : Int32)) fun v16 => B_L_isLine_15 n σ14 a0 a1 v16) else none)
def M_L_isLine (σ : St) (a0 : Nat) (a1 : Nat)  : Option (St × Int32) := bcall (M_X10_describe σ a0) fun σ1 r2 => bcall (M_J0_length_8abf5 σ1 a1) fun σ3 r4 => if r2 = r4 then (B_L_isLine_15 FU σ3 a0 a1 (0 : Int32)) else none
set_option maxRecDepth 20000 in
set_option maxHeartbeats 4000000 in
theorem w_L_isLine_15 {p : Program} {l : Launch} {e : Env} {s : State} {m : MethodId} {below : List Frame} {meth : Method} {c : Code} {args : Array Value} {E : Ev} {a0 : Nat} {a1 : Nat} (X : Bx E p m meth c cL_isLine 3 (some .boolean) s args RL) (hA0 : lay 10 a0) (hA1 : okS E a1) : ∀ (n : Nat) (σ : St) (x2 : Int32) (H : Heap) (locs : List Loc) (ls : Array Slot) (z : St × Int32), GS E σ s.heap H locs → lv_has ls 3 [(0, .ref (E.1 a0)), (1, .ref (eK E a1)), (2, .int x2)] → B_L_isLine_15 n σ a0 a1 x2 = some z → W p l e (rmd 7) s m args below meth c H locs 0 0 (QI E z below args s) (F0 m 15 ls []) := by
  have hx := X.1.1.1
  have hb := X.1.1.2.1
  intro n
  induction n with
  | zero => intro σ x2 H locs ls z  hG hl hM; cases hM
  | succ n ih =>
    intro σ x2 H locs ls z  hG hl hM
    unfold B_L_isLine_15 at hM
    refine lv_iload_n hx hb dL_isLine_15 rfl (lv_at hl 2 rfl) ?_
    refine lv_aload_n hx hb dL_isLine_16 rfl (lv_at hl 1 rfl) ?_
    refine g_callT_i (nA := 0) (o := M_J0_length_8abf5 σ a1) (As := []) X.1 hG hA1 rfl (fun _ _ h => C_J0_length_8abf5 l E h hA1) mw1044 mw767 mw768 mw25 (gw_ok mw769 rfl) (by decide +kernel) rfl ⟨Nat.le_of_ble_eq_true rfl, Nat.le_of_ble_eq_true rfl⟩ hl.1 rfl (Nat.le_of_ble_eq_true rfl) ⟨Nat.le_refl _, Nat.le_refl _⟩ dL_isLine_17 hM (fun σ5 r6 H locs hG hM => ?_)
    refine lv_icmp_ge (tgt := 44) hx hb dL_isLine_20 (by decide) (fun c18 => ?_) (fun c18 => ?_)
    · have hM := b_if hM c18
      refine lv_aload_n hx hb dL_isLine_44 rfl (lv_at hl 0 rfl) ?_
      refine lv_aload_n hx hb dL_isLine_45 rfl (lv_at hl 1 rfl) ?_
      refine g_callT_i (nA := 0) (o := M_J0_length_8abf5 σ5 a1) (As := []) X.1 hG hA1 rfl (fun _ _ h => C_J0_length_8abf5 l E h hA1) mw1044 mw767 mw768 mw25 (gw_ok mw769 rfl) (by decide +kernel) rfl ⟨Nat.le_of_ble_eq_true rfl, Nat.le_of_ble_eq_true rfl⟩ hl.1 rfl (Nat.le_of_ble_eq_true rfl) ⟨Nat.le_refl _, Nat.le_refl _⟩ dL_isLine_46 hM (fun σ7 r8 H locs hG hM => ?_)
      refine g_callV_i (nA := 1) (o := M_X10_written σ7 a0 r8) (As := [.int r8]) X.1 hG hA0 rfl rfl (fun _ _ h => C_X10_written l E h hA0) mw1045 mw1046 mw1047 mw12 (gw_ok mw1048 rfl) (by decide +kernel) rfl ⟨Nat.le_of_ble_eq_true rfl, Nat.le_of_ble_eq_true rfl⟩ hl.1 rfl (Nat.le_of_ble_eq_true rfl) ⟨Nat.le_refl _, Nat.le_refl _⟩ dL_isLine_49 hM (fun σ9 r10 H locs hG hM => ?_)
      refine lv_iconst (v := (-1 : Int32)) hx hb dL_isLine_52 (by decide) ?_
      refine lv_icmp_ne (tgt := 60) hx hb dL_isLine_53 (by decide) (fun c11 => ?_) (fun c11 => ?_)
      · have hM := b_else hM c11
        cases hM
      · have hM := b_if hM c11
        refine lv_iconst (v := (1 : Int32)) hx hb dL_isLine_56 (by decide) ?_
        refine lv_goto (tgt := 61) hx hb dL_isLine_57 (by decide) ?_
        exact e_zret X hG (by decide) dL_isLine_61 hM
    · have hM := b_else hM c18
      refine lv_aload_n hx hb dL_isLine_23 rfl (lv_at hl 0 rfl) ?_
      refine lv_iload_n hx hb dL_isLine_24 rfl (lv_at hl 2 rfl) ?_
      refine g_callV_i (nA := 1) (o := M_X10_written σ5 a0 x2) (As := [.int x2]) X.1 hG hA0 rfl rfl (fun _ _ h => C_X10_written l E h hA0) mw1045 mw1046 mw1047 mw12 (gw_ok mw1048 rfl) (by decide +kernel) rfl ⟨Nat.le_of_ble_eq_true rfl, Nat.le_of_ble_eq_true rfl⟩ hl.1 rfl (Nat.le_of_ble_eq_true rfl) ⟨Nat.le_refl _, Nat.le_refl _⟩ dL_isLine_25 hM (fun σ12 r13 H locs hG hM => ?_)
      refine lv_aload_n hx hb dL_isLine_28 rfl (lv_at hl 1 rfl) ?_
      refine lv_iload_n hx hb dL_isLine_29 rfl (lv_at hl 2 rfl) ?_
      refine g_callT_i (nA := 1) (o := M_J0_charAt_5068e σ12 a1 x2) (As := [.int x2]) X.1 hG hA1 rfl (fun _ _ h => C_J0_charAt_5068e l E h hA1) mw1050 mw777 mw778 mw25 (gw_ok mw779 rfl) (by decide +kernel) rfl ⟨Nat.le_of_ble_eq_true rfl, Nat.le_of_ble_eq_true rfl⟩ hl.1 rfl (Nat.le_of_ble_eq_true rfl) ⟨Nat.le_refl _, Nat.le_refl _⟩ dL_isLine_30 hM (fun σ14 r15 H locs hG hM => ?_)
      refine lv_icmp_eq (tgt := 38) hx hb dL_isLine_33 (by decide) (fun c17 => ?_) (fun c17 => ?_)
      · have hM := b_if hM c17
        obtain ⟨v16, ev16, hM⟩ := g_nm hM
        refine lv_iinc (v := v16) (lv' := [(2, .int v16), (0, .ref (E.1 a0)), (1, .ref (eK E a1))]) hx hb dL_isLine_38 hl (k := 2) rfl (by rw [ev16]; rfl) (by decide) rfl (fun ls hl => ?_)
        refine lv_goto (tgt := 15) hx hb dL_isLine_41 (by decide) ?_
        exact ih σ14 v16 _ _ _ z hG (lv_sub hl [1, 2, 0] rfl) hM
      · have hM := b_else hM c17
        cases hM
set_option maxRecDepth 20000 in
set_option maxHeartbeats 4000000 in
theorem C_L_isLine (l : Launch) (E : Ev) {σ σ' : St} {a0 : Nat} {a1 : Nat} {r : Int32} (h : M_L_isLine σ a0 a1 = some (σ', r)) (hA0 : lay 10 a0) (hA1 : okS E a1) : Mi l E yL_isLine cL_isLine 3 (some .boolean) 7 [.ref (E.1 a0), .ref (eK E a1)] σ σ' r := by
  refine Mi_of (C := RL) rfl (by decide) (Nat.le_of_ble_eq_true rfl) (z := (σ', r)) (fun p e s m below meth c ls X hG hl => ?_)
  have hx := X.1.1.1
  have hb := X.1.1.2.1
  have hM := h
  unfold M_L_isLine at hM
  generalize (σ', r) = z at hM ⊢
  have hl : lv_has ls 3 [(0, .ref (E.1 a0)), (1, .ref (eK E a1))] := hl
  refine lv_aload_n hx hb dL_isLine_0 rfl (lv_at hl 0 rfl) ?_
  refine g_callV_i (nA := 0) (o := M_X10_describe σ a0) (As := []) X.1 hG hA0 rfl rfl (fun _ _ h => C_X10_describe l E h hA0) mw1026 mw1027 mw1028 mw12 (gw_ok mw1029 rfl) (by decide +kernel) rfl ⟨Nat.le_of_ble_eq_true rfl, Nat.le_of_ble_eq_true rfl⟩ hl.1 rfl (Nat.le_of_ble_eq_true rfl) ⟨Nat.le_refl _, Nat.le_refl _⟩ dL_isLine_1 hM (fun σ1 r2 H locs hG hM => ?_)
  refine lv_aload_n hx hb dL_isLine_4 rfl (lv_at hl 1 rfl) ?_
  refine g_callT_i (nA := 0) (o := M_J0_length_8abf5 σ1 a1) (As := []) X.1 hG hA1 rfl (fun _ _ h => C_J0_length_8abf5 l E h hA1) mw1044 mw767 mw768 mw25 (gw_ok mw769 rfl) (by decide +kernel) rfl ⟨Nat.le_of_ble_eq_true rfl, Nat.le_of_ble_eq_true rfl⟩ hl.1 rfl (Nat.le_of_ble_eq_true rfl) ⟨Nat.le_refl _, Nat.le_refl _⟩ dL_isLine_5 hM (fun σ3 r4 H locs hG hM => ?_)
  refine lv_icmp_eq (tgt := 13) hx hb dL_isLine_8 (by decide) (fun c19 => ?_) (fun c19 => ?_)
  · have hM := b_if hM c19
    refine lv_iconst (v := (0 : Int32)) hx hb dL_isLine_13 (by decide) ?_
    refine lv_istore_n (lv' := [(2, .int (0 : Int32)), (0, .ref (E.1 a0)), (1, .ref (eK E a1))]) hx hb dL_isLine_14 rfl hl (by decide) rfl (fun ls hl => ?_)
    exact w_L_isLine_15 X hA0 hA1 FU σ3 (0 : Int32) _ _ _ z hG (lv_sub hl [1, 2, 0] rfl) hM
  · have hM := b_else hM c19
    cases hM
def B_L_makes_166  : Nat → St → Nat → (Nat × (Nat → Int32)) → Int32 → Option (St × Int32)
  | 0, _, _, _, _ => none
  | n + 1, σ, a0, w, x3 => if (2 : Int32) ≤ x3 then some (σ, (1 : Int32)) else (bcall (M_L_at σ w ((16 : Int32) + x3)) fun σ8 r9 => bcall (M_L_some σ8 r9 (9 : Int32)) fun σ10 r11 => bcall (M_X10_inspector σ10 a0 ((1 : Int32) + r11)) fun σ12 r13 => if r13 = x3 then (blet (x3 + (1 : Int32)) fun v14 => B_L_makes_166 n σ12 a0 w v14) else none)
def B_L_makes_129  : Nat → St → Nat → (Nat × (Nat → Int32)) → Int32 → Option (St × Int32)
  | 0, _, _, _, _ => none
  | n + 1, σ, a0, w, x3 => if (4 : Int32) ≤ x3 then (B_L_makes_166 FU σ a0 w (0 : Int32)) else (bcall (M_L_at σ w ((12 : Int32) + x3)) fun σ17 r18 => bcall (M_L_some σ17 r18 (4 : Int32)) fun σ19 r20 => bcall (M_X10_crew σ19 a0 ((1 : Int32) + r20)) fun σ21 r22 => if r22 = x3 then (blet (x3 + (1 : Int32)) fun v23 => B_L_makes_129 n σ21 a0 w v23) else none)
def B_L_makes_76  : Nat → St → Nat → (Nat × (Nat → Int32)) → Int32 → Int32 → Option (St × Int32)
  | 0, _, _, _, _, _ => none
  | n + 1, σ, a0, w, x2, x3 => if x2 ≤ x3 then (B_L_makes_129 FU σ a0 w (0 : Int32)) else (bcall (M_L_at σ w ((5 : Int32) + x3)) fun σ26 r27 => bcall (M_L_some σ26 r27 (3 : Int32)) fun σ28 r29 => bcall (M_L_at σ28 w ((5 : Int32) + x3)) fun σ30 r31 => bcall (M_L_some σ30 (r31 >>> ((3 : Int32) &&& 31)) (41 : Int32)) fun σ32 r33 => bcall (M_X10_build σ32 a0 (x3 - x3 / (4 : Int32) * (4 : Int32)) ((4 : Int32) + r29) r33) fun σ34 r35 => if r35 = x3 then (blet (x3 + (1 : Int32)) fun v36 => B_L_makes_76 n σ34 a0 w x2 v36) else none)
def B_L_makes_2  : Nat → St → Nat → (Nat × (Nat → Int32)) → Int32 → Option (St × Int32)
  | 0, _, _, _, _ => none
  | n + 1, σ, a0, w, x2 => if (4 : Int32) ≤ x2 then (bcall (M_X10_strips σ a0 (90 : Int32)) fun σ1 r2 => if r2 = (150 : Int32) then (bcall (M_L_at σ1 w (4 : Int32)) fun σ3 r4 => bcall (M_L_some σ3 r4 (4 : Int32)) fun σ5 r6 => blet ((2 : Int32) + r6) fun v7 => B_L_makes_76 FU σ5 a0 w v7 (0 : Int32)) else none) else (bcall (M_L_at σ w x2) fun σ40 r41 => bcall (M_L_some σ40 r41 (19 : Int32)) fun σ42 r43 => bcall (M_L_at σ42 w x2) fun σ44 r45 => bcall (M_L_some σ44 (r45 >>> ((5 : Int32) &&& 31)) (61 : Int32)) fun σ46 r47 => bcall (M_X10_bundle σ46 a0 ((12 : Int32) + r43) r47) fun σ48 r49 => if r49 = x2 then (blet (x2 + (1 : Int32)) fun v50 => B_L_makes_2 n σ48 a0 w v50) else none)
def M_L_makes (σ : St) (a0 : Nat) (w : (Nat × (Nat → Int32)))  : Option (St × Int32) := B_L_makes_2 FU σ a0 w (0 : Int32)
set_option maxRecDepth 20000 in
set_option maxHeartbeats 4000000 in
theorem w_L_makes_166 {p : Program} {l : Launch} {e : Env} {s : State} {m : MethodId} {below : List Frame} {meth : Method} {c : Code} {args : Array Value} {E : Ev} {a0 : Nat} {w : (Nat × (Nat → Int32))} {jx : Nat} (X : Bx E p m meth c cL_makes 4 (some .boolean) s args RL) (hA0 : lay 10 a0) (hw : jx < nX E ∧ (eX E jx).2 = w) : ∀ (n : Nat) (σ : St) (x3 : Int32) (H : Heap) (locs : List Loc) (ls : Array Slot) (z : St × Int32), GS E σ s.heap H locs → lv_has ls 4 [(0, .ref (E.1 a0)), (1, .ref (eX E jx).1), (3, .int x3)] → B_L_makes_166 n σ a0 w x3 = some z → W p l e (rmd 6) s m args below meth c H locs 0 0 (QI E z below args s) (F0 m 166 ls []) := by
  have hx := X.1.1.1
  have hb := X.1.1.2.1
  intro n
  induction n with
  | zero => intro σ x3 H locs ls z  hG hl hM; cases hM
  | succ n ih =>
    intro σ x3 H locs ls z  hG hl hM
    unfold B_L_makes_166 at hM
    refine lv_iload_n hx hb dL_makes_166 rfl (lv_at hl 2 rfl) ?_
    refine lv_iconst (v := (2 : Int32)) hx hb dL_makes_167 (by decide) ?_
    refine lv_icmp_ge (tgt := 202) hx hb dL_makes_168 (by decide) (fun c16 => ?_) (fun c16 => ?_)
    · have hM := b_if hM c16
      refine lv_iconst (v := (1 : Int32)) hx hb dL_makes_202 (by decide) ?_
      exact e_zret X hG (by decide) dL_makes_203 hM
    · have hM := b_else hM c16
      refine lv_aload_n hx hb dL_makes_171 rfl (lv_at hl 0 rfl) ?_
      refine lv_iconst (v := (1 : Int32)) hx hb dL_makes_172 (by decide) ?_
      refine lv_aload_n hx hb dL_makes_173 rfl (lv_at hl 1 rfl) ?_
      refine lv_bipush (v := (16 : Int32)) hx hb dL_makes_174 (by decide) ?_
      refine lv_iload_n hx hb dL_makes_176 rfl (lv_at hl 2 rfl) ?_
      refine lv_iadd hx hb dL_makes_177 ?_
      refine g_callS_i (nA := 2) (o := M_L_at σ w ((16 : Int32) + x3)) (As := [.ref (eX E jx).1, .int ((16 : Int32) + x3)]) X.1 hG (fun _ _ h => C_L_at l E h hw) mw1006 mw1007 mw11 (gw_ok mw1008 rfl) (by decide +kernel) rfl ⟨Nat.le_of_ble_eq_true rfl, Nat.le_of_ble_eq_true rfl⟩ hl.1 rfl (Nat.le_of_ble_eq_true rfl) ⟨Nat.le_refl _, Nat.le_refl _⟩ dL_makes_178 hM (fun σ8 r9 H locs hG hM => ?_)
      refine lv_bipush (v := (9 : Int32)) hx hb dL_makes_181 (by decide) ?_
      refine g_callS_i (nA := 2) (o := M_L_some σ8 r9 (9 : Int32)) (As := [.int r9, .int (9 : Int32)]) X.1 hG (fun _ _ h => C_L_some l E h ) mw1009 mw1010 mw11 (gw_ok mw1011 rfl) (by decide +kernel) rfl ⟨Nat.le_of_ble_eq_true rfl, Nat.le_of_ble_eq_true rfl⟩ hl.1 rfl (Nat.le_of_ble_eq_true rfl) ⟨Nat.le_refl _, Nat.le_refl _⟩ dL_makes_183 hM (fun σ10 r11 H locs hG hM => ?_)
      refine lv_iadd hx hb dL_makes_186 ?_
      refine g_callV_i (nA := 1) (o := M_X10_inspector σ10 a0 ((1 : Int32) + r11)) (As := [.int ((1 : Int32) + r11)]) X.1 hG hA0 rfl rfl (fun _ _ h => C_X10_inspector l E h hA0) mw611 mw612 mw613 mw12 (gw_ok mw614 rfl) (by decide +kernel) rfl ⟨Nat.le_of_ble_eq_true rfl, Nat.le_of_ble_eq_true rfl⟩ hl.1 rfl (Nat.le_of_ble_eq_true rfl) ⟨Nat.le_refl _, Nat.le_refl _⟩ dL_makes_187 hM (fun σ12 r13 H locs hG hM => ?_)
      refine lv_iload_n hx hb dL_makes_190 rfl (lv_at hl 2 rfl) ?_
      refine lv_icmp_eq (tgt := 196) hx hb dL_makes_191 (by decide) (fun c15 => ?_) (fun c15 => ?_)
      · have hM := b_if hM c15
        obtain ⟨v14, ev14, hM⟩ := g_nm hM
        refine lv_iinc (v := v14) (lv' := [(3, .int v14), (0, .ref (E.1 a0)), (1, .ref (eX E jx).1)]) hx hb dL_makes_196 hl (k := 2) rfl (by rw [ev14]; rfl) (by decide) rfl (fun ls hl => ?_)
        refine lv_goto (tgt := 166) hx hb dL_makes_199 (by decide) ?_
        exact ih σ12 v14 _ _ _ z hG (lv_sub hl [1, 2, 0] rfl) hM
      · have hM := b_else hM c15
        cases hM
set_option maxRecDepth 20000 in
set_option maxHeartbeats 4000000 in
theorem w_L_makes_129 {p : Program} {l : Launch} {e : Env} {s : State} {m : MethodId} {below : List Frame} {meth : Method} {c : Code} {args : Array Value} {E : Ev} {a0 : Nat} {w : (Nat × (Nat → Int32))} {jx : Nat} (X : Bx E p m meth c cL_makes 4 (some .boolean) s args RL) (hA0 : lay 10 a0) (hw : jx < nX E ∧ (eX E jx).2 = w) : ∀ (n : Nat) (σ : St) (x3 : Int32) (H : Heap) (locs : List Loc) (ls : Array Slot) (z : St × Int32), GS E σ s.heap H locs → lv_has ls 4 [(0, .ref (E.1 a0)), (1, .ref (eX E jx).1), (3, .int x3)] → B_L_makes_129 n σ a0 w x3 = some z → W p l e (rmd 6) s m args below meth c H locs 0 0 (QI E z below args s) (F0 m 129 ls []) := by
  have hx := X.1.1.1
  have hb := X.1.1.2.1
  intro n
  induction n with
  | zero => intro σ x3 H locs ls z  hG hl hM; cases hM
  | succ n ih =>
    intro σ x3 H locs ls z  hG hl hM
    unfold B_L_makes_129 at hM
    refine lv_iload_n hx hb dL_makes_129 rfl (lv_at hl 2 rfl) ?_
    refine lv_iconst (v := (4 : Int32)) hx hb dL_makes_130 (by decide) ?_
    refine lv_icmp_ge (tgt := 164) hx hb dL_makes_131 (by decide) (fun c25 => ?_) (fun c25 => ?_)
    · have hM := b_if hM c25
      refine lv_iconst (v := (0 : Int32)) hx hb dL_makes_164 (by decide) ?_
      refine lv_istore_n (lv' := [(3, .int (0 : Int32)), (0, .ref (E.1 a0)), (1, .ref (eX E jx).1)]) hx hb dL_makes_165 rfl hl (by decide) rfl (fun ls hl => ?_)
      exact w_L_makes_166 X hA0 hw FU σ (0 : Int32) _ _ _ z hG (lv_sub hl [1, 2, 0] rfl) hM
    · have hM := b_else hM c25
      refine lv_aload_n hx hb dL_makes_134 rfl (lv_at hl 0 rfl) ?_
      refine lv_iconst (v := (1 : Int32)) hx hb dL_makes_135 (by decide) ?_
      refine lv_aload_n hx hb dL_makes_136 rfl (lv_at hl 1 rfl) ?_
      refine lv_bipush (v := (12 : Int32)) hx hb dL_makes_137 (by decide) ?_
      refine lv_iload_n hx hb dL_makes_139 rfl (lv_at hl 2 rfl) ?_
      refine lv_iadd hx hb dL_makes_140 ?_
      refine g_callS_i (nA := 2) (o := M_L_at σ w ((12 : Int32) + x3)) (As := [.ref (eX E jx).1, .int ((12 : Int32) + x3)]) X.1 hG (fun _ _ h => C_L_at l E h hw) mw1006 mw1007 mw11 (gw_ok mw1008 rfl) (by decide +kernel) rfl ⟨Nat.le_of_ble_eq_true rfl, Nat.le_of_ble_eq_true rfl⟩ hl.1 rfl (Nat.le_of_ble_eq_true rfl) ⟨Nat.le_refl _, Nat.le_refl _⟩ dL_makes_141 hM (fun σ17 r18 H locs hG hM => ?_)
      refine lv_iconst (v := (4 : Int32)) hx hb dL_makes_144 (by decide) ?_
      refine g_callS_i (nA := 2) (o := M_L_some σ17 r18 (4 : Int32)) (As := [.int r18, .int (4 : Int32)]) X.1 hG (fun _ _ h => C_L_some l E h ) mw1009 mw1010 mw11 (gw_ok mw1011 rfl) (by decide +kernel) rfl ⟨Nat.le_of_ble_eq_true rfl, Nat.le_of_ble_eq_true rfl⟩ hl.1 rfl (Nat.le_of_ble_eq_true rfl) ⟨Nat.le_refl _, Nat.le_refl _⟩ dL_makes_145 hM (fun σ19 r20 H locs hG hM => ?_)
      refine lv_iadd hx hb dL_makes_148 ?_
      refine g_callV_i (nA := 1) (o := M_X10_crew σ19 a0 ((1 : Int32) + r20)) (As := [.int ((1 : Int32) + r20)]) X.1 hG hA0 rfl rfl (fun _ _ h => C_X10_crew l E h hA0) mw497 mw498 mw499 mw12 (gw_ok mw500 rfl) (by decide +kernel) rfl ⟨Nat.le_of_ble_eq_true rfl, Nat.le_of_ble_eq_true rfl⟩ hl.1 rfl (Nat.le_of_ble_eq_true rfl) ⟨Nat.le_refl _, Nat.le_refl _⟩ dL_makes_149 hM (fun σ21 r22 H locs hG hM => ?_)
      refine lv_iload_n hx hb dL_makes_152 rfl (lv_at hl 2 rfl) ?_
      refine lv_icmp_eq (tgt := 158) hx hb dL_makes_153 (by decide) (fun c24 => ?_) (fun c24 => ?_)
      · have hM := b_if hM c24
        obtain ⟨v23, ev23, hM⟩ := g_nm hM
        refine lv_iinc (v := v23) (lv' := [(3, .int v23), (0, .ref (E.1 a0)), (1, .ref (eX E jx).1)]) hx hb dL_makes_158 hl (k := 2) rfl (by rw [ev23]; rfl) (by decide) rfl (fun ls hl => ?_)
        refine lv_goto (tgt := 129) hx hb dL_makes_161 (by decide) ?_
        exact ih σ21 v23 _ _ _ z hG (lv_sub hl [1, 2, 0] rfl) hM
      · have hM := b_else hM c24
        cases hM
set_option maxRecDepth 20000 in
set_option maxHeartbeats 4000000 in
theorem w_L_makes_76 {p : Program} {l : Launch} {e : Env} {s : State} {m : MethodId} {below : List Frame} {meth : Method} {c : Code} {args : Array Value} {E : Ev} {a0 : Nat} {w : (Nat × (Nat → Int32))} {jx : Nat} (X : Bx E p m meth c cL_makes 4 (some .boolean) s args RL) (hA0 : lay 10 a0) (hw : jx < nX E ∧ (eX E jx).2 = w) : ∀ (n : Nat) (σ : St) (x2 : Int32) (x3 : Int32) (H : Heap) (locs : List Loc) (ls : Array Slot) (z : St × Int32), GS E σ s.heap H locs → lv_has ls 4 [(0, .ref (E.1 a0)), (1, .ref (eX E jx).1), (2, .int x2), (3, .int x3)] → B_L_makes_76 n σ a0 w x2 x3 = some z → W p l e (rmd 6) s m args below meth c H locs 0 0 (QI E z below args s) (F0 m 76 ls []) := by
  have hx := X.1.1.1
  have hb := X.1.1.2.1
  intro n
  induction n with
  | zero => intro σ x2 x3 H locs ls z  hG hl hM; cases hM
  | succ n ih =>
    intro σ x2 x3 H locs ls z  hG hl hM
    unfold B_L_makes_76 at hM
    refine lv_iload_n hx hb dL_makes_76 rfl (lv_at hl 3 rfl) ?_
    refine lv_iload_n hx hb dL_makes_77 rfl (lv_at hl 2 rfl) ?_
    refine lv_icmp_ge (tgt := 127) hx hb dL_makes_78 (by decide) (fun c38 => ?_) (fun c38 => ?_)
    · have hM := b_if hM c38
      refine lv_iconst (v := (0 : Int32)) hx hb dL_makes_127 (by decide) ?_
      refine lv_istore_n (lv' := [(3, .int (0 : Int32)), (0, .ref (E.1 a0)), (1, .ref (eX E jx).1), (2, .int x2)]) hx hb dL_makes_128 rfl hl (by decide) rfl (fun ls hl => ?_)
      exact w_L_makes_129 X hA0 hw FU σ (0 : Int32) _ _ _ z hG (lv_sub hl [1, 2, 0] rfl) hM
    · have hM := b_else hM c38
      refine lv_aload_n hx hb dL_makes_81 rfl (lv_at hl 0 rfl) ?_
      refine lv_iload_n hx hb dL_makes_82 rfl (lv_at hl 3 rfl) ?_
      refine lv_iconst (v := (4 : Int32)) hx hb dL_makes_83 (by decide) ?_
      refine lv_irem hx hb dL_makes_84 (by decide) ?_
      refine lv_iconst (v := (4 : Int32)) hx hb dL_makes_85 (by decide) ?_
      refine lv_aload_n hx hb dL_makes_86 rfl (lv_at hl 1 rfl) ?_
      refine lv_iconst (v := (5 : Int32)) hx hb dL_makes_87 (by decide) ?_
      refine lv_iload_n hx hb dL_makes_88 rfl (lv_at hl 3 rfl) ?_
      refine lv_iadd hx hb dL_makes_89 ?_
      refine g_callS_i (nA := 2) (o := M_L_at σ w ((5 : Int32) + x3)) (As := [.ref (eX E jx).1, .int ((5 : Int32) + x3)]) X.1 hG (fun _ _ h => C_L_at l E h hw) mw1006 mw1007 mw11 (gw_ok mw1008 rfl) (by decide +kernel) rfl ⟨Nat.le_of_ble_eq_true rfl, Nat.le_of_ble_eq_true rfl⟩ hl.1 rfl (Nat.le_of_ble_eq_true rfl) ⟨Nat.le_refl _, Nat.le_refl _⟩ dL_makes_90 hM (fun σ26 r27 H locs hG hM => ?_)
      refine lv_iconst (v := (3 : Int32)) hx hb dL_makes_93 (by decide) ?_
      refine g_callS_i (nA := 2) (o := M_L_some σ26 r27 (3 : Int32)) (As := [.int r27, .int (3 : Int32)]) X.1 hG (fun _ _ h => C_L_some l E h ) mw1009 mw1010 mw11 (gw_ok mw1011 rfl) (by decide +kernel) rfl ⟨Nat.le_of_ble_eq_true rfl, Nat.le_of_ble_eq_true rfl⟩ hl.1 rfl (Nat.le_of_ble_eq_true rfl) ⟨Nat.le_refl _, Nat.le_refl _⟩ dL_makes_94 hM (fun σ28 r29 H locs hG hM => ?_)
      refine lv_iadd hx hb dL_makes_97 ?_
      refine lv_aload_n hx hb dL_makes_98 rfl (lv_at hl 1 rfl) ?_
      refine lv_iconst (v := (5 : Int32)) hx hb dL_makes_99 (by decide) ?_
      refine lv_iload_n hx hb dL_makes_100 rfl (lv_at hl 3 rfl) ?_
      refine lv_iadd hx hb dL_makes_101 ?_
      refine g_callS_i (nA := 2) (o := M_L_at σ28 w ((5 : Int32) + x3)) (As := [.ref (eX E jx).1, .int ((5 : Int32) + x3)]) X.1 hG (fun _ _ h => C_L_at l E h hw) mw1006 mw1007 mw11 (gw_ok mw1008 rfl) (by decide +kernel) rfl ⟨Nat.le_of_ble_eq_true rfl, Nat.le_of_ble_eq_true rfl⟩ hl.1 rfl (Nat.le_of_ble_eq_true rfl) ⟨Nat.le_refl _, Nat.le_refl _⟩ dL_makes_102 hM (fun σ30 r31 H locs hG hM => ?_)
      refine lv_iconst (v := (3 : Int32)) hx hb dL_makes_105 (by decide) ?_
      refine lv_ishr hx hb dL_makes_106 ?_
      refine lv_bipush (v := (41 : Int32)) hx hb dL_makes_107 (by decide) ?_
      refine g_callS_i (nA := 2) (o := M_L_some σ30 (r31 >>> ((3 : Int32) &&& 31)) (41 : Int32)) (As := [.int (r31 >>> ((3 : Int32) &&& 31)), .int (41 : Int32)]) X.1 hG (fun _ _ h => C_L_some l E h ) mw1009 mw1010 mw11 (gw_ok mw1011 rfl) (by decide +kernel) rfl ⟨Nat.le_of_ble_eq_true rfl, Nat.le_of_ble_eq_true rfl⟩ hl.1 rfl (Nat.le_of_ble_eq_true rfl) ⟨Nat.le_refl _, Nat.le_refl _⟩ dL_makes_109 hM (fun σ32 r33 H locs hG hM => ?_)
      refine g_callV_i (nA := 3) (o := M_X10_build σ32 a0 (x3 - x3 / (4 : Int32) * (4 : Int32)) ((4 : Int32) + r29) r33) (As := [.int (x3 - x3 / (4 : Int32) * (4 : Int32)), .int ((4 : Int32) + r29), .int r33]) X.1 hG hA0 rfl rfl (fun _ _ h => C_X10_build l E h hA0) mw456 mw457 mw458 mw12 (gw_ok mw459 rfl) (by decide +kernel) rfl ⟨Nat.le_of_ble_eq_true rfl, Nat.le_of_ble_eq_true rfl⟩ hl.1 rfl (Nat.le_of_ble_eq_true rfl) ⟨Nat.le_refl _, Nat.le_refl _⟩ dL_makes_112 hM (fun σ34 r35 H locs hG hM => ?_)
      refine lv_iload_n hx hb dL_makes_115 rfl (lv_at hl 3 rfl) ?_
      refine lv_icmp_eq (tgt := 121) hx hb dL_makes_116 (by decide) (fun c37 => ?_) (fun c37 => ?_)
      · have hM := b_if hM c37
        obtain ⟨v36, ev36, hM⟩ := g_nm hM
        refine lv_iinc (v := v36) (lv' := [(3, .int v36), (0, .ref (E.1 a0)), (1, .ref (eX E jx).1), (2, .int x2)]) hx hb dL_makes_121 hl (k := 3) rfl (by rw [ev36]; rfl) (by decide) rfl (fun ls hl => ?_)
        refine lv_goto (tgt := 76) hx hb dL_makes_124 (by decide) ?_
        exact ih σ34 x2 v36 _ _ _ z hG (lv_sub hl [1, 2, 3, 0] rfl) hM
      · have hM := b_else hM c37
        cases hM
set_option maxRecDepth 20000 in
set_option maxHeartbeats 4000000 in
theorem w_L_makes_2 {p : Program} {l : Launch} {e : Env} {s : State} {m : MethodId} {below : List Frame} {meth : Method} {c : Code} {args : Array Value} {E : Ev} {a0 : Nat} {w : (Nat × (Nat → Int32))} {jx : Nat} (X : Bx E p m meth c cL_makes 4 (some .boolean) s args RL) (hA0 : lay 10 a0) (hw : jx < nX E ∧ (eX E jx).2 = w) : ∀ (n : Nat) (σ : St) (x2 : Int32) (H : Heap) (locs : List Loc) (ls : Array Slot) (z : St × Int32), GS E σ s.heap H locs → lv_has ls 4 [(0, .ref (E.1 a0)), (1, .ref (eX E jx).1), (2, .int x2)] → B_L_makes_2 n σ a0 w x2 = some z → W p l e (rmd 6) s m args below meth c H locs 0 0 (QI E z below args s) (F0 m 2 ls []) := by
  have hx := X.1.1.1
  have hb := X.1.1.2.1
  intro n
  induction n with
  | zero => intro σ x2 H locs ls z  hG hl hM; cases hM
  | succ n ih =>
    intro σ x2 H locs ls z  hG hl hM
    unfold B_L_makes_2 at hM
    refine lv_iload_n hx hb dL_makes_2 rfl (lv_at hl 2 rfl) ?_
    refine lv_iconst (v := (4 : Int32)) hx hb dL_makes_3 (by decide) ?_
    refine lv_icmp_ge (tgt := 48) hx hb dL_makes_4 (by decide) (fun c52 => ?_) (fun c52 => ?_)
    · have hM := b_if hM c52
      refine lv_aload_n hx hb dL_makes_48 rfl (lv_at hl 0 rfl) ?_
      refine lv_bipush (v := (90 : Int32)) hx hb dL_makes_49 (by decide) ?_
      refine g_callV_i (nA := 1) (o := M_X10_strips σ a0 (90 : Int32)) (As := [.int (90 : Int32)]) X.1 hG hA0 rfl rfl (fun _ _ h => C_X10_strips l E h hA0) mw447 mw448 mw449 mw12 (gw_ok mw450 rfl) (by decide +kernel) rfl ⟨Nat.le_of_ble_eq_true rfl, Nat.le_of_ble_eq_true rfl⟩ hl.1 rfl (Nat.le_of_ble_eq_true rfl) ⟨Nat.le_refl _, Nat.le_refl _⟩ dL_makes_51 hM (fun σ1 r2 H locs hG hM => ?_)
      refine lv_sipush (v := (150 : Int32)) hx hb dL_makes_54 (by decide) ?_
      refine lv_icmp_eq (tgt := 62) hx hb dL_makes_57 (by decide) (fun c39 => ?_) (fun c39 => ?_)
      · have hM := b_if hM c39
        refine lv_iconst (v := (2 : Int32)) hx hb dL_makes_62 (by decide) ?_
        refine lv_aload_n hx hb dL_makes_63 rfl (lv_at hl 1 rfl) ?_
        refine lv_iconst (v := (4 : Int32)) hx hb dL_makes_64 (by decide) ?_
        refine g_callS_i (nA := 2) (o := M_L_at σ1 w (4 : Int32)) (As := [.ref (eX E jx).1, .int (4 : Int32)]) X.1 hG (fun _ _ h => C_L_at l E h hw) mw1006 mw1007 mw11 (gw_ok mw1008 rfl) (by decide +kernel) rfl ⟨Nat.le_of_ble_eq_true rfl, Nat.le_of_ble_eq_true rfl⟩ hl.1 rfl (Nat.le_of_ble_eq_true rfl) ⟨Nat.le_refl _, Nat.le_refl _⟩ dL_makes_65 hM (fun σ3 r4 H locs hG hM => ?_)
        refine lv_iconst (v := (4 : Int32)) hx hb dL_makes_68 (by decide) ?_
        refine g_callS_i (nA := 2) (o := M_L_some σ3 r4 (4 : Int32)) (As := [.int r4, .int (4 : Int32)]) X.1 hG (fun _ _ h => C_L_some l E h ) mw1009 mw1010 mw11 (gw_ok mw1011 rfl) (by decide +kernel) rfl ⟨Nat.le_of_ble_eq_true rfl, Nat.le_of_ble_eq_true rfl⟩ hl.1 rfl (Nat.le_of_ble_eq_true rfl) ⟨Nat.le_refl _, Nat.le_refl _⟩ dL_makes_69 hM (fun σ5 r6 H locs hG hM => ?_)
        refine lv_iadd hx hb dL_makes_72 ?_
        refine g_name hM (fun v7 hM => ?_)
        refine lv_istore_n (lv' := [(2, .int v7), (0, .ref (E.1 a0)), (1, .ref (eX E jx).1)]) hx hb dL_makes_73 rfl hl (by decide) rfl (fun ls hl => ?_)
        refine lv_iconst (v := (0 : Int32)) hx hb dL_makes_74 (by decide) ?_
        refine lv_istore_n (lv' := [(3, .int (0 : Int32)), (2, .int v7), (0, .ref (E.1 a0)), (1, .ref (eX E jx).1)]) hx hb dL_makes_75 rfl hl (by decide) rfl (fun ls hl => ?_)
        exact w_L_makes_76 X hA0 hw FU σ5 v7 (0 : Int32) _ _ _ z hG (lv_sub hl [2, 3, 1, 0] rfl) hM
      · have hM := b_else hM c39
        cases hM
    · have hM := b_else hM c52
      refine lv_aload_n hx hb dL_makes_7 rfl (lv_at hl 0 rfl) ?_
      refine lv_bipush (v := (12 : Int32)) hx hb dL_makes_8 (by decide) ?_
      refine lv_aload_n hx hb dL_makes_10 rfl (lv_at hl 1 rfl) ?_
      refine lv_iload_n hx hb dL_makes_11 rfl (lv_at hl 2 rfl) ?_
      refine g_callS_i (nA := 2) (o := M_L_at σ w x2) (As := [.ref (eX E jx).1, .int x2]) X.1 hG (fun _ _ h => C_L_at l E h hw) mw1006 mw1007 mw11 (gw_ok mw1008 rfl) (by decide +kernel) rfl ⟨Nat.le_of_ble_eq_true rfl, Nat.le_of_ble_eq_true rfl⟩ hl.1 rfl (Nat.le_of_ble_eq_true rfl) ⟨Nat.le_refl _, Nat.le_refl _⟩ dL_makes_12 hM (fun σ40 r41 H locs hG hM => ?_)
      refine lv_bipush (v := (19 : Int32)) hx hb dL_makes_15 (by decide) ?_
      refine g_callS_i (nA := 2) (o := M_L_some σ40 r41 (19 : Int32)) (As := [.int r41, .int (19 : Int32)]) X.1 hG (fun _ _ h => C_L_some l E h ) mw1009 mw1010 mw11 (gw_ok mw1011 rfl) (by decide +kernel) rfl ⟨Nat.le_of_ble_eq_true rfl, Nat.le_of_ble_eq_true rfl⟩ hl.1 rfl (Nat.le_of_ble_eq_true rfl) ⟨Nat.le_refl _, Nat.le_refl _⟩ dL_makes_17 hM (fun σ42 r43 H locs hG hM => ?_)
      refine lv_iadd hx hb dL_makes_20 ?_
      refine lv_aload_n hx hb dL_makes_21 rfl (lv_at hl 1 rfl) ?_
      refine lv_iload_n hx hb dL_makes_22 rfl (lv_at hl 2 rfl) ?_
      refine g_callS_i (nA := 2) (o := M_L_at σ42 w x2) (As := [.ref (eX E jx).1, .int x2]) X.1 hG (fun _ _ h => C_L_at l E h hw) mw1006 mw1007 mw11 (gw_ok mw1008 rfl) (by decide +kernel) rfl ⟨Nat.le_of_ble_eq_true rfl, Nat.le_of_ble_eq_true rfl⟩ hl.1 rfl (Nat.le_of_ble_eq_true rfl) ⟨Nat.le_refl _, Nat.le_refl _⟩ dL_makes_23 hM (fun σ44 r45 H locs hG hM => ?_)
      refine lv_iconst (v := (5 : Int32)) hx hb dL_makes_26 (by decide) ?_
      refine lv_ishr hx hb dL_makes_27 ?_
      refine lv_bipush (v := (61 : Int32)) hx hb dL_makes_28 (by decide) ?_
      refine g_callS_i (nA := 2) (o := M_L_some σ44 (r45 >>> ((5 : Int32) &&& 31)) (61 : Int32)) (As := [.int (r45 >>> ((5 : Int32) &&& 31)), .int (61 : Int32)]) X.1 hG (fun _ _ h => C_L_some l E h ) mw1009 mw1010 mw11 (gw_ok mw1011 rfl) (by decide +kernel) rfl ⟨Nat.le_of_ble_eq_true rfl, Nat.le_of_ble_eq_true rfl⟩ hl.1 rfl (Nat.le_of_ble_eq_true rfl) ⟨Nat.le_refl _, Nat.le_refl _⟩ dL_makes_30 hM (fun σ46 r47 H locs hG hM => ?_)
      refine g_callV_i (nA := 2) (o := M_X10_bundle σ46 a0 ((12 : Int32) + r43) r47) (As := [.int ((12 : Int32) + r43), .int r47]) X.1 hG hA0 rfl rfl (fun _ _ h => C_X10_bundle l E h hA0) mw375 mw376 mw377 mw12 (gw_ok mw378 rfl) (by decide +kernel) rfl ⟨Nat.le_of_ble_eq_true rfl, Nat.le_of_ble_eq_true rfl⟩ hl.1 rfl (Nat.le_of_ble_eq_true rfl) ⟨Nat.le_refl _, Nat.le_refl _⟩ dL_makes_33 hM (fun σ48 r49 H locs hG hM => ?_)
      refine lv_iload_n hx hb dL_makes_36 rfl (lv_at hl 2 rfl) ?_
      refine lv_icmp_eq (tgt := 42) hx hb dL_makes_37 (by decide) (fun c51 => ?_) (fun c51 => ?_)
      · have hM := b_if hM c51
        obtain ⟨v50, ev50, hM⟩ := g_nm hM
        refine lv_iinc (v := v50) (lv' := [(2, .int v50), (0, .ref (E.1 a0)), (1, .ref (eX E jx).1)]) hx hb dL_makes_42 hl (k := 2) rfl (by rw [ev50]; rfl) (by decide) rfl (fun ls hl => ?_)
        refine lv_goto (tgt := 2) hx hb dL_makes_45 (by decide) ?_
        exact ih σ48 v50 _ _ _ z hG (lv_sub hl [1, 2, 0] rfl) hM
      · have hM := b_else hM c51
        cases hM
set_option maxRecDepth 20000 in
set_option maxHeartbeats 4000000 in
theorem C_L_makes (l : Launch) (E : Ev) {σ σ' : St} {a0 : Nat} {w : (Nat × (Nat → Int32))} {jx : Nat} {r : Int32} (h : M_L_makes σ a0 w = some (σ', r)) (hA0 : lay 10 a0) (hw : jx < nX E ∧ (eX E jx).2 = w) : Mi l E yL_makes cL_makes 4 (some .boolean) 6 [.ref (E.1 a0), .ref (eX E jx).1] σ σ' r := by
  refine Mi_of (C := RL) rfl (by decide) (Nat.le_of_ble_eq_true rfl) (z := (σ', r)) (fun p e s m below meth c ls X hG hl => ?_)
  have hx := X.1.1.1
  have hb := X.1.1.2.1
  have hM := h
  unfold M_L_makes at hM
  generalize (σ', r) = z at hM ⊢
  have hl : lv_has ls 4 [(0, .ref (E.1 a0)), (1, .ref (eX E jx).1)] := hl
  refine lv_iconst (v := (0 : Int32)) hx hb dL_makes_0 (by decide) ?_
  refine lv_istore_n (lv' := [(2, .int (0 : Int32)), (0, .ref (E.1 a0)), (1, .ref (eX E jx).1)]) hx hb dL_makes_1 rfl hl (by decide) rfl (fun ls hl => ?_)
  exact w_L_makes_2 X hA0 hw FU σ (0 : Int32) _ _ _ z hG (lv_sub hl [1, 2, 0] rfl) hM
