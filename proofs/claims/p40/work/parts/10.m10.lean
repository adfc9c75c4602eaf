def B_X10_doneIn_29  : Nat → St → Nat → Int32 → Int32 → Option (St × Int32)
  | 0, _, _, _, _ => none
  | n + 1, σ, k, x1, x2 => if (60 : Int32) < x2 then some (σ, (-4 : Int32)) else (bcall (M_X9_has σ ((k + 23) + 4) x1) fun σ5 r6 => if r6 = 0 then some (σ5, (-4 : Int32)) else (bcall (M_X9_hoursOf σ5 ((k + 23) + 4) x1) fun σ7 r8 => if r8 = 0 then some (σ7, x2) else (bcall (M_X7_passDay σ7 (k + 23)) fun σ9 r10 => blet (x2 + (1 : Int32)) fun v11 => B_X10_doneIn_29 n σ9 k x1 v11)))
def M_X10_doneIn (σ : St) (k : Nat) (p0 : Int32) : Option (St × Int32) := bcall (M_X9_has σ ((k + 5) + 4) p0) fun σ1 r2 => if r2 = 0 then some (σ1, (-1 : Int32)) else (bcall (M_X7_take σ1 (k + 23) (k + 5)) fun σ3 r4 => B_X10_doneIn_29 FU σ3 k p0 (0 : Int32))
set_option maxRecDepth 20000 in
set_option maxHeartbeats 4000000 in
theorem w_X10_doneIn_29 {p : Program} {l : Launch} {e : Env} {s : State} {m : MethodId} {below : List Frame} {meth : Method} {c : Code} {args : Array Value} {E : Ev} {k : Nat} (X : Bx E p m meth c cX10_doneIn 3 (some .int) s args RX10) (hL : lay 10 k) : ∀ (n : Nat) (σ : St) (x1 x2 : Int32) (H : Heap) (locs : List Loc) (ls : Array Slot) (z : St × Int32), GS E σ s.heap H locs → lv_has ls 3 [(0, .ref (E.1 k)), (1, .int x1), (2, .int x2)] → B_X10_doneIn_29 n σ k x1 x2 = some z → W p l e (rmd 5) s m args below meth c H locs 0 0 (QI E z below args s) (F0 m 29 ls []) := by
  have hx := X.1.1.1
  have hb := X.1.1.2.1
  intro n
  induction n with
  | zero => intro σ x1 x2 H locs ls z  hG hl hM; cases hM
  | succ n ih =>
    intro σ x1 x2 H locs ls z  hG hl hM
    unfold B_X10_doneIn_29 at hM
    refine lv_iload_n hx hb dX10_doneIn_29 rfl (lv_at hl 2 rfl) ?_
    refine lv_bipush (v := (60 : Int32)) hx hb dX10_doneIn_30 (by decide) ?_
    refine lv_icmp_gt (tgt := 81) hx hb dX10_doneIn_32 (by decide) (fun c14 => ?_) (fun c14 => ?_)
    · have hM := b_if hM c14
      refine lv_bipush (v := (-4 : Int32)) hx hb dX10_doneIn_81 (by decide) ?_
      exact e_iret X hG dX10_doneIn_83 hM
    · have hM := b_else hM c14
      refine lv_aload_n hx hb dX10_doneIn_35 rfl (lv_at hl 0 rfl) ?_
      refine gt_10_2 X.1 hG hL mw301 dX10_doneIn_36 ?_
      refine gtN_7_1 X.1 hG (lf_10_2 hL) mw167 dX10_doneIn_39 ?_
      refine lv_iload_n hx hb dX10_doneIn_42 rfl (lv_at hl 1 rfl) ?_
      refine g_callV_i (nA := 1) (o := M_X9_has σ ((k + 23) + 4) x1) (As := [.int x1]) X.1 hG (lf_7_1 (lf_10_2 hL)) rfl rfl (fun _ _ h => C_X9_has l E h (lf_7_1 (lf_10_2 hL))) mw869 mw523 mw524 mw17 (gw_ok mw525 rfl) (by decide +kernel) rfl ⟨Nat.le_of_ble_eq_true rfl, Nat.le_of_ble_eq_true rfl⟩ hl.1 rfl (Nat.le_of_ble_eq_true rfl) ⟨Nat.le_refl _, Nat.le_refl _⟩ dX10_doneIn_43 hM (fun σ5 r6 H locs hG hM => ?_)
      refine lv_if_ne (tgt := 52) hx hb dX10_doneIn_46 (by decide) (fun c13 => ?_) (fun c13 => ?_)
      · have hM := b_else hM c13
        refine lv_aload_n hx hb dX10_doneIn_52 rfl (lv_at hl 0 rfl) ?_
        refine gt_10_2 X.1 hG hL mw301 dX10_doneIn_53 ?_
        refine gtN_7_1 X.1 hG (lf_10_2 hL) mw167 dX10_doneIn_56 ?_
        refine lv_iload_n hx hb dX10_doneIn_59 rfl (lv_at hl 1 rfl) ?_
        refine g_callV_i (nA := 1) (o := M_X9_hoursOf σ5 ((k + 23) + 4) x1) (As := [.int x1]) X.1 hG (lf_7_1 (lf_10_2 hL)) rfl rfl (fun _ _ h => C_X9_hoursOf l E h (lf_7_1 (lf_10_2 hL))) mw876 mw681 mw682 mw17 (gw_ok mw683 rfl) (by decide +kernel) rfl ⟨Nat.le_of_ble_eq_true rfl, Nat.le_of_ble_eq_true rfl⟩ hl.1 rfl (Nat.le_of_ble_eq_true rfl) ⟨Nat.le_refl _, Nat.le_refl _⟩ dX10_doneIn_60 hM (fun σ7 r8 H locs hG hM => ?_)
        refine lv_if_ne (tgt := 68) hx hb dX10_doneIn_63 (by decide) (fun c12 => ?_) (fun c12 => ?_)
        · have hM := b_else hM c12
          refine lv_aload_n hx hb dX10_doneIn_68 rfl (lv_at hl 0 rfl) ?_
          refine gt_10_2 X.1 hG hL mw301 dX10_doneIn_69 ?_
          refine g_callV_v (nA := 0) (o := M_X7_passDay σ7 (k + 23)) (As := []) X.1 hG (lf_10_2 hL) rfl rfl (fun _ _ h => C_X7_passDay l E h (lf_10_2 hL)) mw1098 mw670 mw671 mw15 (gw_ok mw672 rfl) (by decide +kernel) rfl ⟨Nat.le_of_ble_eq_true rfl, Nat.le_of_ble_eq_true rfl⟩ hl.1 rfl (Nat.le_of_ble_eq_true rfl) ⟨Nat.le_refl _, Nat.le_refl _⟩ dX10_doneIn_72 hM (fun σ9 r10 H locs hG hM => ?_)
          obtain ⟨v11, ev11, hM⟩ := g_nm hM
          refine lv_iinc (v := v11) (lv' := [(2, .int v11), (0, .ref (E.1 k)), (1, .int x1)]) hx hb dX10_doneIn_75 hl (k := 2) rfl (by rw [ev11]; rfl) (by decide) rfl (fun ls hl => ?_)
          refine lv_goto (tgt := 29) hx hb dX10_doneIn_78 (by decide) ?_
          exact ih σ9 x1 v11 _ _ _ z hG (lv_sub hl [1, 2, 0] rfl) hM
        · have hM := b_if hM c12
          refine lv_iload_n hx hb dX10_doneIn_66 rfl (lv_at hl 2 rfl) ?_
          exact e_iret X hG dX10_doneIn_67 hM
      · have hM := b_if hM c13
        refine lv_bipush (v := (-4 : Int32)) hx hb dX10_doneIn_49 (by decide) ?_
        exact e_iret X hG dX10_doneIn_51 hM
set_option maxRecDepth 20000 in
set_option maxHeartbeats 4000000 in
theorem C_X10_doneIn (l : Launch) (E : Ev) {σ σ' : St} {k : Nat} {p0 : Int32} {r : Int32} (h : M_X10_doneIn σ k p0 = some (σ', r)) (hL : lay 10 k) : Mi l E yX10_doneIn cX10_doneIn 3 (some .int) 5 [.ref (E.1 k), .int p0] σ σ' r := by
  refine Mi_of (C := RX10) rfl (by decide) (Nat.le_of_ble_eq_true rfl) (z := (σ', r)) (fun p e s m below meth c ls X hG hl => ?_)
  have hx := X.1.1.1
  have hb := X.1.1.2.1
  have hM := h
  unfold M_X10_doneIn at hM
  generalize (σ', r) = z at hM ⊢
  have hl : lv_has ls 3 [(0, .ref (E.1 k)), (1, .int p0)] := hl
  refine lv_aload_n hx hb dX10_doneIn_0 rfl (lv_at hl 0 rfl) ?_
  refine gt_10_1 X.1 hG hL mw300 dX10_doneIn_1 ?_
  refine gtN_7_1 X.1 hG (lf_10_1 hL) mw167 dX10_doneIn_4 ?_
  refine lv_iload_n hx hb dX10_doneIn_7 rfl (lv_at hl 1 rfl) ?_
  refine g_callV_i (nA := 1) (o := M_X9_has σ ((k + 5) + 4) p0) (As := [.int p0]) X.1 hG (lf_7_1 (lf_10_1 hL)) rfl rfl (fun _ _ h => C_X9_has l E h (lf_7_1 (lf_10_1 hL))) mw869 mw523 mw524 mw17 (gw_ok mw525 rfl) (by decide +kernel) rfl ⟨Nat.le_of_ble_eq_true rfl, Nat.le_of_ble_eq_true rfl⟩ hl.1 rfl (Nat.le_of_ble_eq_true rfl) ⟨Nat.le_refl _, Nat.le_refl _⟩ dX10_doneIn_8 hM (fun σ1 r2 H locs hG hM => ?_)
  refine lv_if_ne (tgt := 16) hx hb dX10_doneIn_11 (by decide) (fun c15 => ?_) (fun c15 => ?_)
  · have hM := b_else hM c15
    refine lv_aload_n hx hb dX10_doneIn_16 rfl (lv_at hl 0 rfl) ?_
    refine gt_10_2 X.1 hG hL mw301 dX10_doneIn_17 ?_
    refine lv_aload_n hx hb dX10_doneIn_20 rfl (lv_at hl 0 rfl) ?_
    refine gt_10_1 X.1 hG hL mw300 dX10_doneIn_21 ?_
    refine g_callV_v (nA := 1) (o := M_X7_take σ1 (k + 23) (k + 5)) (As := [.ref (E.1 (k + 5))]) X.1 hG (lf_10_2 hL) rfl rfl (fun _ _ h => C_X7_take l E h (lf_10_2 hL) (lf_10_1 hL)) mw853 mw388 mw389 mw15 (gw_ok mw390 rfl) (by decide +kernel) rfl ⟨Nat.le_of_ble_eq_true rfl, Nat.le_of_ble_eq_true rfl⟩ hl.1 rfl (Nat.le_of_ble_eq_true rfl) ⟨Nat.le_refl _, Nat.le_refl _⟩ dX10_doneIn_24 hM (fun σ3 r4 H locs hG hM => ?_)
    refine lv_iconst (v := (0 : Int32)) hx hb dX10_doneIn_27 (by decide) ?_
    refine lv_istore_n (lv' := [(2, .int (0 : Int32)), (0, .ref (E.1 k)), (1, .int p0)]) hx hb dX10_doneIn_28 rfl hl (by decide) rfl (fun ls hl => ?_)
    exact w_X10_doneIn_29 X hL FU σ3 p0 (0 : Int32) _ _ _ z hG (lv_sub hl [1, 2, 0] rfl) hM
  · have hM := b_if hM c15
    refine lv_iconst (v := (-1 : Int32)) hx hb dX10_doneIn_14 (by decide) ?_
    exact e_iret X hG dX10_doneIn_15 hM
def M_X10_obey (σ : St) (k : Nat) (p0 : Int32) : Option (St × Int32) := bcall (M_X5_numberOf σ (k + 245) p0 (0 : Int32)) fun σ1 r2 => bcall (M_X5_numberOf σ1 (k + 245) p0 (1 : Int32)) fun σ3 r4 => bcall (M_X5_letterOf σ3 (k + 245) p0) fun σ5 r6 => if r6.toInt < 98 ∨ 117 < r6.toInt then some (σ5, (-2 : Int32)) else if r6.toInt = 98 then (bcall (M_X5_numberOf σ5 (k + 245) p0 (2 : Int32)) fun σ9 r10 => bcall (M_X8_addStorey σ9 (k + 1) r2 r4 r10) fun σ11 r12 => some (σ11, r12)) else if r6.toInt = 99 then some (σ5, (-2 : Int32)) else if r6.toInt = 100 then (bcall (M_X8_callDown σ5 (k + 1) r2) fun σ15 r16 => some (σ15, r16)) else if r6.toInt = 101 then some (σ5, (-2 : Int32)) else if r6.toInt = 102 then some (σ5, (-2 : Int32)) else if r6.toInt = 103 then (bcall (M_X8_changeSignal σ5 (k + 1) r2) fun σ20 r21 => some (σ20, r21)) else if r6.toInt = 104 then some (σ5, (-2 : Int32)) else if r6.toInt = 105 then (bcall (M_X8_lookAt σ5 (k + 1) r2 r4) fun σ24 r25 => some (σ24, r25)) else if r6.toInt = 106 then some (σ5, (-2 : Int32)) else if r6.toInt = 107 then some (σ5, (-2 : Int32)) else if r6.toInt = 108 then (bcall (M_X8_bringLoads σ5 (k + 1) r2 r4) fun σ29 r30 => some (σ29, r30)) else if r6.toInt = 109 then some (σ5, (-2 : Int32)) else if r6.toInt = 110 then (bcall (M_X8_passDays σ5 (k + 1) r2) fun σ33 r34 => some (σ33, r34)) else if r6.toInt = 111 then some (σ5, (-2 : Int32)) else if r6.toInt = 112 then some (σ5, (-2 : Int32)) else if r6.toInt = 113 then some (σ5, (-2 : Int32)) else if r6.toInt = 114 then some (σ5, (-2 : Int32)) else if r6.toInt = 115 then some (σ5, (-2 : Int32)) else if r6.toInt = 116 then (bcall (M_X8_tieAnew σ5 (k + 1) r2) fun σ41 r42 => some (σ41, r42)) else if r6.toInt = 117 then (bcall (M_X8_sendUp σ5 (k + 1) r2 r4) fun σ44 r45 => some (σ44, r45)) else none
set_option maxRecDepth 20000 in
set_option maxHeartbeats 4000000 in
theorem C_X10_obey (l : Launch) (E : Ev) {σ σ' : St} {k : Nat} {p0 : Int32} {r : Int32} (h : M_X10_obey σ k p0 = some (σ', r)) (hL : lay 10 k) : Mi l E yX10_obey cX10_obey 4 (some .int) 6 [.ref (E.1 k), .int p0] σ σ' r := by
  refine Mi_of (C := RX10) rfl (by decide) (Nat.le_of_ble_eq_true rfl) (z := (σ', r)) (fun p e s m below meth c ls X hG hl => ?_)
  have hx := X.1.1.1
  have hb := X.1.1.2.1
  have hM := h
  unfold M_X10_obey at hM
  generalize (σ', r) = z at hM ⊢
  have hl : lv_has ls 4 [(0, .ref (E.1 k)), (1, .int p0)] := hl
  refine lv_aload_n hx hb dX10_obey_0 rfl (lv_at hl 0 rfl) ?_
  refine gt_10_7 X.1 hG hL mw306 dX10_obey_1 ?_
  refine lv_iload_n hx hb dX10_obey_4 rfl (lv_at hl 1 rfl) ?_
  refine lv_iconst (v := (0 : Int32)) hx hb dX10_obey_5 (by decide) ?_
  refine g_callV_i (nA := 2) (o := M_X5_numberOf σ (k + 245) p0 (0 : Int32)) (As := [.int p0, .int (0 : Int32)]) X.1 hG (lf_10_7 hL) rfl rfl (fun _ _ h => C_X5_numberOf l E h (lf_10_7 hL)) mw833 mw834 mw835 mw22 (gw_ok mw836 rfl) (by decide +kernel) rfl ⟨Nat.le_of_ble_eq_true rfl, Nat.le_of_ble_eq_true rfl⟩ hl.1 rfl (Nat.le_of_ble_eq_true rfl) ⟨Nat.le_refl _, Nat.le_refl _⟩ dX10_obey_6 hM (fun σ1 r2 H locs hG hM => ?_)
  refine lv_istore_n (lv' := [(2, .int r2), (0, .ref (E.1 k)), (1, .int p0)]) hx hb dX10_obey_9 rfl hl (by decide) rfl (fun ls hl => ?_)
  refine lv_aload_n hx hb dX10_obey_10 rfl (lv_at hl 1 rfl) ?_
  refine gt_10_7 X.1 hG hL mw306 dX10_obey_11 ?_
  refine lv_iload_n hx hb dX10_obey_14 rfl (lv_at hl 2 rfl) ?_
  refine lv_iconst (v := (1 : Int32)) hx hb dX10_obey_15 (by decide) ?_
  refine g_callV_i (nA := 2) (o := M_X5_numberOf σ1 (k + 245) p0 (1 : Int32)) (As := [.int p0, .int (1 : Int32)]) X.1 hG (lf_10_7 hL) rfl rfl (fun _ _ h => C_X5_numberOf l E h (lf_10_7 hL)) mw833 mw834 mw835 mw22 (gw_ok mw836 rfl) (by decide +kernel) rfl ⟨Nat.le_of_ble_eq_true rfl, Nat.le_of_ble_eq_true rfl⟩ hl.1 rfl (Nat.le_of_ble_eq_true rfl) ⟨Nat.le_refl _, Nat.le_refl _⟩ dX10_obey_16 hM (fun σ3 r4 H locs hG hM => ?_)
  refine lv_istore_n (lv' := [(3, .int r4), (2, .int r2), (0, .ref (E.1 k)), (1, .int p0)]) hx hb dX10_obey_19 rfl hl (by decide) rfl (fun ls hl => ?_)
  refine lv_aload_n hx hb dX10_obey_20 rfl (lv_at hl 2 rfl) ?_
  refine gt_10_7 X.1 hG hL mw306 dX10_obey_21 ?_
  refine lv_iload_n hx hb dX10_obey_24 rfl (lv_at hl 3 rfl) ?_
  refine g_callV_i (nA := 1) (o := M_X5_letterOf σ3 (k + 245) p0) (As := [.int p0]) X.1 hG (lf_10_7 hL) rfl rfl (fun _ _ h => C_X5_letterOf l E h (lf_10_7 hL)) mw838 mw839 mw840 mw22 (gw_ok mw841 rfl) (by decide +kernel) rfl ⟨Nat.le_of_ble_eq_true rfl, Nat.le_of_ble_eq_true rfl⟩ hl.1 rfl (Nat.le_of_ble_eq_true rfl) ⟨Nat.le_refl _, Nat.le_refl _⟩ dX10_obey_25 hM (fun σ5 r6 H locs hG hM => ?_)
  by_cases c7 : r6.toInt < 98 ∨ 117 < r6.toInt
  · have hM := b_if hM c7
    refine lv_tableOut (tgt := 209) hx hb dX10_obey_28 c7 (by decide) ?_
    refine lv_bipush (v := (-2 : Int32)) hx hb dX10_obey_209 (by decide) ?_
    exact e_iret X hG dX10_obey_211 hM
  · have hM := b_else hM c7
    by_cases c8 : r6.toInt = 98
    · have hM := b_if hM c8
      refine lv_tableIn (tgt := 124) hx hb dX10_obey_28 (fun h => c7 (Or.inl h)) (fun h => c7 (Or.inr h)) (by rw [c8]; rfl) (by decide) ?_
      refine lv_aload_n hx hb dX10_obey_124 rfl (lv_at hl 2 rfl) ?_
      refine gt_10_0 X.1 hG hL mw299 dX10_obey_125 ?_
      refine lv_iload_n hx hb dX10_obey_128 rfl (lv_at hl 1 rfl) ?_
      refine lv_iload_n hx hb dX10_obey_129 rfl (lv_at hl 0 rfl) ?_
      refine lv_aload_n hx hb dX10_obey_130 rfl (lv_at hl 2 rfl) ?_
      refine gt_10_7 X.1 hG hL mw306 dX10_obey_131 ?_
      refine lv_iload_n hx hb dX10_obey_134 rfl (lv_at hl 3 rfl) ?_
      refine lv_iconst (v := (2 : Int32)) hx hb dX10_obey_135 (by decide) ?_
      refine g_callV_i (nA := 2) (o := M_X5_numberOf σ5 (k + 245) p0 (2 : Int32)) (As := [.int p0, .int (2 : Int32)]) X.1 hG (lf_10_7 hL) rfl rfl (fun _ _ h => C_X5_numberOf l E h (lf_10_7 hL)) mw833 mw834 mw835 mw22 (gw_ok mw836 rfl) (by decide +kernel) rfl ⟨Nat.le_of_ble_eq_true rfl, Nat.le_of_ble_eq_true rfl⟩ hl.1 rfl (Nat.le_of_ble_eq_true rfl) ⟨Nat.le_refl _, Nat.le_refl _⟩ dX10_obey_136 hM (fun σ9 r10 H locs hG hM => ?_)
      refine g_callV_i (nA := 3) (o := M_X8_addStorey σ9 (k + 1) r2 r4 r10) (As := [.int r2, .int r4, .int r10]) X.1 hG (lf_10_0 hL) rfl rfl (fun _ _ h => C_X8_addStorey l E h (lf_10_0 hL)) mw460 mw461 mw462 mw13 (gw_ok mw463 rfl) (by decide +kernel) rfl ⟨Nat.le_of_ble_eq_true rfl, Nat.le_of_ble_eq_true rfl⟩ hl.1 rfl (Nat.le_of_ble_eq_true rfl) ⟨Nat.le_refl _, Nat.le_refl _⟩ dX10_obey_139 hM (fun σ11 r12 H locs hG hM => ?_)
      exact e_iret X hG dX10_obey_142 hM
    have hM := b_else hM c8
    by_cases c13 : r6.toInt = 99
    · have hM := b_if hM c13
      refine lv_tableIn (tgt := 209) hx hb dX10_obey_28 (fun h => c7 (Or.inl h)) (fun h => c7 (Or.inr h)) (by rw [c13]; rfl) (by decide) ?_
      refine lv_bipush (v := (-2 : Int32)) hx hb dX10_obey_209 (by decide) ?_
      exact e_iret X hG dX10_obey_211 hM
    have hM := b_else hM c13
    by_cases c14 : r6.toInt = 100
    · have hM := b_if hM c14
      refine lv_tableIn (tgt := 162) hx hb dX10_obey_28 (fun h => c7 (Or.inl h)) (fun h => c7 (Or.inr h)) (by rw [c14]; rfl) (by decide) ?_
      refine lv_aload_n hx hb dX10_obey_162 rfl (lv_at hl 2 rfl) ?_
      refine gt_10_0 X.1 hG hL mw299 dX10_obey_163 ?_
      refine lv_iload_n hx hb dX10_obey_166 rfl (lv_at hl 1 rfl) ?_
      refine g_callV_i (nA := 1) (o := M_X8_callDown σ5 (k + 1) r2) (As := [.int r2]) X.1 hG (lf_10_0 hL) rfl rfl (fun _ _ h => C_X8_callDown l E h (lf_10_0 hL)) mw573 mw574 mw575 mw13 (gw_ok mw576 rfl) (by decide +kernel) rfl ⟨Nat.le_of_ble_eq_true rfl, Nat.le_of_ble_eq_true rfl⟩ hl.1 rfl (Nat.le_of_ble_eq_true rfl) ⟨Nat.le_refl _, Nat.le_refl _⟩ dX10_obey_167 hM (fun σ15 r16 H locs hG hM => ?_)
      exact e_iret X hG dX10_obey_170 hM
    have hM := b_else hM c14
    by_cases c17 : r6.toInt = 101
    · have hM := b_if hM c17
      refine lv_tableIn (tgt := 209) hx hb dX10_obey_28 (fun h => c7 (Or.inl h)) (fun h => c7 (Or.inr h)) (by rw [c17]; rfl) (by decide) ?_
      refine lv_bipush (v := (-2 : Int32)) hx hb dX10_obey_209 (by decide) ?_
      exact e_iret X hG dX10_obey_211 hM
    have hM := b_else hM c17
    by_cases c18 : r6.toInt = 102
    · have hM := b_if hM c18
      refine lv_tableIn (tgt := 209) hx hb dX10_obey_28 (fun h => c7 (Or.inl h)) (fun h => c7 (Or.inr h)) (by rw [c18]; rfl) (by decide) ?_
      refine lv_bipush (v := (-2 : Int32)) hx hb dX10_obey_209 (by decide) ?_
      exact e_iret X hG dX10_obey_211 hM
    have hM := b_else hM c18
    by_cases c19 : r6.toInt = 103
    · have hM := b_if hM c19
      refine lv_tableIn (tgt := 181) hx hb dX10_obey_28 (fun h => c7 (Or.inl h)) (fun h => c7 (Or.inr h)) (by rw [c19]; rfl) (by decide) ?_
      refine lv_aload_n hx hb dX10_obey_181 rfl (lv_at hl 2 rfl) ?_
      refine gt_10_0 X.1 hG hL mw299 dX10_obey_182 ?_
      refine lv_iload_n hx hb dX10_obey_185 rfl (lv_at hl 1 rfl) ?_
      refine g_callV_i (nA := 1) (o := M_X8_changeSignal σ5 (k + 1) r2) (As := [.int r2]) X.1 hG (lf_10_0 hL) rfl rfl (fun _ _ h => C_X8_changeSignal l E h (lf_10_0 hL)) mw602 mw603 mw604 mw13 (gw_ok mw605 rfl) (by decide +kernel) rfl ⟨Nat.le_of_ble_eq_true rfl, Nat.le_of_ble_eq_true rfl⟩ hl.1 rfl (Nat.le_of_ble_eq_true rfl) ⟨Nat.le_refl _, Nat.le_refl _⟩ dX10_obey_186 hM (fun σ20 r21 H locs hG hM => ?_)
      exact e_iret X hG dX10_obey_189 hM
    have hM := b_else hM c19
    by_cases c22 : r6.toInt = 104
    · have hM := b_if hM c22
      refine lv_tableIn (tgt := 209) hx hb dX10_obey_28 (fun h => c7 (Or.inl h)) (fun h => c7 (Or.inr h)) (by rw [c22]; rfl) (by decide) ?_
      refine lv_bipush (v := (-2 : Int32)) hx hb dX10_obey_209 (by decide) ?_
      exact e_iret X hG dX10_obey_211 hM
    have hM := b_else hM c22
    by_cases c23 : r6.toInt = 105
    · have hM := b_if hM c23
      refine lv_tableIn (tgt := 190) hx hb dX10_obey_28 (fun h => c7 (Or.inl h)) (fun h => c7 (Or.inr h)) (by rw [c23]; rfl) (by decide) ?_
      refine lv_aload_n hx hb dX10_obey_190 rfl (lv_at hl 2 rfl) ?_
      refine gt_10_0 X.1 hG hL mw299 dX10_obey_191 ?_
      refine lv_iload_n hx hb dX10_obey_194 rfl (lv_at hl 1 rfl) ?_
      refine lv_iload_n hx hb dX10_obey_195 rfl (lv_at hl 0 rfl) ?_
      refine g_callV_i (nA := 2) (o := M_X8_lookAt σ5 (k + 1) r2 r4) (As := [.int r2, .int r4]) X.1 hG (lf_10_0 hL) rfl rfl (fun _ _ h => C_X8_lookAt l E h (lf_10_0 hL)) mw628 mw629 mw630 mw13 (gw_ok mw631 rfl) (by decide +kernel) rfl ⟨Nat.le_of_ble_eq_true rfl, Nat.le_of_ble_eq_true rfl⟩ hl.1 rfl (Nat.le_of_ble_eq_true rfl) ⟨Nat.le_refl _, Nat.le_refl _⟩ dX10_obey_196 hM (fun σ24 r25 H locs hG hM => ?_)
      exact e_iret X hG dX10_obey_199 hM
    have hM := b_else hM c23
    by_cases c26 : r6.toInt = 106
    · have hM := b_if hM c26
      refine lv_tableIn (tgt := 209) hx hb dX10_obey_28 (fun h => c7 (Or.inl h)) (fun h => c7 (Or.inr h)) (by rw [c26]; rfl) (by decide) ?_
      refine lv_bipush (v := (-2 : Int32)) hx hb dX10_obey_209 (by decide) ?_
      exact e_iret X hG dX10_obey_211 hM
    have hM := b_else hM c26
    by_cases c27 : r6.toInt = 107
    · have hM := b_if hM c27
      refine lv_tableIn (tgt := 209) hx hb dX10_obey_28 (fun h => c7 (Or.inl h)) (fun h => c7 (Or.inr h)) (by rw [c27]; rfl) (by decide) ?_
      refine lv_bipush (v := (-2 : Int32)) hx hb dX10_obey_209 (by decide) ?_
      exact e_iret X hG dX10_obey_211 hM
    have hM := b_else hM c27
    by_cases c28 : r6.toInt = 108
    · have hM := b_if hM c28
      refine lv_tableIn (tgt := 171) hx hb dX10_obey_28 (fun h => c7 (Or.inl h)) (fun h => c7 (Or.inr h)) (by rw [c28]; rfl) (by decide) ?_
      refine lv_aload_n hx hb dX10_obey_171 rfl (lv_at hl 2 rfl) ?_
      refine gt_10_0 X.1 hG hL mw299 dX10_obey_172 ?_
      refine lv_iload_n hx hb dX10_obey_175 rfl (lv_at hl 1 rfl) ?_
      refine lv_iload_n hx hb dX10_obey_176 rfl (lv_at hl 0 rfl) ?_
      refine g_callV_i (nA := 2) (o := M_X8_bringLoads σ5 (k + 1) r2 r4) (As := [.int r2, .int r4]) X.1 hG (lf_10_0 hL) rfl rfl (fun _ _ h => C_X8_bringLoads l E h (lf_10_0 hL)) mw585 mw586 mw587 mw13 (gw_ok mw588 rfl) (by decide +kernel) rfl ⟨Nat.le_of_ble_eq_true rfl, Nat.le_of_ble_eq_true rfl⟩ hl.1 rfl (Nat.le_of_ble_eq_true rfl) ⟨Nat.le_refl _, Nat.le_refl _⟩ dX10_obey_177 hM (fun σ29 r30 H locs hG hM => ?_)
      exact e_iret X hG dX10_obey_180 hM
    have hM := b_else hM c28
    by_cases c31 : r6.toInt = 109
    · have hM := b_if hM c31
      refine lv_tableIn (tgt := 209) hx hb dX10_obey_28 (fun h => c7 (Or.inl h)) (fun h => c7 (Or.inr h)) (by rw [c31]; rfl) (by decide) ?_
      refine lv_bipush (v := (-2 : Int32)) hx hb dX10_obey_209 (by decide) ?_
      exact e_iret X hG dX10_obey_211 hM
    have hM := b_else hM c31
    by_cases c32 : r6.toInt = 110
    · have hM := b_if hM c32
      refine lv_tableIn (tgt := 200) hx hb dX10_obey_28 (fun h => c7 (Or.inl h)) (fun h => c7 (Or.inr h)) (by rw [c32]; rfl) (by decide) ?_
      refine lv_aload_n hx hb dX10_obey_200 rfl (lv_at hl 2 rfl) ?_
      refine gt_10_0 X.1 hG hL mw299 dX10_obey_201 ?_
      refine lv_iload_n hx hb dX10_obey_204 rfl (lv_at hl 1 rfl) ?_
      refine g_callV_i (nA := 1) (o := M_X8_passDays σ5 (k + 1) r2) (As := [.int r2]) X.1 hG (lf_10_0 hL) rfl rfl (fun _ _ h => C_X8_passDays l E h (lf_10_0 hL)) mw665 mw666 mw667 mw13 (gw_ok mw668 rfl) (by decide +kernel) rfl ⟨Nat.le_of_ble_eq_true rfl, Nat.le_of_ble_eq_true rfl⟩ hl.1 rfl (Nat.le_of_ble_eq_true rfl) ⟨Nat.le_refl _, Nat.le_refl _⟩ dX10_obey_205 hM (fun σ33 r34 H locs hG hM => ?_)
      exact e_iret X hG dX10_obey_208 hM
    have hM := b_else hM c32
    by_cases c35 : r6.toInt = 111
    · have hM := b_if hM c35
      refine lv_tableIn (tgt := 209) hx hb dX10_obey_28 (fun h => c7 (Or.inl h)) (fun h => c7 (Or.inr h)) (by rw [c35]; rfl) (by decide) ?_
      refine lv_bipush (v := (-2 : Int32)) hx hb dX10_obey_209 (by decide) ?_
      exact e_iret X hG dX10_obey_211 hM
    have hM := b_else hM c35
    by_cases c36 : r6.toInt = 112
    · have hM := b_if hM c36
      refine lv_tableIn (tgt := 209) hx hb dX10_obey_28 (fun h => c7 (Or.inl h)) (fun h => c7 (Or.inr h)) (by rw [c36]; rfl) (by decide) ?_
      refine lv_bipush (v := (-2 : Int32)) hx hb dX10_obey_209 (by decide) ?_
      exact e_iret X hG dX10_obey_211 hM
    have hM := b_else hM c36
    by_cases c37 : r6.toInt = 113
    · have hM := b_if hM c37
      refine lv_tableIn (tgt := 209) hx hb dX10_obey_28 (fun h => c7 (Or.inl h)) (fun h => c7 (Or.inr h)) (by rw [c37]; rfl) (by decide) ?_
      refine lv_bipush (v := (-2 : Int32)) hx hb dX10_obey_209 (by decide) ?_
      exact e_iret X hG dX10_obey_211 hM
    have hM := b_else hM c37
    by_cases c38 : r6.toInt = 114
    · have hM := b_if hM c38
      refine lv_tableIn (tgt := 209) hx hb dX10_obey_28 (fun h => c7 (Or.inl h)) (fun h => c7 (Or.inr h)) (by rw [c38]; rfl) (by decide) ?_
      refine lv_bipush (v := (-2 : Int32)) hx hb dX10_obey_209 (by decide) ?_
      exact e_iret X hG dX10_obey_211 hM
    have hM := b_else hM c38
    by_cases c39 : r6.toInt = 115
    · have hM := b_if hM c39
      refine lv_tableIn (tgt := 209) hx hb dX10_obey_28 (fun h => c7 (Or.inl h)) (fun h => c7 (Or.inr h)) (by rw [c39]; rfl) (by decide) ?_
      refine lv_bipush (v := (-2 : Int32)) hx hb dX10_obey_209 (by decide) ?_
      exact e_iret X hG dX10_obey_211 hM
    have hM := b_else hM c39
    by_cases c40 : r6.toInt = 116
    · have hM := b_if hM c40
      refine lv_tableIn (tgt := 143) hx hb dX10_obey_28 (fun h => c7 (Or.inl h)) (fun h => c7 (Or.inr h)) (by rw [c40]; rfl) (by decide) ?_
      refine lv_aload_n hx hb dX10_obey_143 rfl (lv_at hl 2 rfl) ?_
      refine gt_10_0 X.1 hG hL mw299 dX10_obey_144 ?_
      refine lv_iload_n hx hb dX10_obey_147 rfl (lv_at hl 1 rfl) ?_
      refine g_callV_i (nA := 1) (o := M_X8_tieAnew σ5 (k + 1) r2) (As := [.int r2]) X.1 hG (lf_10_0 hL) rfl rfl (fun _ _ h => C_X8_tieAnew l E h (lf_10_0 hL)) mw842 mw843 mw844 mw13 (gw_ok mw845 rfl) (by decide +kernel) rfl ⟨Nat.le_of_ble_eq_true rfl, Nat.le_of_ble_eq_true rfl⟩ hl.1 rfl (Nat.le_of_ble_eq_true rfl) ⟨Nat.le_refl _, Nat.le_refl _⟩ dX10_obey_148 hM (fun σ41 r42 H locs hG hM => ?_)
      exact e_iret X hG dX10_obey_151 hM
    have hM := b_else hM c40
    by_cases c43 : r6.toInt = 117
    · have hM := b_if hM c43
      refine lv_tableIn (tgt := 152) hx hb dX10_obey_28 (fun h => c7 (Or.inl h)) (fun h => c7 (Or.inr h)) (by rw [c43]; rfl) (by decide) ?_
      refine lv_aload_n hx hb dX10_obey_152 rfl (lv_at hl 2 rfl) ?_
      refine gt_10_0 X.1 hG hL mw299 dX10_obey_153 ?_
      refine lv_iload_n hx hb dX10_obey_156 rfl (lv_at hl 1 rfl) ?_
      refine lv_iload_n hx hb dX10_obey_157 rfl (lv_at hl 0 rfl) ?_
      refine g_callV_i (nA := 2) (o := M_X8_sendUp σ5 (k + 1) r2 r4) (As := [.int r2, .int r4]) X.1 hG (lf_10_0 hL) rfl rfl (fun _ _ h => C_X8_sendUp l E h (lf_10_0 hL)) mw514 mw515 mw516 mw13 (gw_ok mw517 rfl) (by decide +kernel) rfl ⟨Nat.le_of_ble_eq_true rfl, Nat.le_of_ble_eq_true rfl⟩ hl.1 rfl (Nat.le_of_ble_eq_true rfl) ⟨Nat.le_refl _, Nat.le_refl _⟩ dX10_obey_158 hM (fun σ44 r45 H locs hG hM => ?_)
      exact e_iret X hG dX10_obey_161 hM
    have hM := b_else hM c43
    cases hM
def B_X5_read_12  : Nat → St → Nat → Nat → Int32 → Option (St × Int32)
  | 0, _, _, _, _ => none
  | n + 1, σ, k, a0, x2 => if (20 : Int32) ≤ x2 then some (σ, σ k 3) else (bcall (M_X5_readOrder σ k a0) fun σ3 r4 => if r4 = 0 then some (σ3, σ3 k 3) else (bput σ3 k 2 ((σ3 k 2) + (1 : Int32)) fun σ5 => if (σ5 k 3) < (σ5 a0 1) then (bcall (M_X5_readSign σ5 k a0 (59 : Int32)) fun σ6 r7 => if r7 = 0 then some (σ6, σ6 k 3) else (blet (x2 + (1 : Int32)) fun v8 => B_X5_read_12 n σ6 k a0 v8)) else some (σ5, (-4 : Int32))))
def M_X5_read (σ : St) (k a0 : Nat)  : Option (St × Int32) := bput σ k 2 (0 : Int32) fun σ1 => bput σ1 k 3 (0 : Int32) fun σ2 => B_X5_read_12 FU σ2 k a0 (0 : Int32)
set_option maxRecDepth 20000 in
set_option maxHeartbeats 4000000 in
theorem w_X5_read_12 {p : Program} {l : Launch} {e : Env} {s : State} {m : MethodId} {below : List Frame} {meth : Method} {c : Code} {args : Array Value} {E : Ev} {k : Nat} {a0 : Nat} (X : Bx E p m meth c cX5_read 3 (some .int) s args RX5) (hL : lay 5 k) (hA0 : lay 4 a0) : ∀ (n : Nat) (σ : St) (x2 : Int32) (H : Heap) (locs : List Loc) (ls : Array Slot) (z : St × Int32), GS E σ s.heap H locs → lv_has ls 3 [(0, .ref (E.1 k)), (1, .ref (E.1 a0)), (2, .int x2)] → B_X5_read_12 n σ k a0 x2 = some z → W p l e (rmd 6) s m args below meth c H locs 0 0 (QI E z below args s) (F0 m 12 ls []) := by
  have hx := X.1.1.1
  have hb := X.1.1.2.1
  intro n
  induction n with
  | zero => intro σ x2 H locs ls z  hG hl hM; cases hM
  | succ n ih =>
    intro σ x2 H locs ls z  hG hl hM
    unfold B_X5_read_12 at hM
    refine lv_iload_n hx hb dX5_read_12 rfl (lv_at hl 2 rfl) ?_
    refine lv_bipush (v := (20 : Int32)) hx hb dX5_read_13 (by decide) ?_
    refine lv_icmp_ge (tgt := 76) hx hb dX5_read_15 (by decide) (fun c12 => ?_) (fun c12 => ?_)
    · have hM := b_if hM c12
      refine lv_aload_n hx hb dX5_read_76 rfl (lv_at hl 0 rfl) ?_
      refine gt_5_3 X.1 hG hL mw289 dX5_read_77 ?_
      exact e_iret X hG dX5_read_80 hM
    · have hM := b_else hM c12
      refine lv_aload_n hx hb dX5_read_18 rfl (lv_at hl 0 rfl) ?_
      refine lv_aload_n hx hb dX5_read_19 rfl (lv_at hl 1 rfl) ?_
      refine g_callV_i (nA := 1) (o := M_X5_readOrder σ k a0) (As := [.ref (E.1 a0)]) X.1 hG hL rfl rfl (fun _ _ h => C_X5_readOrder l E h hL hA0) mw744 mw746 mw3 mw22 (gw_ok mw747 rfl) (by decide +kernel) rfl ⟨Nat.le_of_ble_eq_true rfl, Nat.le_of_ble_eq_true rfl⟩ hl.1 rfl (Nat.le_of_ble_eq_true rfl) ⟨Nat.le_refl _, Nat.le_refl _⟩ dX5_read_20 hM (fun σ3 r4 H locs hG hM => ?_)
      refine lv_if_ne (tgt := 31) hx hb dX5_read_23 (by decide) (fun c11 => ?_) (fun c11 => ?_)
      · have hM := b_else hM c11
        refine lv_aload_n hx hb dX5_read_31 rfl (lv_at hl 0 rfl) ?_
        refine lv_dup hx hb dX5_read_32 rfl ?_
        refine gt_5_2 X.1 hG hL mw287 dX5_read_33 ?_
        refine lv_iconst (v := (1 : Int32)) hx hb dX5_read_36 (by decide) ?_
        refine lv_iadd hx hb dX5_read_37 ?_
        refine pt_5_2 X.1 hG hL mw287 dX5_read_38 hM (fun σ5 H locs hG hM => ?_)
        refine lv_aload_n hx hb dX5_read_41 rfl (lv_at hl 0 rfl) ?_
        refine gt_5_3 X.1 hG hL mw289 dX5_read_42 ?_
        refine lv_aload_n hx hb dX5_read_45 rfl (lv_at hl 1 rfl) ?_
        refine gtN_4_1 X.1 hG hA0 mw271 dX5_read_46 ?_
        refine lv_icmp_lt (tgt := 55) hx hb dX5_read_49 (by decide) (fun c10 => ?_) (fun c10 => ?_)
        · have hM := b_if hM c10
          refine lv_aload_n hx hb dX5_read_55 rfl (lv_at hl 0 rfl) ?_
          refine lv_aload_n hx hb dX5_read_56 rfl (lv_at hl 1 rfl) ?_
          refine lv_bipush (v := (59 : Int32)) hx hb dX5_read_57 (by decide) ?_
          refine g_callV_i (nA := 2) (o := M_X5_readSign σ5 k a0 (59 : Int32)) (As := [.ref (E.1 a0), .int (59 : Int32)]) X.1 hG hL rfl rfl (fun _ _ h => C_X5_readSign l E h hL hA0) mw814 mw816 mw4 mw22 (gw_ok mw817 rfl) (by decide +kernel) rfl ⟨Nat.le_of_ble_eq_true rfl, Nat.le_of_ble_eq_true rfl⟩ hl.1 rfl (Nat.le_of_ble_eq_true rfl) ⟨Nat.le_refl _, Nat.le_refl _⟩ dX5_read_59 hM (fun σ6 r7 H locs hG hM => ?_)
          refine lv_if_ne (tgt := 70) hx hb dX5_read_62 (by decide) (fun c9 => ?_) (fun c9 => ?_)
          · have hM := b_else hM c9
            obtain ⟨v8, ev8, hM⟩ := g_nm hM
            refine lv_iinc (v := v8) (lv' := [(2, .int v8), (0, .ref (E.1 k)), (1, .ref (E.1 a0))]) hx hb dX5_read_70 hl (k := 2) rfl (by rw [ev8]; rfl) (by decide) rfl (fun ls hl => ?_)
            refine lv_goto (tgt := 12) hx hb dX5_read_73 (by decide) ?_
            exact ih σ6 v8 _ _ _ z hG (lv_sub hl [1, 2, 0] rfl) hM
          · have hM := b_if hM c9
            refine lv_aload_n hx hb dX5_read_65 rfl (lv_at hl 0 rfl) ?_
            refine gt_5_3 X.1 hG hL mw289 dX5_read_66 ?_
            exact e_iret X hG dX5_read_69 hM
        · have hM := b_else hM c10
          refine lv_bipush (v := (-4 : Int32)) hx hb dX5_read_52 (by decide) ?_
          exact e_iret X hG dX5_read_54 hM
      · have hM := b_if hM c11
        refine lv_aload_n hx hb dX5_read_26 rfl (lv_at hl 0 rfl) ?_
        refine gt_5_3 X.1 hG hL mw289 dX5_read_27 ?_
        exact e_iret X hG dX5_read_30 hM
set_option maxRecDepth 20000 in
set_option maxHeartbeats 4000000 in
theorem C_X5_read (l : Launch) (E : Ev) {σ σ' : St} {k : Nat} {a0 : Nat} {r : Int32} (h : M_X5_read σ k a0 = some (σ', r)) (hL : lay 5 k) (hA0 : lay 4 a0) : Mi l E yX5_read cX5_read 3 (some .int) 6 [.ref (E.1 k), .ref (E.1 a0)] σ σ' r := by
  refine Mi_of (C := RX5) rfl (by decide) (Nat.le_of_ble_eq_true rfl) (z := (σ', r)) (fun p e s m below meth c ls X hG hl => ?_)
  have hx := X.1.1.1
  have hb := X.1.1.2.1
  have hM := h
  unfold M_X5_read at hM
  generalize (σ', r) = z at hM ⊢
  have hl : lv_has ls 3 [(0, .ref (E.1 k)), (1, .ref (E.1 a0))] := hl
  refine lv_aload_n hx hb dX5_read_0 rfl (lv_at hl 0 rfl) ?_
  refine lv_iconst (v := (0 : Int32)) hx hb dX5_read_1 (by decide) ?_
  refine pt_5_2 X.1 hG hL mw287 dX5_read_2 hM (fun σ1 H locs hG hM => ?_)
  refine lv_aload_n hx hb dX5_read_5 rfl (lv_at hl 0 rfl) ?_
  refine lv_iconst (v := (0 : Int32)) hx hb dX5_read_6 (by decide) ?_
  refine pt_5_3 X.1 hG hL mw289 dX5_read_7 hM (fun σ2 H locs hG hM => ?_)
  refine lv_iconst (v := (0 : Int32)) hx hb dX5_read_10 (by decide) ?_
  refine lv_istore_n (lv' := [(2, .int (0 : Int32)), (0, .ref (E.1 k)), (1, .ref (E.1 a0))]) hx hb dX5_read_11 rfl hl (by decide) rfl (fun ls hl => ?_)
  exact w_X5_read_12 X hL hA0 FU σ2 (0 : Int32) _ _ _ z hG (lv_sub hl [1, 2, 0] rfl) hM
def B_X10_script_46  : Nat → St → Nat → Int32 → Option (St × Int32)
  | 0, _, _, _ => none
  | n + 1, σ, k, x2 => if (σ (k + 245) 2) ≤ x2 then (bcall (M_X10_kept σ k (σ (k + 245) 2)) fun σ7 r8 => some (σ7, r8)) else (bcall (M_X10_obey σ k x2) fun σ9 r10 => if 0 ≤ r10 then (blet (x2 + (1 : Int32)) fun v11 => B_X10_script_46 n σ9 k v11) else (bcall (M_X2_noted σ9 (k + 59)) fun σ12 r13 => bcall (M_X7_take σ12 (k + 5) r13) fun σ14 r15 => if r10 = (-3 : Int32) then (bcall (M_X6_refuseOrder σ14 ((k + 1) + 1) x2 (1 : Int32)) fun σ18 r19 => some (σ18, r19)) else (bcall (M_X6_refuseOrder σ14 ((k + 1) + 1) x2 (0 : Int32)) fun σ16 r17 => some (σ16, r17))))
def M_X10_script (σ : St) (k : Nat)  : Option (St × Int32) := bcall (M_X5_read σ (k + 245) (k + 241)) fun σ1 r2 => bcall (M_X4_makeEmpty σ1 (k + 241)) fun σ3 r4 => if r2 = (-4 : Int32) then (bcall (M_X2_note σ3 (k + 59) (k + 5)) fun σ5 r6 => B_X10_script_46 FU σ5 k (0 : Int32)) else (bput σ3 k 9 r2 fun σ23 => some (σ23, (-2 : Int32)))
set_option maxRecDepth 20000 in
set_option maxHeartbeats 4000000 in
theorem w_X10_script_46 {p : Program} {l : Launch} {e : Env} {s : State} {m : MethodId} {below : List Frame} {meth : Method} {c : Code} {args : Array Value} {E : Ev} {k : Nat} (X : Bx E p m meth c cX10_script 4 (some .int) s args RX10) (hL : lay 10 k) : ∀ (n : Nat) (σ : St) (x2 : Int32) (H : Heap) (locs : List Loc) (ls : Array Slot) (z : St × Int32), GS E σ s.heap H locs → lv_has ls 4 [(0, .ref (E.1 k)), (2, .int x2)] → B_X10_script_46 n σ k x2 = some z → W p l e (rmd 7) s m args below meth c H locs 0 0 (QI E z below args s) (F0 m 46 ls []) := by
  have hx := X.1.1.1
  have hb := X.1.1.2.1
  intro n
  induction n with
  | zero => intro σ x2 H locs ls z  hG hl hM; cases hM
  | succ n ih =>
    intro σ x2 H locs ls z  hG hl hM
    unfold B_X10_script_46 at hM
    refine lv_iload_n hx hb dX10_script_46 rfl (lv_at hl 1 rfl) ?_
    refine lv_aload_n hx hb dX10_script_47 rfl (lv_at hl 0 rfl) ?_
    refine gt_10_7 X.1 hG hL mw306 dX10_script_48 ?_
    refine gtN_5_2 X.1 hG (lf_10_7 hL) mw288 dX10_script_51 ?_
    refine lv_icmp_ge (tgt := 110) hx hb dX10_script_54 (by decide) (fun c22 => ?_) (fun c22 => ?_)
    · have hM := b_if hM c22
      refine lv_aload_n hx hb dX10_script_110 rfl (lv_at hl 0 rfl) ?_
      refine lv_aload_n hx hb dX10_script_111 rfl (lv_at hl 0 rfl) ?_
      refine gt_10_7 X.1 hG hL mw306 dX10_script_112 ?_
      refine gtN_5_2 X.1 hG (lf_10_7 hL) mw288 dX10_script_115 ?_
      refine g_callV_i (nA := 1) (o := M_X10_kept σ k (σ (k + 245) 2)) (As := [.int (σ (k + 245) 2)]) X.1 hG hL rfl rfl (fun _ _ h => C_X10_kept l E h hL) mw438 mw440 mw1 mw12 (gw_ok mw441 rfl) (by decide +kernel) rfl ⟨Nat.le_of_ble_eq_true rfl, Nat.le_of_ble_eq_true rfl⟩ hl.1 rfl (Nat.le_of_ble_eq_true rfl) ⟨Nat.le_refl _, Nat.le_refl _⟩ dX10_script_118 hM (fun σ7 r8 H locs hG hM => ?_)
      exact e_iret X hG dX10_script_121 hM
    · have hM := b_else hM c22
      refine lv_aload_n hx hb dX10_script_57 rfl (lv_at hl 0 rfl) ?_
      refine lv_iload_n hx hb dX10_script_58 rfl (lv_at hl 1 rfl) ?_
      refine g_callV_i (nA := 1) (o := M_X10_obey σ k x2) (As := [.int x2]) X.1 hG hL rfl rfl (fun _ _ h => C_X10_obey l E h hL) mw829 mw831 mw6 mw12 (gw_ok mw832 rfl) (by decide +kernel) rfl ⟨Nat.le_of_ble_eq_true rfl, Nat.le_of_ble_eq_true rfl⟩ hl.1 rfl (Nat.le_of_ble_eq_true rfl) ⟨Nat.le_refl _, Nat.le_refl _⟩ dX10_script_59 hM (fun σ9 r10 H locs hG hM => ?_)
      refine lv_istore_n (lv' := [(3, .int r10), (0, .ref (E.1 k)), (2, .int x2)]) hx hb dX10_script_62 rfl hl (by decide) rfl (fun ls hl => ?_)
      refine lv_iload_n hx hb dX10_script_63 rfl (lv_at hl 0 rfl) ?_
      refine lv_if_ge (tgt := 104) hx hb dX10_script_64 (by decide) (fun c21 => ?_) (fun c21 => ?_)
      · have hM := b_if hM c21
        obtain ⟨v11, ev11, hM⟩ := g_nm hM
        refine lv_iinc (v := v11) (lv' := [(2, .int v11), (3, .int r10), (0, .ref (E.1 k))]) hx hb dX10_script_104 hl (k := 2) rfl (by rw [ev11]; rfl) (by decide) rfl (fun ls hl => ?_)
        refine lv_goto (tgt := 46) hx hb dX10_script_107 (by decide) ?_
        exact ih σ9 v11 _ _ _ z hG (lv_sub hl [2, 0] rfl) hM
      · have hM := b_else hM c21
        refine lv_aload_n hx hb dX10_script_67 rfl (lv_at hl 1 rfl) ?_
        refine gt_10_1 X.1 hG hL mw300 dX10_script_68 ?_
        refine lv_aload_n hx hb dX10_script_71 rfl (lv_at hl 1 rfl) ?_
        refine gt_10_4 X.1 hG hL mw303 dX10_script_72 ?_
        refine g_callV_r (nA := 0) (o := M_X2_noted σ9 (k + 59)) (As := []) X.1 hG (lf_10_4 hL) rfl rfl (fun _ _ h => C_X2_noted l E h (lf_10_4 hL)) mw852 mw384 mw385 mw20 (gw_ok mw386 rfl) (by decide +kernel) rfl ⟨Nat.le_of_ble_eq_true rfl, Nat.le_of_ble_eq_true rfl⟩ hl.1 rfl (Nat.le_of_ble_eq_true rfl) ⟨Nat.le_refl _, Nat.le_refl _⟩ dX10_script_75 hM (fun σ12 r13 H locs hG hEr13 hM => ?_)
        have hNr13 := L_X2_noted ((lf_10_4 hL)) hEr13
        refine g_callV_v (nA := 1) (o := M_X7_take σ12 (k + 5) r13) (As := [.ref (E.1 r13)]) X.1 hG (lf_10_1 hL) rfl rfl (fun _ _ h => C_X7_take l E h (lf_10_1 hL) hNr13) mw853 mw388 mw389 mw15 (gw_ok mw390 rfl) (by decide +kernel) rfl ⟨Nat.le_of_ble_eq_true rfl, Nat.le_of_ble_eq_true rfl⟩ hl.1 rfl (Nat.le_of_ble_eq_true rfl) ⟨Nat.le_refl _, Nat.le_refl _⟩ dX10_script_78 hM (fun σ14 r15 H locs hG hM => ?_)
        refine lv_aload_n hx hb dX10_script_81 rfl (lv_at hl 1 rfl) ?_
        refine gt_10_0 X.1 hG hL mw299 dX10_script_82 ?_
        refine gtN_8_0 X.1 hG (lf_10_0 hL) mw230 dX10_script_85 ?_
        refine lv_iload_n hx hb dX10_script_88 rfl (lv_at hl 2 rfl) ?_
        refine lv_iload_n hx hb dX10_script_89 rfl (lv_at hl 0 rfl) ?_
        refine lv_bipush (v := (-3 : Int32)) hx hb dX10_script_90 (by decide) ?_
        refine lv_icmp_ne (tgt := 99) hx hb dX10_script_92 (by decide) (fun c20 => ?_) (fun c20 => ?_)
        · have hM := b_else hM c20
          refine lv_iconst (v := (0 : Int32)) hx hb dX10_script_99 (by decide) ?_
          refine g_callV_i (nA := 2) (o := M_X6_refuseOrder σ14 ((k + 1) + 1) x2 (0 : Int32)) (As := [.int x2, .int (0 : Int32)]) X.1 hG (lf_8_0 (lf_10_0 hL)) rfl rfl (fun _ _ h => C_X6_refuseOrder l E h (lf_8_0 (lf_10_0 hL))) mw854 mw855 mw856 mw14 (gw_ok mw857 rfl) (by decide +kernel) rfl ⟨Nat.le_of_ble_eq_true rfl, Nat.le_of_ble_eq_true rfl⟩ hl.1 rfl (Nat.le_of_ble_eq_true rfl) ⟨Nat.le_refl _, Nat.le_refl _⟩ dX10_script_100 hM (fun σ16 r17 H locs hG hM => ?_)
          exact e_iret X hG dX10_script_103 hM
        · have hM := b_if hM c20
          refine lv_iconst (v := (1 : Int32)) hx hb dX10_script_95 (by decide) ?_
          refine lv_goto (tgt := 100) hx hb dX10_script_96 (by decide) ?_
          refine g_callV_i (nA := 2) (o := M_X6_refuseOrder σ14 ((k + 1) + 1) x2 (1 : Int32)) (As := [.int x2, .int (1 : Int32)]) X.1 hG (lf_8_0 (lf_10_0 hL)) rfl rfl (fun _ _ h => C_X6_refuseOrder l E h (lf_8_0 (lf_10_0 hL))) mw854 mw855 mw856 mw14 (gw_ok mw857 rfl) (by decide +kernel) rfl ⟨Nat.le_of_ble_eq_true rfl, Nat.le_of_ble_eq_true rfl⟩ hl.1 rfl (Nat.le_of_ble_eq_true rfl) ⟨Nat.le_refl _, Nat.le_refl _⟩ dX10_script_100 hM (fun σ18 r19 H locs hG hM => ?_)
          exact e_iret X hG dX10_script_103 hM
set_option maxRecDepth 20000 in
set_option maxHeartbeats 4000000 in
theorem C_X10_script (l : Launch) (E : Ev) {σ σ' : St} {k : Nat} {r : Int32} (h : M_X10_script σ k = some (σ', r)) (hL : lay 10 k) : Mi l E yX10_script cX10_script 4 (some .int) 7 [.ref (E.1 k)] σ σ' r := by
  refine Mi_of (C := RX10) rfl (by decide) (Nat.le_of_ble_eq_true rfl) (z := (σ', r)) (fun p e s m below meth c ls X hG hl => ?_)
  have hx := X.1.1.1
  have hb := X.1.1.2.1
  have hM := h
  unfold M_X10_script at hM
  generalize (σ', r) = z at hM ⊢
  have hl : lv_has ls 4 [(0, .ref (E.1 k))] := hl
  refine lv_aload_n hx hb dX10_script_0 rfl (lv_at hl 0 rfl) ?_
  refine gt_10_7 X.1 hG hL mw306 dX10_script_1 ?_
  refine lv_aload_n hx hb dX10_script_4 rfl (lv_at hl 0 rfl) ?_
  refine gt_10_5 X.1 hG hL mw304 dX10_script_5 ?_
  refine g_callV_i (nA := 1) (o := M_X5_read σ (k + 245) (k + 241)) (As := [.ref (E.1 (k + 241))]) X.1 hG (lf_10_7 hL) rfl rfl (fun _ _ h => C_X5_read l E h (lf_10_7 hL) (lf_10_5 hL)) mw740 mw741 mw742 mw22 (gw_ok mw743 rfl) (by decide +kernel) rfl ⟨Nat.le_of_ble_eq_true rfl, Nat.le_of_ble_eq_true rfl⟩ hl.1 rfl (Nat.le_of_ble_eq_true rfl) ⟨Nat.le_refl _, Nat.le_refl _⟩ dX10_script_8 hM (fun σ1 r2 H locs hG hM => ?_)
  refine lv_istore_n (lv' := [(1, .int r2), (0, .ref (E.1 k))]) hx hb dX10_script_11 rfl hl (by decide) rfl (fun ls hl => ?_)
  refine lv_aload_n hx hb dX10_script_12 rfl (lv_at hl 1 rfl) ?_
  refine gt_10_5 X.1 hG hL mw304 dX10_script_13 ?_
  refine g_callV_v (nA := 0) (o := M_X4_makeEmpty σ1 (k + 241)) (As := []) X.1 hG (lf_10_5 hL) rfl rfl (fun _ _ h => C_X4_makeEmpty l E h (lf_10_5 hL)) mw825 mw826 mw827 mw21 (gw_ok mw828 rfl) (by decide +kernel) rfl ⟨Nat.le_of_ble_eq_true rfl, Nat.le_of_ble_eq_true rfl⟩ hl.1 rfl (Nat.le_of_ble_eq_true rfl) ⟨Nat.le_refl _, Nat.le_refl _⟩ dX10_script_16 hM (fun σ3 r4 H locs hG hM => ?_)
  refine lv_iload_n hx hb dX10_script_19 rfl (lv_at hl 0 rfl) ?_
  refine lv_bipush (v := (-4 : Int32)) hx hb dX10_script_20 (by decide) ?_
  refine lv_icmp_eq (tgt := 33) hx hb dX10_script_22 (by decide) (fun c24 => ?_) (fun c24 => ?_)
  · have hM := b_if hM c24
    refine lv_aload_n hx hb dX10_script_33 rfl (lv_at hl 1 rfl) ?_
    refine gt_10_4 X.1 hG hL mw303 dX10_script_34 ?_
    refine lv_aload_n hx hb dX10_script_37 rfl (lv_at hl 1 rfl) ?_
    refine gt_10_1 X.1 hG hL mw300 dX10_script_38 ?_
    refine g_callV_v (nA := 1) (o := M_X2_note σ3 (k + 59) (k + 5)) (As := [.ref (E.1 (k + 5))]) X.1 hG (lf_10_4 hL) rfl rfl (fun _ _ h => C_X2_note l E h (lf_10_4 hL) (lf_10_1 hL)) mw379 mw380 mw381 mw20 (gw_ok mw382 rfl) (by decide +kernel) rfl ⟨Nat.le_of_ble_eq_true rfl, Nat.le_of_ble_eq_true rfl⟩ hl.1 rfl (Nat.le_of_ble_eq_true rfl) ⟨Nat.le_refl _, Nat.le_refl _⟩ dX10_script_41 hM (fun σ5 r6 H locs hG hM => ?_)
    refine lv_iconst (v := (0 : Int32)) hx hb dX10_script_44 (by decide) ?_
    refine lv_istore_n (lv' := [(2, .int (0 : Int32)), (1, .int r2), (0, .ref (E.1 k))]) hx hb dX10_script_45 rfl hl (by decide) rfl (fun ls hl => ?_)
    exact w_X10_script_46 X hL FU σ5 (0 : Int32) _ _ _ z hG (lv_sub hl [2, 0] rfl) hM
  · have hM := b_else hM c24
    refine lv_aload_n hx hb dX10_script_25 rfl (lv_at hl 1 rfl) ?_
    refine lv_iload_n hx hb dX10_script_26 rfl (lv_at hl 0 rfl) ?_
    refine pt_10_9 X.1 hG hL mw308 dX10_script_27 hM (fun σ23 H locs hG hM => ?_)
    refine lv_bipush (v := (-2 : Int32)) hx hb dX10_script_30 (by decide) ?_
    exact e_iret X hG dX10_script_32 hM
