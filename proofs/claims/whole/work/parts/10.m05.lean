def M_X11_isNext (σ : St) (k : Nat) (p0 : Int32) : Option (St × Int32) := if (σ k 11) = (σ k 10) then some (σ, (0 : Int32)) else (bald σ (k + 7) (σ k 11) fun q1 => if q1 = p0 then (bput σ k 11 ((σ k 11) + (1 : Int32)) fun σ2 => some (σ2, (1 : Int32))) else some (σ, (0 : Int32)))
set_option maxRecDepth 20000 in
set_option maxHeartbeats 4000000 in
theorem C_X11_isNext (l : Launch) (E : Ev) {σ σ' : St} {k : Nat} {p0 : Int32} {r : Int32} (h : M_X11_isNext σ k p0 = some (σ', r)) (hL : lay 11 k) : Mi l E yX11_isNext cX11_isNext 2 (some .boolean) 1 [.ref (E.1 k), .int p0] σ σ' r := by
  refine Mi_of (C := RX11) rfl (by decide) (Nat.le_of_ble_eq_true rfl) (z := (σ', r)) (fun p e s m below meth c ls X hG hl => ?_)
  have hx := X.1.1.1
  have hb := X.1.1.2.1
  have hM := h
  unfold M_X11_isNext at hM
  generalize (σ', r) = z at hM ⊢
  have hl : lv_has ls 2 [(0, .ref (E.1 k)), (1, .int p0)] := hl
  refine lv_aload_n hx hb dX11_isNext_0 rfl (lv_at hl 0 rfl) ?_
  refine gt_11_11 X.1 hG hL mw1130 dX11_isNext_1 ?_
  refine lv_aload_n hx hb dX11_isNext_4 rfl (lv_at hl 0 rfl) ?_
  refine gt_11_10 X.1 hG hL mw1129 dX11_isNext_5 ?_
  refine lv_icmp_eq (tgt := 24) hx hb dX11_isNext_8 (by decide) (fun c4 => ?_) (fun c4 => ?_)
  · have hM := b_if hM c4
    refine lv_iconst (v := (0 : Int32)) hx hb dX11_isNext_24 (by decide) ?_
    exact e_zret X hG (by decide) dX11_isNext_25 hM
  · have hM := b_else hM c4
    refine lv_aload_n hx hb dX11_isNext_11 rfl (lv_at hl 0 rfl) ?_
    refine gt_11_9 X.1 hG hL mw1128 dX11_isNext_12 ?_
    refine lv_aload_n hx hb dX11_isNext_15 rfl (lv_at hl 0 rfl) ?_
    refine gt_11_11 X.1 hG hL mw1130 dX11_isNext_16 ?_
    refine g_cald X.1 hG (lf_11_9 hL) dX11_isNext_19 hM (fun q1 hM => ?_)
    refine lv_iload_n hx hb dX11_isNext_20 rfl (lv_at hl 1 rfl) ?_
    refine lv_icmp_eq (tgt := 26) hx hb dX11_isNext_21 (by decide) (fun c3 => ?_) (fun c3 => ?_)
    · have hM := b_if hM c3
      refine lv_aload_n hx hb dX11_isNext_26 rfl (lv_at hl 0 rfl) ?_
      refine lv_dup hx hb dX11_isNext_27 rfl ?_
      refine gt_11_11 X.1 hG hL mw1130 dX11_isNext_28 ?_
      refine lv_iconst (v := (1 : Int32)) hx hb dX11_isNext_31 (by decide) ?_
      refine lv_iadd hx hb dX11_isNext_32 ?_
      refine pt_11_11 X.1 hG hL mw1130 dX11_isNext_33 hM (fun σ2 H locs hG hM => ?_)
      refine lv_iconst (v := (1 : Int32)) hx hb dX11_isNext_36 (by decide) ?_
      exact e_zret X hG (by decide) dX11_isNext_37 hM
    · have hM := b_else hM c3
      refine lv_iconst (v := (0 : Int32)) hx hb dX11_isNext_24 (by decide) ?_
      exact e_zret X hG (by decide) dX11_isNext_25 hM
def B_X11_digits_9  : Nat → St → Nat → Int32 → Int32 → Int32 → Option (St × Int32)
  | 0, _, _, _, _, _ => none
  | n + 1, σ, k, x1, x2, x3 => if x2 ≤ x3 then (if x3 ≤ 0 then some (σ, (0 : Int32)) else some (σ, (1 : Int32))) else (if (σ k 10) ≤ (σ k 11) then (if x3 ≤ 0 then some (σ, (0 : Int32)) else some (σ, (1 : Int32))) else (bald σ (k + 7) (σ k 11) fun q4 => bcall (M_X11_in σ q4 (48 : Int32) (57 : Int32)) fun σ5 r6 => if r6 = 0 then (if x3 ≤ 0 then some (σ5, (0 : Int32)) else some (σ5, (1 : Int32))) else (bald σ5 (k + 8) x1 fun q8 => blet (σ5 k 11) fun v9 => bput σ5 k 11 (v9 + (1 : Int32)) fun σ10 => bald σ10 (k + 7) v9 fun q11 => bast σ10 (k + 8) x1 ((((10 : Int32) * q8) + q11) - (48 : Int32)) fun σ12 => blet (x3 + (1 : Int32)) fun v13 => B_X11_digits_9 n σ12 k x1 x2 v13)))
def M_X11_digits (σ : St) (k : Nat) (p0 p1 : Int32) : Option (St × Int32) := bast σ (k + 8) p0 (0 : Int32) fun σ1 => B_X11_digits_9 FU σ1 k p0 p1 (0 : Int32)
set_option maxRecDepth 20000 in
set_option maxHeartbeats 4000000 in
theorem w_X11_digits_9 {p : Program} {l : Launch} {e : Env} {s : State} {m : MethodId} {below : List Frame} {meth : Method} {c : Code} {args : Array Value} {E : Ev} {k : Nat} (X : Bx E p m meth c cX11_digits 4 (some .boolean) s args RX11) (hL : lay 11 k) : ∀ (n : Nat) (σ : St) (x1 x2 x3 : Int32) (H : Heap) (locs : List Loc) (ls : Array Slot) (z : St × Int32), GS E σ s.heap H locs → lv_has ls 4 [(0, .ref (E.1 k)), (1, .int x1), (2, .int x2), (3, .int x3)] → B_X11_digits_9 n σ k x1 x2 x3 = some z → W p l e (rmd 2) s m args below meth c H locs 0 0 (QI E z below args s) (F0 m 9 ls []) := by
  have hx := X.1.1.1
  have hb := X.1.1.2.1
  intro n
  induction n with
  | zero => intro σ x1 x2 x3 H locs ls z  hG hl hM; cases hM
  | succ n ih =>
    intro σ x1 x2 x3 H locs ls z  hG hl hM
    unfold B_X11_digits_9 at hM
    refine lv_iload_n hx hb dX11_digits_9 rfl (lv_at hl 3 rfl) ?_
    refine lv_iload_n hx hb dX11_digits_10 rfl (lv_at hl 2 rfl) ?_
    refine lv_icmp_ge (tgt := 85) hx hb dX11_digits_11 (by decide) (fun c16 => ?_) (fun c16 => ?_)
    · have hM := b_if hM c16
      refine lv_iload_n hx hb dX11_digits_85 rfl (lv_at hl 3 rfl) ?_
      refine lv_if_le (tgt := 93) hx hb dX11_digits_86 (by decide) (fun c2 => ?_) (fun c2 => ?_)
      · have hM := b_if hM c2
        refine lv_iconst (v := (0 : Int32)) hx hb dX11_digits_93 (by decide) ?_
        exact e_zret X hG (by decide) dX11_digits_94 hM
      · have hM := b_else hM c2
        refine lv_iconst (v := (1 : Int32)) hx hb dX11_digits_89 (by decide) ?_
        refine lv_goto (tgt := 94) hx hb dX11_digits_90 (by decide) ?_
        exact e_zret X hG (by decide) dX11_digits_94 hM
    · have hM := b_else hM c16
      refine lv_aload_n hx hb dX11_digits_14 rfl (lv_at hl 0 rfl) ?_
      refine gt_11_11 X.1 hG hL mw1130 dX11_digits_15 ?_
      refine lv_aload_n hx hb dX11_digits_18 rfl (lv_at hl 0 rfl) ?_
      refine gt_11_10 X.1 hG hL mw1129 dX11_digits_19 ?_
      refine lv_icmp_ge (tgt := 85) hx hb dX11_digits_22 (by decide) (fun c15 => ?_) (fun c15 => ?_)
      · have hM := b_if hM c15
        refine lv_iload_n hx hb dX11_digits_85 rfl (lv_at hl 3 rfl) ?_
        refine lv_if_le (tgt := 93) hx hb dX11_digits_86 (by decide) (fun c3 => ?_) (fun c3 => ?_)
        · have hM := b_if hM c3
          refine lv_iconst (v := (0 : Int32)) hx hb dX11_digits_93 (by decide) ?_
          exact e_zret X hG (by decide) dX11_digits_94 hM
        · have hM := b_else hM c3
          refine lv_iconst (v := (1 : Int32)) hx hb dX11_digits_89 (by decide) ?_
          refine lv_goto (tgt := 94) hx hb dX11_digits_90 (by decide) ?_
          exact e_zret X hG (by decide) dX11_digits_94 hM
      · have hM := b_else hM c15
        refine lv_aload_n hx hb dX11_digits_25 rfl (lv_at hl 0 rfl) ?_
        refine gt_11_9 X.1 hG hL mw1128 dX11_digits_26 ?_
        refine lv_aload_n hx hb dX11_digits_29 rfl (lv_at hl 0 rfl) ?_
        refine gt_11_11 X.1 hG hL mw1130 dX11_digits_30 ?_
        refine g_cald X.1 hG (lf_11_9 hL) dX11_digits_33 hM (fun q4 hM => ?_)
        refine lv_bipush (v := (48 : Int32)) hx hb dX11_digits_34 (by decide) ?_
        refine lv_bipush (v := (57 : Int32)) hx hb dX11_digits_36 (by decide) ?_
        refine g_callS_i (nA := 3) (o := M_X11_in σ q4 (48 : Int32) (57 : Int32)) (As := [.int q4, .int (48 : Int32), .int (57 : Int32)]) X.1 hG (fun _ _ h => C_X11_in l E h ) mw1182 mw1183 mw62 (gw_ok mw1184 rfl) (by decide +kernel) rfl ⟨Nat.le_of_ble_eq_true rfl, Nat.le_of_ble_eq_true rfl⟩ hl.1 rfl (Nat.le_of_ble_eq_true rfl) ⟨Nat.le_refl _, Nat.le_refl _⟩ dX11_digits_38 hM (fun σ5 r6 H locs hG hM => ?_)
        refine lv_if_eq (tgt := 85) hx hb dX11_digits_41 (by decide) (fun c14 => ?_) (fun c14 => ?_)
        · have hM := b_if hM c14
          refine lv_iload_n hx hb dX11_digits_85 rfl (lv_at hl 3 rfl) ?_
          refine lv_if_le (tgt := 93) hx hb dX11_digits_86 (by decide) (fun c7 => ?_) (fun c7 => ?_)
          · have hM := b_if hM c7
            refine lv_iconst (v := (0 : Int32)) hx hb dX11_digits_93 (by decide) ?_
            exact e_zret X hG (by decide) dX11_digits_94 hM
          · have hM := b_else hM c7
            refine lv_iconst (v := (1 : Int32)) hx hb dX11_digits_89 (by decide) ?_
            refine lv_goto (tgt := 94) hx hb dX11_digits_90 (by decide) ?_
            exact e_zret X hG (by decide) dX11_digits_94 hM
        · have hM := b_else hM c14
          refine lv_aload_n hx hb dX11_digits_44 rfl (lv_at hl 0 rfl) ?_
          refine gt_11_13 X.1 hG hL mw1132 dX11_digits_45 ?_
          refine lv_iload_n hx hb dX11_digits_48 rfl (lv_at hl 1 rfl) ?_
          refine lv_bipush (v := (10 : Int32)) hx hb dX11_digits_49 (by decide) ?_
          refine lv_aload_n hx hb dX11_digits_51 rfl (lv_at hl 0 rfl) ?_
          refine gt_11_13 X.1 hG hL mw1132 dX11_digits_52 ?_
          refine lv_iload_n hx hb dX11_digits_55 rfl (lv_at hl 1 rfl) ?_
          refine g_ald X.1 hG (lf_11_13 hL) dX11_digits_56 hM (fun q8 hM => ?_)
          refine lv_imul hx hb dX11_digits_57 ?_
          refine lv_aload_n hx hb dX11_digits_58 rfl (lv_at hl 0 rfl) ?_
          refine gt_11_9 X.1 hG hL mw1128 dX11_digits_59 ?_
          refine lv_aload_n hx hb dX11_digits_62 rfl (lv_at hl 0 rfl) ?_
          refine lv_dup hx hb dX11_digits_63 rfl ?_
          refine gt_11_11 X.1 hG hL mw1130 dX11_digits_64 ?_
          refine g_name hM (fun v9 hM => ?_)
          refine lv_dup_x1 hx hb dX11_digits_67 rfl rfl ?_
          refine lv_iconst (v := (1 : Int32)) hx hb dX11_digits_68 (by decide) ?_
          refine lv_iadd hx hb dX11_digits_69 ?_
          refine pt_11_11 X.1 hG hL mw1130 dX11_digits_70 hM (fun σ10 H locs hG hM => ?_)
          refine g_cald X.1 hG (lf_11_9 hL) dX11_digits_73 hM (fun q11 hM => ?_)
          refine lv_iadd hx hb dX11_digits_74 ?_
          refine lv_bipush (v := (48 : Int32)) hx hb dX11_digits_75 (by decide) ?_
          refine lv_isub hx hb dX11_digits_77 ?_
          refine g_ast X.1 hG (lf_11_13 hL) dX11_digits_78 hM (fun σ12 H locs hG hM => ?_)
          obtain ⟨v13, ev13, hM⟩ := g_nm hM
          refine lv_iinc (v := v13) (lv' := [(3, .int v13), (0, .ref (E.1 k)), (1, .int x1), (2, .int x2)]) hx hb dX11_digits_79 hl (k := 3) rfl (by rw [ev13]; rfl) (by decide) rfl (fun ls hl => ?_)
          refine lv_goto (tgt := 9) hx hb dX11_digits_82 (by decide) ?_
          exact ih σ12 x1 x2 v13 _ _ _ z hG (lv_sub hl [1, 2, 3, 0] rfl) hM
set_option maxRecDepth 20000 in
set_option maxHeartbeats 4000000 in
theorem C_X11_digits (l : Launch) (E : Ev) {σ σ' : St} {k : Nat} {p0 : Int32} {p1 : Int32} {r : Int32} (h : M_X11_digits σ k p0 p1 = some (σ', r)) (hL : lay 11 k) : Mi l E yX11_digits cX11_digits 4 (some .boolean) 2 [.ref (E.1 k), .int p0, .int p1] σ σ' r := by
  refine Mi_of (C := RX11) rfl (by decide) (Nat.le_of_ble_eq_true rfl) (z := (σ', r)) (fun p e s m below meth c ls X hG hl => ?_)
  have hx := X.1.1.1
  have hb := X.1.1.2.1
  have hM := h
  unfold M_X11_digits at hM
  generalize (σ', r) = z at hM ⊢
  have hl : lv_has ls 4 [(0, .ref (E.1 k)), (1, .int p0), (2, .int p1)] := hl
  refine lv_iconst (v := (0 : Int32)) hx hb dX11_digits_0 (by decide) ?_
  refine lv_istore_n (lv' := [(3, .int (0 : Int32)), (0, .ref (E.1 k)), (1, .int p0), (2, .int p1)]) hx hb dX11_digits_1 rfl hl (by decide) rfl (fun ls hl => ?_)
  refine lv_aload_n hx hb dX11_digits_2 rfl (lv_at hl 1 rfl) ?_
  refine gt_11_13 X.1 hG hL mw1132 dX11_digits_3 ?_
  refine lv_iload_n hx hb dX11_digits_6 rfl (lv_at hl 2 rfl) ?_
  refine lv_iconst (v := (0 : Int32)) hx hb dX11_digits_7 (by decide) ?_
  refine g_ast X.1 hG (lf_11_13 hL) dX11_digits_8 hM (fun σ1 H locs hG hM => ?_)
  exact w_X11_digits_9 X hL FU σ1 p0 p1 (0 : Int32) _ _ _ z hG (lv_sub hl [1, 2, 3, 0] rfl) hM
def M_X11_isOrder (σ : St) (k : Nat)  : Option (St × Int32) := if (σ k 11) = (σ k 10) then some (σ, (0 : Int32)) else (bald σ (k + 7) (σ k 11) fun q1 => bchk (okC q1) (bput σ k 12 q1 fun σ2 => if (σ2 k 12).toInt < 98 ∨ 117 < (σ2 k 12).toInt then some (σ2, (0 : Int32)) else if (σ2 k 12).toInt = 98 then (bput σ2 k 11 ((σ2 k 11) + (1 : Int32)) fun σ5 => bcall (M_X11_digits σ5 k (0 : Int32) (1 : Int32)) fun σ6 r7 => if r7 = 0 then some (σ6, (0 : Int32)) else (bcall (M_X11_isNext σ6 k (42 : Int32)) fun σ8 r9 => if r9 = 0 then some (σ8, (0 : Int32)) else (bcall (M_X11_digits σ8 k (1 : Int32) (1 : Int32)) fun σ10 r11 => if r11 = 0 then some (σ10, (0 : Int32)) else (bcall (M_X11_isNext σ10 k (58 : Int32)) fun σ12 r13 => if r13 = 0 then some (σ12, (0 : Int32)) else (bcall (M_X11_digits σ12 k (2 : Int32) (2 : Int32)) fun σ14 r15 => if r15 = 0 then some (σ14, (0 : Int32)) else some (σ14, (1 : Int32))))))) else if (σ2 k 12).toInt = 99 then some (σ2, (0 : Int32)) else if (σ2 k 12).toInt = 100 then (bput σ2 k 11 ((σ2 k 11) + (1 : Int32)) fun σ23 => bcall (M_X11_digits σ23 k (0 : Int32) (1 : Int32)) fun σ24 r25 => bchk (okZ r25) (some (σ24, r25))) else if (σ2 k 12).toInt = 101 then some (σ2, (0 : Int32)) else if (σ2 k 12).toInt = 102 then some (σ2, (0 : Int32)) else if (σ2 k 12).toInt = 103 then (bput σ2 k 11 ((σ2 k 11) + (1 : Int32)) fun σ30 => bcall (M_X11_digits σ30 k (0 : Int32) (2 : Int32)) fun σ31 r32 => bchk (okZ r32) (some (σ31, r32))) else if (σ2 k 12).toInt = 104 then some (σ2, (0 : Int32)) else if (σ2 k 12).toInt = 105 then (bput σ2 k 11 ((σ2 k 11) + (1 : Int32)) fun σ36 => bcall (M_X11_digits σ36 k (0 : Int32) (1 : Int32)) fun σ37 r38 => if r38 = 0 then some (σ37, (0 : Int32)) else (bcall (M_X11_isNext σ37 k (64 : Int32)) fun σ39 r40 => if r40 = 0 then some (σ39, (0 : Int32)) else (bcall (M_X11_digits σ39 k (1 : Int32) (1 : Int32)) fun σ41 r42 => if r42 = 0 then some (σ41, (0 : Int32)) else some (σ41, (1 : Int32))))) else if (σ2 k 12).toInt = 106 then some (σ2, (0 : Int32)) else if (σ2 k 12).toInt = 107 then some (σ2, (0 : Int32)) else if (σ2 k 12).toInt = 108 then (bput σ2 k 11 ((σ2 k 11) + (1 : Int32)) fun σ49 => bcall (M_X11_digits σ49 k (0 : Int32) (1 : Int32)) fun σ50 r51 => if r51 = 0 then some (σ50, (0 : Int32)) else (bcall (M_X11_isNext σ50 k (42 : Int32)) fun σ52 r53 => if r53 = 0 then some (σ52, (0 : Int32)) else (bcall (M_X11_digits σ52 k (1 : Int32) (1 : Int32)) fun σ54 r55 => if r55 = 0 then some (σ54, (0 : Int32)) else some (σ54, (1 : Int32))))) else if (σ2 k 12).toInt = 109 then some (σ2, (0 : Int32)) else if (σ2 k 12).toInt = 110 then (bput σ2 k 11 ((σ2 k 11) + (1 : Int32)) fun σ61 => bcall (M_X11_digits σ61 k (0 : Int32) (2 : Int32)) fun σ62 r63 => bchk (okZ r63) (some (σ62, r63))) else if (σ2 k 12).toInt = 111 then some (σ2, (0 : Int32)) else if (σ2 k 12).toInt = 112 then some (σ2, (0 : Int32)) else if (σ2 k 12).toInt = 113 then some (σ2, (0 : Int32)) else if (σ2 k 12).toInt = 114 then some (σ2, (0 : Int32)) else if (σ2 k 12).toInt = 115 then some (σ2, (0 : Int32)) else if (σ2 k 12).toInt = 116 then (bput σ2 k 11 ((σ2 k 11) + (1 : Int32)) fun σ71 => bcall (M_X11_digits σ71 k (0 : Int32) (1 : Int32)) fun σ72 r73 => bchk (okZ r73) (some (σ72, r73))) else if (σ2 k 12).toInt = 117 then (bput σ2 k 11 ((σ2 k 11) + (1 : Int32)) fun σ76 => bcall (M_X11_digits σ76 k (0 : Int32) (1 : Int32)) fun σ77 r78 => if r78 = 0 then some (σ77, (0 : Int32)) else (bcall (M_X11_isNext σ77 k (64 : Int32)) fun σ79 r80 => if r80 = 0 then some (σ79, (0 : Int32)) else (bcall (M_X11_digits σ79 k (1 : Int32) (1 : Int32)) fun σ81 r82 => if r82 = 0 then some (σ81, (0 : Int32)) else some (σ81, (1 : Int32))))) else none))
set_option maxRecDepth 20000 in
set_option maxHeartbeats 4000000 in
theorem C_X11_isOrder (l : Launch) (E : Ev) {σ σ' : St} {k : Nat} {r : Int32} (h : M_X11_isOrder σ k = some (σ', r)) (hL : lay 11 k) : Mi l E yX11_isOrder cX11_isOrder 1 (some .boolean) 3 [.ref (E.1 k)] σ σ' r := by
  refine Mi_of (C := RX11) rfl (by decide) (Nat.le_of_ble_eq_true rfl) (z := (σ', r)) (fun p e s m below meth c ls X hG hl => ?_)
  have hx := X.1.1.1
  have hb := X.1.1.2.1
  have hM := h
  unfold M_X11_isOrder at hM
  generalize (σ', r) = z at hM ⊢
  have hl : lv_has ls 1 [(0, .ref (E.1 k))] := hl
  refine lv_aload_n hx hb dX11_isOrder_0 rfl (lv_at hl 0 rfl) ?_
  refine gt_11_11 X.1 hG hL mw1130 dX11_isOrder_1 ?_
  refine lv_aload_n hx hb dX11_isOrder_4 rfl (lv_at hl 0 rfl) ?_
  refine gt_11_10 X.1 hG hL mw1129 dX11_isOrder_5 ?_
  refine lv_icmp_ne (tgt := 13) hx hb dX11_isOrder_8 (by decide) (fun c87 => ?_) (fun c87 => ?_)
  · have hM := b_else hM c87
    refine lv_aload_n hx hb dX11_isOrder_13 rfl (lv_at hl 0 rfl) ?_
    refine lv_aload_n hx hb dX11_isOrder_14 rfl (lv_at hl 0 rfl) ?_
    refine gt_11_9 X.1 hG hL mw1128 dX11_isOrder_15 ?_
    refine lv_aload_n hx hb dX11_isOrder_18 rfl (lv_at hl 0 rfl) ?_
    refine gt_11_11 X.1 hG hL mw1130 dX11_isOrder_19 ?_
    refine g_cald X.1 hG (lf_11_9 hL) dX11_isOrder_22 hM (fun q1 hM => ?_)
    obtain ⟨c86, hM⟩ := b_chk hM
    refine pt_11_12 X.1 hG hL mw1131 (okC_n c86) dX11_isOrder_23 hM (fun σ2 H locs hG hM => ?_)
    refine lv_aload_n hx hb dX11_isOrder_26 rfl (lv_at hl 0 rfl) ?_
    refine gt_11_12 X.1 hG hL mw1131 dX11_isOrder_27 ?_
    by_cases c3 : (σ2 k 12).toInt < 98 ∨ 117 < (σ2 k 12).toInt
    · have hM := b_if hM c3
      refine lv_tableOut (tgt := 305) hx hb dX11_isOrder_30 c3 (by decide) ?_
      refine lv_iconst (v := (0 : Int32)) hx hb dX11_isOrder_305 (by decide) ?_
      exact e_zret X hG (by decide) dX11_isOrder_306 hM
    · have hM := b_else hM c3
      by_cases c4 : (σ2 k 12).toInt = 98
      · have hM := b_if hM c4
        refine lv_tableIn (tgt := 124) hx hb dX11_isOrder_30 (fun h => c3 (Or.inl h)) (fun h => c3 (Or.inr h)) (by rw [c4]; rfl) (by decide) ?_
        refine lv_aload_n hx hb dX11_isOrder_124 rfl (lv_at hl 0 rfl) ?_
        refine lv_dup hx hb dX11_isOrder_125 rfl ?_
        refine gt_11_11 X.1 hG hL mw1130 dX11_isOrder_126 ?_
        refine lv_iconst (v := (1 : Int32)) hx hb dX11_isOrder_129 (by decide) ?_
        refine lv_iadd hx hb dX11_isOrder_130 ?_
        refine pt_11_11 X.1 hG hL mw1130 dX11_isOrder_131 hM (fun σ5 H locs hG hM => ?_)
        refine lv_aload_n hx hb dX11_isOrder_134 rfl (lv_at hl 0 rfl) ?_
        refine lv_iconst (v := (0 : Int32)) hx hb dX11_isOrder_135 (by decide) ?_
        refine lv_iconst (v := (1 : Int32)) hx hb dX11_isOrder_136 (by decide) ?_
        refine g_callV_i (nA := 2) (o := M_X11_digits σ5 k (0 : Int32) (1 : Int32)) (As := [.int (0 : Int32), .int (1 : Int32)]) X.1 hG hL rfl rfl (fun _ _ h => C_X11_digits l E h hL) mw1352 mw1354 mw40 mw62 (gw_ok mw1355 rfl) (by decide +kernel) rfl ⟨Nat.le_of_ble_eq_true rfl, Nat.le_of_ble_eq_true rfl⟩ hl.1 rfl (Nat.le_of_ble_eq_true rfl) ⟨Nat.le_refl _, Nat.le_refl _⟩ dX11_isOrder_137 hM (fun σ6 r7 H locs hG hM => ?_)
        refine lv_if_eq (tgt := 183) hx hb dX11_isOrder_140 (by decide) (fun c20 => ?_) (fun c20 => ?_)
        · have hM := b_if hM c20
          refine lv_iconst (v := (0 : Int32)) hx hb dX11_isOrder_183 (by decide) ?_
          exact e_zret X hG (by decide) dX11_isOrder_184 hM
        · have hM := b_else hM c20
          refine lv_aload_n hx hb dX11_isOrder_143 rfl (lv_at hl 0 rfl) ?_
          refine lv_bipush (v := (42 : Int32)) hx hb dX11_isOrder_144 (by decide) ?_
          refine g_callV_i (nA := 1) (o := M_X11_isNext σ6 k (42 : Int32)) (As := [.int (42 : Int32)]) X.1 hG hL rfl rfl (fun _ _ h => C_X11_isNext l E h hL) mw1356 mw1358 mw41 mw62 (gw_ok mw1359 rfl) (by decide +kernel) rfl ⟨Nat.le_of_ble_eq_true rfl, Nat.le_of_ble_eq_true rfl⟩ hl.1 rfl (Nat.le_of_ble_eq_true rfl) ⟨Nat.le_refl _, Nat.le_refl _⟩ dX11_isOrder_146 hM (fun σ8 r9 H locs hG hM => ?_)
          refine lv_if_eq (tgt := 183) hx hb dX11_isOrder_149 (by decide) (fun c19 => ?_) (fun c19 => ?_)
          · have hM := b_if hM c19
            refine lv_iconst (v := (0 : Int32)) hx hb dX11_isOrder_183 (by decide) ?_
            exact e_zret X hG (by decide) dX11_isOrder_184 hM
          · have hM := b_else hM c19
            refine lv_aload_n hx hb dX11_isOrder_152 rfl (lv_at hl 0 rfl) ?_
            refine lv_iconst (v := (1 : Int32)) hx hb dX11_isOrder_153 (by decide) ?_
            refine lv_iconst (v := (1 : Int32)) hx hb dX11_isOrder_154 (by decide) ?_
            refine g_callV_i (nA := 2) (o := M_X11_digits σ8 k (1 : Int32) (1 : Int32)) (As := [.int (1 : Int32), .int (1 : Int32)]) X.1 hG hL rfl rfl (fun _ _ h => C_X11_digits l E h hL) mw1352 mw1354 mw40 mw62 (gw_ok mw1355 rfl) (by decide +kernel) rfl ⟨Nat.le_of_ble_eq_true rfl, Nat.le_of_ble_eq_true rfl⟩ hl.1 rfl (Nat.le_of_ble_eq_true rfl) ⟨Nat.le_refl _, Nat.le_refl _⟩ dX11_isOrder_155 hM (fun σ10 r11 H locs hG hM => ?_)
            refine lv_if_eq (tgt := 183) hx hb dX11_isOrder_158 (by decide) (fun c18 => ?_) (fun c18 => ?_)
            · have hM := b_if hM c18
              refine lv_iconst (v := (0 : Int32)) hx hb dX11_isOrder_183 (by decide) ?_
              exact e_zret X hG (by decide) dX11_isOrder_184 hM
            · have hM := b_else hM c18
              refine lv_aload_n hx hb dX11_isOrder_161 rfl (lv_at hl 0 rfl) ?_
              refine lv_bipush (v := (58 : Int32)) hx hb dX11_isOrder_162 (by decide) ?_
              refine g_callV_i (nA := 1) (o := M_X11_isNext σ10 k (58 : Int32)) (As := [.int (58 : Int32)]) X.1 hG hL rfl rfl (fun _ _ h => C_X11_isNext l E h hL) mw1356 mw1358 mw41 mw62 (gw_ok mw1359 rfl) (by decide +kernel) rfl ⟨Nat.le_of_ble_eq_true rfl, Nat.le_of_ble_eq_true rfl⟩ hl.1 rfl (Nat.le_of_ble_eq_true rfl) ⟨Nat.le_refl _, Nat.le_refl _⟩ dX11_isOrder_164 hM (fun σ12 r13 H locs hG hM => ?_)
              refine lv_if_eq (tgt := 183) hx hb dX11_isOrder_167 (by decide) (fun c17 => ?_) (fun c17 => ?_)
              · have hM := b_if hM c17
                refine lv_iconst (v := (0 : Int32)) hx hb dX11_isOrder_183 (by decide) ?_
                exact e_zret X hG (by decide) dX11_isOrder_184 hM
              · have hM := b_else hM c17
                refine lv_aload_n hx hb dX11_isOrder_170 rfl (lv_at hl 0 rfl) ?_
                refine lv_iconst (v := (2 : Int32)) hx hb dX11_isOrder_171 (by decide) ?_
                refine lv_iconst (v := (2 : Int32)) hx hb dX11_isOrder_172 (by decide) ?_
                refine g_callV_i (nA := 2) (o := M_X11_digits σ12 k (2 : Int32) (2 : Int32)) (As := [.int (2 : Int32), .int (2 : Int32)]) X.1 hG hL rfl rfl (fun _ _ h => C_X11_digits l E h hL) mw1352 mw1354 mw40 mw62 (gw_ok mw1355 rfl) (by decide +kernel) rfl ⟨Nat.le_of_ble_eq_true rfl, Nat.le_of_ble_eq_true rfl⟩ hl.1 rfl (Nat.le_of_ble_eq_true rfl) ⟨Nat.le_refl _, Nat.le_refl _⟩ dX11_isOrder_173 hM (fun σ14 r15 H locs hG hM => ?_)
                refine lv_if_eq (tgt := 183) hx hb dX11_isOrder_176 (by decide) (fun c16 => ?_) (fun c16 => ?_)
                · have hM := b_if hM c16
                  refine lv_iconst (v := (0 : Int32)) hx hb dX11_isOrder_183 (by decide) ?_
                  exact e_zret X hG (by decide) dX11_isOrder_184 hM
                · have hM := b_else hM c16
                  refine lv_iconst (v := (1 : Int32)) hx hb dX11_isOrder_179 (by decide) ?_
                  refine lv_goto (tgt := 184) hx hb dX11_isOrder_180 (by decide) ?_
                  exact e_zret X hG (by decide) dX11_isOrder_184 hM
      have hM := b_else hM c4
      by_cases c21 : (σ2 k 12).toInt = 99
      · have hM := b_if hM c21
        refine lv_tableIn (tgt := 305) hx hb dX11_isOrder_30 (fun h => c3 (Or.inl h)) (fun h => c3 (Or.inr h)) (by rw [c21]; rfl) (by decide) ?_
        refine lv_iconst (v := (0 : Int32)) hx hb dX11_isOrder_305 (by decide) ?_
        exact e_zret X hG (by decide) dX11_isOrder_306 hM
      have hM := b_else hM c21
      by_cases c22 : (σ2 k 12).toInt = 100
      · have hM := b_if hM c22
        refine lv_tableIn (tgt := 185) hx hb dX11_isOrder_30 (fun h => c3 (Or.inl h)) (fun h => c3 (Or.inr h)) (by rw [c22]; rfl) (by decide) ?_
        refine lv_aload_n hx hb dX11_isOrder_185 rfl (lv_at hl 0 rfl) ?_
        refine lv_dup hx hb dX11_isOrder_186 rfl ?_
        refine gt_11_11 X.1 hG hL mw1130 dX11_isOrder_187 ?_
        refine lv_iconst (v := (1 : Int32)) hx hb dX11_isOrder_190 (by decide) ?_
        refine lv_iadd hx hb dX11_isOrder_191 ?_
        refine pt_11_11 X.1 hG hL mw1130 dX11_isOrder_192 hM (fun σ23 H locs hG hM => ?_)
        refine lv_aload_n hx hb dX11_isOrder_195 rfl (lv_at hl 0 rfl) ?_
        refine lv_iconst (v := (0 : Int32)) hx hb dX11_isOrder_196 (by decide) ?_
        refine lv_iconst (v := (1 : Int32)) hx hb dX11_isOrder_197 (by decide) ?_
        refine g_callV_i (nA := 2) (o := M_X11_digits σ23 k (0 : Int32) (1 : Int32)) (As := [.int (0 : Int32), .int (1 : Int32)]) X.1 hG hL rfl rfl (fun _ _ h => C_X11_digits l E h hL) mw1352 mw1354 mw40 mw62 (gw_ok mw1355 rfl) (by decide +kernel) rfl ⟨Nat.le_of_ble_eq_true rfl, Nat.le_of_ble_eq_true rfl⟩ hl.1 rfl (Nat.le_of_ble_eq_true rfl) ⟨Nat.le_refl _, Nat.le_refl _⟩ dX11_isOrder_198 hM (fun σ24 r25 H locs hG hM => ?_)
        obtain ⟨c26, hM⟩ := b_chk hM
        exact e_zret X hG (okZ_n c26).1 dX11_isOrder_201 hM
      have hM := b_else hM c22
      by_cases c27 : (σ2 k 12).toInt = 101
      · have hM := b_if hM c27
        refine lv_tableIn (tgt := 305) hx hb dX11_isOrder_30 (fun h => c3 (Or.inl h)) (fun h => c3 (Or.inr h)) (by rw [c27]; rfl) (by decide) ?_
        refine lv_iconst (v := (0 : Int32)) hx hb dX11_isOrder_305 (by decide) ?_
        exact e_zret X hG (by decide) dX11_isOrder_306 hM
      have hM := b_else hM c27
      by_cases c28 : (σ2 k 12).toInt = 102
      · have hM := b_if hM c28
        refine lv_tableIn (tgt := 305) hx hb dX11_isOrder_30 (fun h => c3 (Or.inl h)) (fun h => c3 (Or.inr h)) (by rw [c28]; rfl) (by decide) ?_
        refine lv_iconst (v := (0 : Int32)) hx hb dX11_isOrder_305 (by decide) ?_
        exact e_zret X hG (by decide) dX11_isOrder_306 hM
      have hM := b_else hM c28
      by_cases c29 : (σ2 k 12).toInt = 103
      · have hM := b_if hM c29
        refine lv_tableIn (tgt := 288) hx hb dX11_isOrder_30 (fun h => c3 (Or.inl h)) (fun h => c3 (Or.inr h)) (by rw [c29]; rfl) (by decide) ?_
        refine lv_aload_n hx hb dX11_isOrder_288 rfl (lv_at hl 0 rfl) ?_
        refine lv_dup hx hb dX11_isOrder_289 rfl ?_
        refine gt_11_11 X.1 hG hL mw1130 dX11_isOrder_290 ?_
        refine lv_iconst (v := (1 : Int32)) hx hb dX11_isOrder_293 (by decide) ?_
        refine lv_iadd hx hb dX11_isOrder_294 ?_
        refine pt_11_11 X.1 hG hL mw1130 dX11_isOrder_295 hM (fun σ30 H locs hG hM => ?_)
        refine lv_aload_n hx hb dX11_isOrder_298 rfl (lv_at hl 0 rfl) ?_
        refine lv_iconst (v := (0 : Int32)) hx hb dX11_isOrder_299 (by decide) ?_
        refine lv_iconst (v := (2 : Int32)) hx hb dX11_isOrder_300 (by decide) ?_
        refine g_callV_i (nA := 2) (o := M_X11_digits σ30 k (0 : Int32) (2 : Int32)) (As := [.int (0 : Int32), .int (2 : Int32)]) X.1 hG hL rfl rfl (fun _ _ h => C_X11_digits l E h hL) mw1352 mw1354 mw40 mw62 (gw_ok mw1355 rfl) (by decide +kernel) rfl ⟨Nat.le_of_ble_eq_true rfl, Nat.le_of_ble_eq_true rfl⟩ hl.1 rfl (Nat.le_of_ble_eq_true rfl) ⟨Nat.le_refl _, Nat.le_refl _⟩ dX11_isOrder_301 hM (fun σ31 r32 H locs hG hM => ?_)
        obtain ⟨c33, hM⟩ := b_chk hM
        exact e_zret X hG (okZ_n c33).1 dX11_isOrder_304 hM
      have hM := b_else hM c29
      by_cases c34 : (σ2 k 12).toInt = 104
      · have hM := b_if hM c34
        refine lv_tableIn (tgt := 305) hx hb dX11_isOrder_30 (fun h => c3 (Or.inl h)) (fun h => c3 (Or.inr h)) (by rw [c34]; rfl) (by decide) ?_
        refine lv_iconst (v := (0 : Int32)) hx hb dX11_isOrder_305 (by decide) ?_
        exact e_zret X hG (by decide) dX11_isOrder_306 hM
      have hM := b_else hM c34
      by_cases c35 : (σ2 k 12).toInt = 105
      · have hM := b_if hM c35
        refine lv_tableIn (tgt := 202) hx hb dX11_isOrder_30 (fun h => c3 (Or.inl h)) (fun h => c3 (Or.inr h)) (by rw [c35]; rfl) (by decide) ?_
        refine lv_aload_n hx hb dX11_isOrder_202 rfl (lv_at hl 0 rfl) ?_
        refine lv_dup hx hb dX11_isOrder_203 rfl ?_
        refine gt_11_11 X.1 hG hL mw1130 dX11_isOrder_204 ?_
        refine lv_iconst (v := (1 : Int32)) hx hb dX11_isOrder_207 (by decide) ?_
        refine lv_iadd hx hb dX11_isOrder_208 ?_
        refine pt_11_11 X.1 hG hL mw1130 dX11_isOrder_209 hM (fun σ36 H locs hG hM => ?_)
        refine lv_aload_n hx hb dX11_isOrder_212 rfl (lv_at hl 0 rfl) ?_
        refine lv_iconst (v := (0 : Int32)) hx hb dX11_isOrder_213 (by decide) ?_
        refine lv_iconst (v := (1 : Int32)) hx hb dX11_isOrder_214 (by decide) ?_
        refine g_callV_i (nA := 2) (o := M_X11_digits σ36 k (0 : Int32) (1 : Int32)) (As := [.int (0 : Int32), .int (1 : Int32)]) X.1 hG hL rfl rfl (fun _ _ h => C_X11_digits l E h hL) mw1352 mw1354 mw40 mw62 (gw_ok mw1355 rfl) (by decide +kernel) rfl ⟨Nat.le_of_ble_eq_true rfl, Nat.le_of_ble_eq_true rfl⟩ hl.1 rfl (Nat.le_of_ble_eq_true rfl) ⟨Nat.le_refl _, Nat.le_refl _⟩ dX11_isOrder_215 hM (fun σ37 r38 H locs hG hM => ?_)
        refine lv_if_eq (tgt := 243) hx hb dX11_isOrder_218 (by decide) (fun c45 => ?_) (fun c45 => ?_)
        · have hM := b_if hM c45
          refine lv_iconst (v := (0 : Int32)) hx hb dX11_isOrder_243 (by decide) ?_
          exact e_zret X hG (by decide) dX11_isOrder_244 hM
        · have hM := b_else hM c45
          refine lv_aload_n hx hb dX11_isOrder_221 rfl (lv_at hl 0 rfl) ?_
          refine lv_bipush (v := (64 : Int32)) hx hb dX11_isOrder_222 (by decide) ?_
          refine g_callV_i (nA := 1) (o := M_X11_isNext σ37 k (64 : Int32)) (As := [.int (64 : Int32)]) X.1 hG hL rfl rfl (fun _ _ h => C_X11_isNext l E h hL) mw1356 mw1358 mw41 mw62 (gw_ok mw1359 rfl) (by decide +kernel) rfl ⟨Nat.le_of_ble_eq_true rfl, Nat.le_of_ble_eq_true rfl⟩ hl.1 rfl (Nat.le_of_ble_eq_true rfl) ⟨Nat.le_refl _, Nat.le_refl _⟩ dX11_isOrder_224 hM (fun σ39 r40 H locs hG hM => ?_)
          refine lv_if_eq (tgt := 243) hx hb dX11_isOrder_227 (by decide) (fun c44 => ?_) (fun c44 => ?_)
          · have hM := b_if hM c44
            refine lv_iconst (v := (0 : Int32)) hx hb dX11_isOrder_243 (by decide) ?_
            exact e_zret X hG (by decide) dX11_isOrder_244 hM
          · have hM := b_else hM c44
            refine lv_aload_n hx hb dX11_isOrder_230 rfl (lv_at hl 0 rfl) ?_
            refine lv_iconst (v := (1 : Int32)) hx hb dX11_isOrder_231 (by decide) ?_
            refine lv_iconst (v := (1 : Int32)) hx hb dX11_isOrder_232 (by decide) ?_
            refine g_callV_i (nA := 2) (o := M_X11_digits σ39 k (1 : Int32) (1 : Int32)) (As := [.int (1 : Int32), .int (1 : Int32)]) X.1 hG hL rfl rfl (fun _ _ h => C_X11_digits l E h hL) mw1352 mw1354 mw40 mw62 (gw_ok mw1355 rfl) (by decide +kernel) rfl ⟨Nat.le_of_ble_eq_true rfl, Nat.le_of_ble_eq_true rfl⟩ hl.1 rfl (Nat.le_of_ble_eq_true rfl) ⟨Nat.le_refl _, Nat.le_refl _⟩ dX11_isOrder_233 hM (fun σ41 r42 H locs hG hM => ?_)
            refine lv_if_eq (tgt := 243) hx hb dX11_isOrder_236 (by decide) (fun c43 => ?_) (fun c43 => ?_)
            · have hM := b_if hM c43
              refine lv_iconst (v := (0 : Int32)) hx hb dX11_isOrder_243 (by decide) ?_
              exact e_zret X hG (by decide) dX11_isOrder_244 hM
            · have hM := b_else hM c43
              refine lv_iconst (v := (1 : Int32)) hx hb dX11_isOrder_239 (by decide) ?_
              refine lv_goto (tgt := 244) hx hb dX11_isOrder_240 (by decide) ?_
              exact e_zret X hG (by decide) dX11_isOrder_244 hM
      have hM := b_else hM c35
      by_cases c46 : (σ2 k 12).toInt = 106
      · have hM := b_if hM c46
        refine lv_tableIn (tgt := 305) hx hb dX11_isOrder_30 (fun h => c3 (Or.inl h)) (fun h => c3 (Or.inr h)) (by rw [c46]; rfl) (by decide) ?_
        refine lv_iconst (v := (0 : Int32)) hx hb dX11_isOrder_305 (by decide) ?_
        exact e_zret X hG (by decide) dX11_isOrder_306 hM
      have hM := b_else hM c46
      by_cases c47 : (σ2 k 12).toInt = 107
      · have hM := b_if hM c47
        refine lv_tableIn (tgt := 305) hx hb dX11_isOrder_30 (fun h => c3 (Or.inl h)) (fun h => c3 (Or.inr h)) (by rw [c47]; rfl) (by decide) ?_
        refine lv_iconst (v := (0 : Int32)) hx hb dX11_isOrder_305 (by decide) ?_
        exact e_zret X hG (by decide) dX11_isOrder_306 hM
      have hM := b_else hM c47
      by_cases c48 : (σ2 k 12).toInt = 108
      · have hM := b_if hM c48
        refine lv_tableIn (tgt := 245) hx hb dX11_isOrder_30 (fun h => c3 (Or.inl h)) (fun h => c3 (Or.inr h)) (by rw [c48]; rfl) (by decide) ?_
        refine lv_aload_n hx hb dX11_isOrder_245 rfl (lv_at hl 0 rfl) ?_
        refine lv_dup hx hb dX11_isOrder_246 rfl ?_
        refine gt_11_11 X.1 hG hL mw1130 dX11_isOrder_247 ?_
        refine lv_iconst (v := (1 : Int32)) hx hb dX11_isOrder_250 (by decide) ?_
        refine lv_iadd hx hb dX11_isOrder_251 ?_
        refine pt_11_11 X.1 hG hL mw1130 dX11_isOrder_252 hM (fun σ49 H locs hG hM => ?_)
        refine lv_aload_n hx hb dX11_isOrder_255 rfl (lv_at hl 0 rfl) ?_
        refine lv_iconst (v := (0 : Int32)) hx hb dX11_isOrder_256 (by decide) ?_
        refine lv_iconst (v := (1 : Int32)) hx hb dX11_isOrder_257 (by decide) ?_
        refine g_callV_i (nA := 2) (o := M_X11_digits σ49 k (0 : Int32) (1 : Int32)) (As := [.int (0 : Int32), .int (1 : Int32)]) X.1 hG hL rfl rfl (fun _ _ h => C_X11_digits l E h hL) mw1352 mw1354 mw40 mw62 (gw_ok mw1355 rfl) (by decide +kernel) rfl ⟨Nat.le_of_ble_eq_true rfl, Nat.le_of_ble_eq_true rfl⟩ hl.1 rfl (Nat.le_of_ble_eq_true rfl) ⟨Nat.le_refl _, Nat.le_refl _⟩ dX11_isOrder_258 hM (fun σ50 r51 H locs hG hM => ?_)
        refine lv_if_eq (tgt := 286) hx hb dX11_isOrder_261 (by decide) (fun c58 => ?_) (fun c58 => ?_)
        · have hM := b_if hM c58
          refine lv_iconst (v := (0 : Int32)) hx hb dX11_isOrder_286 (by decide) ?_
          exact e_zret X hG (by decide) dX11_isOrder_287 hM
        · have hM := b_else hM c58
          refine lv_aload_n hx hb dX11_isOrder_264 rfl (lv_at hl 0 rfl) ?_
          refine lv_bipush (v := (42 : Int32)) hx hb dX11_isOrder_265 (by decide) ?_
          refine g_callV_i (nA := 1) (o := M_X11_isNext σ50 k (42 : Int32)) (As := [.int (42 : Int32)]) X.1 hG hL rfl rfl (fun _ _ h => C_X11_isNext l E h hL) mw1356 mw1358 mw41 mw62 (gw_ok mw1359 rfl) (by decide +kernel) rfl ⟨Nat.le_of_ble_eq_true rfl, Nat.le_of_ble_eq_true rfl⟩ hl.1 rfl (Nat.le_of_ble_eq_true rfl) ⟨Nat.le_refl _, Nat.le_refl _⟩ dX11_isOrder_267 hM (fun σ52 r53 H locs hG hM => ?_)
          refine lv_if_eq (tgt := 286) hx hb dX11_isOrder_270 (by decide) (fun c57 => ?_) (fun c57 => ?_)
          · have hM := b_if hM c57
            refine lv_iconst (v := (0 : Int32)) hx hb dX11_isOrder_286 (by decide) ?_
            exact e_zret X hG (by decide) dX11_isOrder_287 hM
          · have hM := b_else hM c57
            refine lv_aload_n hx hb dX11_isOrder_273 rfl (lv_at hl 0 rfl) ?_
            refine lv_iconst (v := (1 : Int32)) hx hb dX11_isOrder_274 (by decide) ?_
            refine lv_iconst (v := (1 : Int32)) hx hb dX11_isOrder_275 (by decide) ?_
            refine g_callV_i (nA := 2) (o := M_X11_digits σ52 k (1 : Int32) (1 : Int32)) (As := [.int (1 : Int32), .int (1 : Int32)]) X.1 hG hL rfl rfl (fun _ _ h => C_X11_digits l E h hL) mw1352 mw1354 mw40 mw62 (gw_ok mw1355 rfl) (by decide +kernel) rfl ⟨Nat.le_of_ble_eq_true rfl, Nat.le_of_ble_eq_true rfl⟩ hl.1 rfl (Nat.le_of_ble_eq_true rfl) ⟨Nat.le_refl _, Nat.le_refl _⟩ dX11_isOrder_276 hM (fun σ54 r55 H locs hG hM => ?_)
            refine lv_if_eq (tgt := 286) hx hb dX11_isOrder_279 (by decide) (fun c56 => ?_) (fun c56 => ?_)
            · have hM := b_if hM c56
              refine lv_iconst (v := (0 : Int32)) hx hb dX11_isOrder_286 (by decide) ?_
              exact e_zret X hG (by decide) dX11_isOrder_287 hM
            · have hM := b_else hM c56
              refine lv_iconst (v := (1 : Int32)) hx hb dX11_isOrder_282 (by decide) ?_
              refine lv_goto (tgt := 287) hx hb dX11_isOrder_283 (by decide) ?_
              exact e_zret X hG (by decide) dX11_isOrder_287 hM
      have hM := b_else hM c48
      by_cases c59 : (σ2 k 12).toInt = 109
      · have hM := b_if hM c59
        refine lv_tableIn (tgt := 305) hx hb dX11_isOrder_30 (fun h => c3 (Or.inl h)) (fun h => c3 (Or.inr h)) (by rw [c59]; rfl) (by decide) ?_
        refine lv_iconst (v := (0 : Int32)) hx hb dX11_isOrder_305 (by decide) ?_
        exact e_zret X hG (by decide) dX11_isOrder_306 hM
      have hM := b_else hM c59
      by_cases c60 : (σ2 k 12).toInt = 110
      · have hM := b_if hM c60
        refine lv_tableIn (tgt := 288) hx hb dX11_isOrder_30 (fun h => c3 (Or.inl h)) (fun h => c3 (Or.inr h)) (by rw [c60]; rfl) (by decide) ?_
        refine lv_aload_n hx hb dX11_isOrder_288 rfl (lv_at hl 0 rfl) ?_
        refine lv_dup hx hb dX11_isOrder_289 rfl ?_
        refine gt_11_11 X.1 hG hL mw1130 dX11_isOrder_290 ?_
        refine lv_iconst (v := (1 : Int32)) hx hb dX11_isOrder_293 (by decide) ?_
        refine lv_iadd hx hb dX11_isOrder_294 ?_
        refine pt_11_11 X.1 hG hL mw1130 dX11_isOrder_295 hM (fun σ61 H locs hG hM => ?_)
        refine lv_aload_n hx hb dX11_isOrder_298 rfl (lv_at hl 0 rfl) ?_
        refine lv_iconst (v := (0 : Int32)) hx hb dX11_isOrder_299 (by decide) ?_
        refine lv_iconst (v := (2 : Int32)) hx hb dX11_isOrder_300 (by decide) ?_
        refine g_callV_i (nA := 2) (o := M_X11_digits σ61 k (0 : Int32) (2 : Int32)) (As := [.int (0 : Int32), .int (2 : Int32)]) X.1 hG hL rfl rfl (fun _ _ h => C_X11_digits l E h hL) mw1352 mw1354 mw40 mw62 (gw_ok mw1355 rfl) (by decide +kernel) rfl ⟨Nat.le_of_ble_eq_true rfl, Nat.le_of_ble_eq_true rfl⟩ hl.1 rfl (Nat.le_of_ble_eq_true rfl) ⟨Nat.le_refl _, Nat.le_refl _⟩ dX11_isOrder_301 hM (fun σ62 r63 H locs hG hM => ?_)
        obtain ⟨c64, hM⟩ := b_chk hM
        exact e_zret X hG (okZ_n c64).1 dX11_isOrder_304 hM
      have hM := b_else hM c60
      by_cases c65 : (σ2 k 12).toInt = 111
      · have hM := b_if hM c65
        refine lv_tableIn (tgt := 305) hx hb dX11_isOrder_30 (fun h => c3 (Or.inl h)) (fun h => c3 (Or.inr h)) (by rw [c65]; rfl) (by decide) ?_
        refine lv_iconst (v := (0 : Int32)) hx hb dX11_isOrder_305 (by decide) ?_
        exact e_zret X hG (by decide) dX11_isOrder_306 hM
      have hM := b_else hM c65
      by_cases c66 : (σ2 k 12).toInt = 112
      · have hM := b_if hM c66
        refine lv_tableIn (tgt := 305) hx hb dX11_isOrder_30 (fun h => c3 (Or.inl h)) (fun h => c3 (Or.inr h)) (by rw [c66]; rfl) (by decide) ?_
        refine lv_iconst (v := (0 : Int32)) hx hb dX11_isOrder_305 (by decide) ?_
        exact e_zret X hG (by decide) dX11_isOrder_306 hM
      have hM := b_else hM c66
      by_cases c67 : (σ2 k 12).toInt = 113
      · have hM := b_if hM c67
        refine lv_tableIn (tgt := 305) hx hb dX11_isOrder_30 (fun h => c3 (Or.inl h)) (fun h => c3 (Or.inr h)) (by rw [c67]; rfl) (by decide) ?_
        refine lv_iconst (v := (0 : Int32)) hx hb dX11_isOrder_305 (by decide) ?_
        exact e_zret X hG (by decide) dX11_isOrder_306 hM
      have hM := b_else hM c67
      by_cases c68 : (σ2 k 12).toInt = 114
      · have hM := b_if hM c68
        refine lv_tableIn (tgt := 305) hx hb dX11_isOrder_30 (fun h => c3 (Or.inl h)) (fun h => c3 (Or.inr h)) (by rw [c68]; rfl) (by decide) ?_
        refine lv_iconst (v := (0 : Int32)) hx hb dX11_isOrder_305 (by decide) ?_
        exact e_zret X hG (by decide) dX11_isOrder_306 hM
      have hM := b_else hM c68
      by_cases c69 : (σ2 k 12).toInt = 115
      · have hM := b_if hM c69
        refine lv_tableIn (tgt := 305) hx hb dX11_isOrder_30 (fun h => c3 (Or.inl h)) (fun h => c3 (Or.inr h)) (by rw [c69]; rfl) (by decide) ?_
        refine lv_iconst (v := (0 : Int32)) hx hb dX11_isOrder_305 (by decide) ?_
        exact e_zret X hG (by decide) dX11_isOrder_306 hM
      have hM := b_else hM c69
      by_cases c70 : (σ2 k 12).toInt = 116
      · have hM := b_if hM c70
        refine lv_tableIn (tgt := 185) hx hb dX11_isOrder_30 (fun h => c3 (Or.inl h)) (fun h => c3 (Or.inr h)) (by rw [c70]; rfl) (by decide) ?_
        refine lv_aload_n hx hb dX11_isOrder_185 rfl (lv_at hl 0 rfl) ?_
        refine lv_dup hx hb dX11_isOrder_186 rfl ?_
        refine gt_11_11 X.1 hG hL mw1130 dX11_isOrder_187 ?_
        refine lv_iconst (v := (1 : Int32)) hx hb dX11_isOrder_190 (by decide) ?_
        refine lv_iadd hx hb dX11_isOrder_191 ?_
        refine pt_11_11 X.1 hG hL mw1130 dX11_isOrder_192 hM (fun σ71 H locs hG hM => ?_)
        refine lv_aload_n hx hb dX11_isOrder_195 rfl (lv_at hl 0 rfl) ?_
        refine lv_iconst (v := (0 : Int32)) hx hb dX11_isOrder_196 (by decide) ?_
        refine lv_iconst (v := (1 : Int32)) hx hb dX11_isOrder_197 (by decide) ?_
        refine g_callV_i (nA := 2) (o := M_X11_digits σ71 k (0 : Int32) (1 : Int32)) (As := [.int (0 : Int32), .int (1 : Int32)]) X.1 hG hL rfl rfl (fun _ _ h => C_X11_digits l E h hL) mw1352 mw1354 mw40 mw62 (gw_ok mw1355 rfl) (by decide +kernel) rfl ⟨Nat.le_of_ble_eq_true rfl, Nat.le_of_ble_eq_true rfl⟩ hl.1 rfl (Nat.le_of_ble_eq_true rfl) ⟨Nat.le_refl _, Nat.le_refl _⟩ dX11_isOrder_198 hM (fun σ72 r73 H locs hG hM => ?_)
        obtain ⟨c74, hM⟩ := b_chk hM
        exact e_zret X hG (okZ_n c74).1 dX11_isOrder_201 hM
      have hM := b_else hM c70
      by_cases c75 : (σ2 k 12).toInt = 117
      · have hM := b_if hM c75
        refine lv_tableIn (tgt := 202) hx hb dX11_isOrder_30 (fun h => c3 (Or.inl h)) (fun h => c3 (Or.inr h)) (by rw [c75]; rfl) (by decide) ?_
        refine lv_aload_n hx hb dX11_isOrder_202 rfl (lv_at hl 0 rfl) ?_
        refine lv_dup hx hb dX11_isOrder_203 rfl ?_
        refine gt_11_11 X.1 hG hL mw1130 dX11_isOrder_204 ?_
        refine lv_iconst (v := (1 : Int32)) hx hb dX11_isOrder_207 (by decide) ?_
        refine lv_iadd hx hb dX11_isOrder_208 ?_
        refine pt_11_11 X.1 hG hL mw1130 dX11_isOrder_209 hM (fun σ76 H locs hG hM => ?_)
        refine lv_aload_n hx hb dX11_isOrder_212 rfl (lv_at hl 0 rfl) ?_
        refine lv_iconst (v := (0 : Int32)) hx hb dX11_isOrder_213 (by decide) ?_
        refine lv_iconst (v := (1 : Int32)) hx hb dX11_isOrder_214 (by decide) ?_
        refine g_callV_i (nA := 2) (o := M_X11_digits σ76 k (0 : Int32) (1 : Int32)) (As := [.int (0 : Int32), .int (1 : Int32)]) X.1 hG hL rfl rfl (fun _ _ h => C_X11_digits l E h hL) mw1352 mw1354 mw40 mw62 (gw_ok mw1355 rfl) (by decide +kernel) rfl ⟨Nat.le_of_ble_eq_true rfl, Nat.le_of_ble_eq_true rfl⟩ hl.1 rfl (Nat.le_of_ble_eq_true rfl) ⟨Nat.le_refl _, Nat.le_refl _⟩ dX11_isOrder_215 hM (fun σ77 r78 H locs hG hM => ?_)
        refine lv_if_eq (tgt := 243) hx hb dX11_isOrder_218 (by decide) (fun c85 => ?_) (fun c85 => ?_)
        · have hM := b_if hM c85
          refine lv_iconst (v := (0 : Int32)) hx hb dX11_isOrder_243 (by decide) ?_
          exact e_zret X hG (by decide) dX11_isOrder_244 hM
        · have hM := b_else hM c85
          refine lv_aload_n hx hb dX11_isOrder_221 rfl (lv_at hl 0 rfl) ?_
          refine lv_bipush (v := (64 : Int32)) hx hb dX11_isOrder_222 (by decide) ?_
          refine g_callV_i (nA := 1) (o := M_X11_isNext σ77 k (64 : Int32)) (As := [.int (64 : Int32)]) X.1 hG hL rfl rfl (fun _ _ h => C_X11_isNext l E h hL) mw1356 mw1358 mw41 mw62 (gw_ok mw1359 rfl) (by decide +kernel) rfl ⟨Nat.le_of_ble_eq_true rfl, Nat.le_of_ble_eq_true rfl⟩ hl.1 rfl (Nat.le_of_ble_eq_true rfl) ⟨Nat.le_refl _, Nat.le_refl _⟩ dX11_isOrder_224 hM (fun σ79 r80 H locs hG hM => ?_)
          refine lv_if_eq (tgt := 243) hx hb dX11_isOrder_227 (by decide) (fun c84 => ?_) (fun c84 => ?_)
          · have hM := b_if hM c84
            refine lv_iconst (v := (0 : Int32)) hx hb dX11_isOrder_243 (by decide) ?_
            exact e_zret X hG (by decide) dX11_isOrder_244 hM
          · have hM := b_else hM c84
            refine lv_aload_n hx hb dX11_isOrder_230 rfl (lv_at hl 0 rfl) ?_
            refine lv_iconst (v := (1 : Int32)) hx hb dX11_isOrder_231 (by decide) ?_
            refine lv_iconst (v := (1 : Int32)) hx hb dX11_isOrder_232 (by decide) ?_
            refine g_callV_i (nA := 2) (o := M_X11_digits σ79 k (1 : Int32) (1 : Int32)) (As := [.int (1 : Int32), .int (1 : Int32)]) X.1 hG hL rfl rfl (fun _ _ h => C_X11_digits l E h hL) mw1352 mw1354 mw40 mw62 (gw_ok mw1355 rfl) (by decide +kernel) rfl ⟨Nat.le_of_ble_eq_true rfl, Nat.le_of_ble_eq_true rfl⟩ hl.1 rfl (Nat.le_of_ble_eq_true rfl) ⟨Nat.le_refl _, Nat.le_refl _⟩ dX11_isOrder_233 hM (fun σ81 r82 H locs hG hM => ?_)
            refine lv_if_eq (tgt := 243) hx hb dX11_isOrder_236 (by decide) (fun c83 => ?_) (fun c83 => ?_)
            · have hM := b_if hM c83
              refine lv_iconst (v := (0 : Int32)) hx hb dX11_isOrder_243 (by decide) ?_
              exact e_zret X hG (by decide) dX11_isOrder_244 hM
            · have hM := b_else hM c83
              refine lv_iconst (v := (1 : Int32)) hx hb dX11_isOrder_239 (by decide) ?_
              refine lv_goto (tgt := 244) hx hb dX11_isOrder_240 (by decide) ?_
              exact e_zret X hG (by decide) dX11_isOrder_244 hM
      have hM := b_else hM c75
      cases hM
  · have hM := b_if hM c87
    refine lv_iconst (v := (0 : Int32)) hx hb dX11_isOrder_11 (by decide) ?_
    exact e_zret X hG (by decide) dX11_isOrder_12 hM
def M_X11_fault (σ : St) (k : Nat)  : Option (St × Int32) := some (σ, σ k 14)
set_option maxRecDepth 20000 in
set_option maxHeartbeats 4000000 in
theorem C_X11_fault (l : Launch) (E : Ev) {σ σ' : St} {k : Nat} {r : Int32} (h : M_X11_fault σ k = some (σ', r)) (hL : lay 11 k) : Mi l E yX11_fault cX11_fault 1 (some .int) 1 [.ref (E.1 k)] σ σ' r := by
  refine Mi_of (C := RX11) rfl (by decide) (Nat.le_of_ble_eq_true rfl) (z := (σ', r)) (fun p e s m below meth c ls X hG hl => ?_)
  have hx := X.1.1.1
  have hb := X.1.1.2.1
  have hM := h
  unfold M_X11_fault at hM
  generalize (σ', r) = z at hM ⊢
  have hl : lv_has ls 1 [(0, .ref (E.1 k))] := hl
  refine lv_aload_n hx hb dX11_fault_0 rfl (lv_at hl 0 rfl) ?_
  refine gt_11_14 X.1 hG hL mw1133 dX11_fault_1 ?_
  exact e_iret X hG dX11_fault_4 hM
def M_X11_reason (σ : St) (k : Nat) (p0 p1 : Int32) : Option (St × Int32) := if 0 ≤ p0 then (if (σ k 16) ≤ p0 then some (σ, (-4 : Int32)) else (if p1 = 0 then (bald σ (k + 9) (((2 : Int32) * p0) + (0 : Int32)) fun q1 => some (σ, q1)) else (bald σ (k + 9) (((2 : Int32) * p0) + (1 : Int32)) fun q2 => some (σ, q2)))) else some (σ, (-2 : Int32))
set_option maxRecDepth 20000 in
set_option maxHeartbeats 4000000 in
theorem C_X11_reason (l : Launch) (E : Ev) {σ σ' : St} {k : Nat} {p0 : Int32} {p1 : Int32} {r : Int32} (h : M_X11_reason σ k p0 p1 = some (σ', r)) (hL : lay 11 k) : Mi l E yX11_reason cX11_reason 3 (some .int) 1 [.ref (E.1 k), .int p0, .int p1] σ σ' r := by
  refine Mi_of (C := RX11) rfl (by decide) (Nat.le_of_ble_eq_true rfl) (z := (σ', r)) (fun p e s m below meth c ls X hG hl => ?_)
  have hx := X.1.1.1
  have hb := X.1.1.2.1
  have hM := h
  unfold M_X11_reason at hM
  generalize (σ', r) = z at hM ⊢
  have hl : lv_has ls 3 [(0, .ref (E.1 k)), (1, .int p0), (2, .int p1)] := hl
  refine lv_iload_n hx hb dX11_reason_0 rfl (lv_at hl 1 rfl) ?_
  refine lv_if_ge (tgt := 7) hx hb dX11_reason_1 (by decide) (fun c5 => ?_) (fun c5 => ?_)
  · have hM := b_if hM c5
    refine lv_iload_n hx hb dX11_reason_7 rfl (lv_at hl 1 rfl) ?_
    refine lv_aload_n hx hb dX11_reason_8 rfl (lv_at hl 0 rfl) ?_
    refine gt_11_16 X.1 hG hL mw1135 dX11_reason_9 ?_
    refine lv_icmp_ge (tgt := 36) hx hb dX11_reason_12 (by decide) (fun c4 => ?_) (fun c4 => ?_)
    · have hM := b_if hM c4
      refine lv_bipush (v := (-4 : Int32)) hx hb dX11_reason_36 (by decide) ?_
      exact e_iret X hG dX11_reason_38 hM
    · have hM := b_else hM c4
      refine lv_aload_n hx hb dX11_reason_15 rfl (lv_at hl 0 rfl) ?_
      refine gt_11_15 X.1 hG hL mw1134 dX11_reason_16 ?_
      refine lv_iconst (v := (2 : Int32)) hx hb dX11_reason_19 (by decide) ?_
      refine lv_iload_n hx hb dX11_reason_20 rfl (lv_at hl 1 rfl) ?_
      refine lv_imul hx hb dX11_reason_21 ?_
      refine lv_iload_n hx hb dX11_reason_22 rfl (lv_at hl 2 rfl) ?_
      refine lv_if_eq (tgt := 30) hx hb dX11_reason_23 (by decide) (fun c3 => ?_) (fun c3 => ?_)
      · have hM := b_if hM c3
        refine lv_iconst (v := (0 : Int32)) hx hb dX11_reason_30 (by decide) ?_
        refine lv_iadd hx hb dX11_reason_31 ?_
        refine g_ald X.1 hG (lf_11_15 hL) dX11_reason_32 hM (fun q1 hM => ?_)
        refine lv_goto (tgt := 38) hx hb dX11_reason_33 (by decide) ?_
        exact e_iret X hG dX11_reason_38 hM
      · have hM := b_else hM c3
        refine lv_iconst (v := (1 : Int32)) hx hb dX11_reason_26 (by decide) ?_
        refine lv_goto (tgt := 31) hx hb dX11_reason_27 (by decide) ?_
        refine lv_iadd hx hb dX11_reason_31 ?_
        refine g_ald X.1 hG (lf_11_15 hL) dX11_reason_32 hM (fun q2 hM => ?_)
        refine lv_goto (tgt := 38) hx hb dX11_reason_33 (by decide) ?_
        exact e_iret X hG dX11_reason_38 hM
  · have hM := b_else hM c5
    refine lv_bipush (v := (-2 : Int32)) hx hb dX11_reason_4 (by decide) ?_
    exact e_iret X hG dX11_reason_6 hM
def M_X11_bundleOf (σ : St) (k : Nat) (p0 p1 : Int32) : Option (St × Int32) := bcall (M_X11_isBundle σ k p0) fun σ1 r2 => if r2 = 0 then some (σ1, (-1 : Int32)) else (if p1 = 0 then (bald σ1 (k + 1) (((14 : Int32) + ((2 : Int32) * p0)) + (0 : Int32)) fun q3 => some (σ1, q3)) else (bald σ1 (k + 1) (((14 : Int32) + ((2 : Int32) * p0)) + (1 : Int32)) fun q4 => some (σ1, q4)))
set_option maxRecDepth 20000 in
set_option maxHeartbeats 4000000 in
theorem C_X11_bundleOf (l : Launch) (E : Ev) {σ σ' : St} {k : Nat} {p0 : Int32} {p1 : Int32} {r : Int32} (h : M_X11_bundleOf σ k p0 p1 = some (σ', r)) (hL : lay 11 k) : Mi l E yX11_bundleOf cX11_bundleOf 3 (some .int) 3 [.ref (E.1 k), .int p0, .int p1] σ σ' r := by
  refine Mi_of (C := RX11) rfl (by decide) (Nat.le_of_ble_eq_true rfl) (z := (σ', r)) (fun p e s m below meth c ls X hG hl => ?_)
  have hx := X.1.1.1
  have hb := X.1.1.2.1
  have hM := h
  unfold M_X11_bundleOf at hM
  generalize (σ', r) = z at hM ⊢
  have hl : lv_has ls 3 [(0, .ref (E.1 k)), (1, .int p0), (2, .int p1)] := hl
  refine lv_aload_n hx hb dX11_bundleOf_0 rfl (lv_at hl 0 rfl) ?_
  refine lv_iload_n hx hb dX11_bundleOf_1 rfl (lv_at hl 1 rfl) ?_
  refine g_callV_i (nA := 1) (o := M_X11_isBundle σ k p0) (As := [.int p0]) X.1 hG hL rfl rfl (fun _ _ h => C_X11_isBundle l E h hL) mw1214 mw1216 mw16 mw62 (gw_ok mw1217 rfl) (by decide +kernel) rfl ⟨Nat.le_of_ble_eq_true rfl, Nat.le_of_ble_eq_true rfl⟩ hl.1 rfl (Nat.le_of_ble_eq_true rfl) ⟨Nat.le_refl _, Nat.le_refl _⟩ dX11_bundleOf_2 hM (fun σ1 r2 H locs hG hM => ?_)
  refine lv_if_eq (tgt := 32) hx hb dX11_bundleOf_5 (by decide) (fun c6 => ?_) (fun c6 => ?_)
  · have hM := b_if hM c6
    refine lv_iconst (v := (-1 : Int32)) hx hb dX11_bundleOf_32 (by decide) ?_
    exact e_iret X hG dX11_bundleOf_33 hM
  · have hM := b_else hM c6
    refine lv_aload_n hx hb dX11_bundleOf_8 rfl (lv_at hl 0 rfl) ?_
    refine gt_11_0 X.1 hG hL mw1119 dX11_bundleOf_9 ?_
    refine lv_bipush (v := (14 : Int32)) hx hb dX11_bundleOf_12 (by decide) ?_
    refine lv_iconst (v := (2 : Int32)) hx hb dX11_bundleOf_14 (by decide) ?_
    refine lv_iload_n hx hb dX11_bundleOf_15 rfl (lv_at hl 1 rfl) ?_
    refine lv_imul hx hb dX11_bundleOf_16 ?_
    refine lv_iadd hx hb dX11_bundleOf_17 ?_
    refine lv_iload_n hx hb dX11_bundleOf_18 rfl (lv_at hl 2 rfl) ?_
    refine lv_if_eq (tgt := 26) hx hb dX11_bundleOf_19 (by decide) (fun c5 => ?_) (fun c5 => ?_)
    · have hM := b_if hM c5
      refine lv_iconst (v := (0 : Int32)) hx hb dX11_bundleOf_26 (by decide) ?_
      refine lv_iadd hx hb dX11_bundleOf_27 ?_
      refine g_ald X.1 hG (lf_11_0 hL) dX11_bundleOf_28 hM (fun q3 hM => ?_)
      refine lv_goto (tgt := 33) hx hb dX11_bundleOf_29 (by decide) ?_
      exact e_iret X hG dX11_bundleOf_33 hM
    · have hM := b_else hM c5
      refine lv_iconst (v := (1 : Int32)) hx hb dX11_bundleOf_22 (by decide) ?_
      refine lv_goto (tgt := 27) hx hb dX11_bundleOf_23 (by decide) ?_
      refine lv_iadd hx hb dX11_bundleOf_27 ?_
      refine g_ald X.1 hG (lf_11_0 hL) dX11_bundleOf_28 hM (fun q4 hM => ?_)
      refine lv_goto (tgt := 33) hx hb dX11_bundleOf_29 (by decide) ?_
      exact e_iret X hG dX11_bundleOf_33 hM
def M_X11_storeyOf (σ : St) (k : Nat) (p0 p1 : Int32) : Option (St × Int32) := bcall (M_X11_isStorey σ k p0) fun σ1 r2 => if r2 = 0 then some (σ1, (-1 : Int32)) else (if p1.toInt < 0 ∨ 6 < p1.toInt then some (σ1, (-2 : Int32)) else if p1.toInt = 0 then (bcall (M_X11_of σ1 k p0 p1) fun σ5 r6 => some (σ5, r6)) else if p1.toInt = 1 then (bcall (M_X11_of σ1 k p0 p1) fun σ8 r9 => some (σ8, r9)) else if p1.toInt = 2 then (bcall (M_X11_of σ1 k p0 p1) fun σ11 r12 => some (σ11, r12)) else if p1.toInt = 3 then (bcall (M_X11_of σ1 k p0 p1) fun σ14 r15 => some (σ14, r15)) else if p1.toInt = 4 then (bcall (M_X11_of σ1 k p0 p1) fun σ17 r18 => some (σ17, r18)) else if p1.toInt = 5 then (bcall (M_X11_of σ1 k p0 (5 : Int32)) fun σ20 r21 => if r21 ≤ 0 then some (σ20, (0 : Int32)) else some (σ20, (1 : Int32))) else if p1.toInt = 6 then (bcall (M_X11_crewsOn σ1 k p0) fun σ24 r25 => some (σ24, r25)) else none)
set_option maxRecDepth 20000 in
set_option maxHeartbeats 4000000 in
theorem C_X11_storeyOf (l : Launch) (E : Ev) {σ σ' : St} {k : Nat} {p0 : Int32} {p1 : Int32} {r : Int32} (h : M_X11_storeyOf σ k p0 p1 = some (σ', r)) (hL : lay 11 k) : Mi l E yX11_storeyOf cX11_storeyOf 3 (some .int) 3 [.ref (E.1 k), .int p0, .int p1] σ σ' r := by
  refine Mi_of (C := RX11) rfl (by decide) (Nat.le_of_ble_eq_true rfl) (z := (σ', r)) (fun p e s m below meth c ls X hG hl => ?_)
  have hx := X.1.1.1
  have hb := X.1.1.2.1
  have hM := h
  unfold M_X11_storeyOf at hM
  generalize (σ', r) = z at hM ⊢
  have hl : lv_has ls 3 [(0, .ref (E.1 k)), (1, .int p0), (2, .int p1)] := hl
  refine lv_aload_n hx hb dX11_storeyOf_0 rfl (lv_at hl 0 rfl) ?_
  refine lv_iload_n hx hb dX11_storeyOf_1 rfl (lv_at hl 1 rfl) ?_
  refine g_callV_i (nA := 1) (o := M_X11_isStorey σ k p0) (As := [.int p0]) X.1 hG hL rfl rfl (fun _ _ h => C_X11_isStorey l E h hL) mw1238 mw1240 mw21 mw62 (gw_ok mw1241 rfl) (by decide +kernel) rfl ⟨Nat.le_of_ble_eq_true rfl, Nat.le_of_ble_eq_true rfl⟩ hl.1 rfl (Nat.le_of_ble_eq_true rfl) ⟨Nat.le_refl _, Nat.le_refl _⟩ dX11_storeyOf_2 hM (fun σ1 r2 H locs hG hM => ?_)
  refine lv_if_ne (tgt := 10) hx hb dX11_storeyOf_5 (by decide) (fun c26 => ?_) (fun c26 => ?_)
  · have hM := b_else hM c26
    refine lv_iload_n hx hb dX11_storeyOf_10 rfl (lv_at hl 2 rfl) ?_
    by_cases c3 : p1.toInt < 0 ∨ 6 < p1.toInt
    · have hM := b_if hM c3
      refine lv_tableOut (tgt := 80) hx hb dX11_storeyOf_11 c3 (by decide) ?_
      refine lv_bipush (v := (-2 : Int32)) hx hb dX11_storeyOf_80 (by decide) ?_
      exact e_iret X hG dX11_storeyOf_82 hM
    · have hM := b_else hM c3
      by_cases c4 : p1.toInt = 0
      · have hM := b_if hM c4
        refine lv_tableIn (tgt := 52) hx hb dX11_storeyOf_11 (fun h => c3 (Or.inl h)) (fun h => c3 (Or.inr h)) (by rw [c4]; rfl) (by decide) ?_
        refine lv_aload_n hx hb dX11_storeyOf_52 rfl (lv_at hl 0 rfl) ?_
        refine lv_iload_n hx hb dX11_storeyOf_53 rfl (lv_at hl 1 rfl) ?_
        refine lv_iload_n hx hb dX11_storeyOf_54 rfl (lv_at hl 2 rfl) ?_
        refine g_callV_i (nA := 2) (o := M_X11_of σ1 k p0 p1) (As := [.int p0, .int p1]) X.1 hG hL rfl rfl (fun _ _ h => C_X11_of l E h hL) mw1242 mw1244 mw22 mw62 (gw_ok mw1245 rfl) (by decide +kernel) rfl ⟨Nat.le_of_ble_eq_true rfl, Nat.le_of_ble_eq_true rfl⟩ hl.1 rfl (Nat.le_of_ble_eq_true rfl) ⟨Nat.le_refl _, Nat.le_refl _⟩ dX11_storeyOf_55 hM (fun σ5 r6 H locs hG hM => ?_)
        exact e_iret X hG dX11_storeyOf_58 hM
      have hM := b_else hM c4
      by_cases c7 : p1.toInt = 1
      · have hM := b_if hM c7
        refine lv_tableIn (tgt := 52) hx hb dX11_storeyOf_11 (fun h => c3 (Or.inl h)) (fun h => c3 (Or.inr h)) (by rw [c7]; rfl) (by decide) ?_
        refine lv_aload_n hx hb dX11_storeyOf_52 rfl (lv_at hl 0 rfl) ?_
        refine lv_iload_n hx hb dX11_storeyOf_53 rfl (lv_at hl 1 rfl) ?_
        refine lv_iload_n hx hb dX11_storeyOf_54 rfl (lv_at hl 2 rfl) ?_
        refine g_callV_i (nA := 2) (o := M_X11_of σ1 k p0 p1) (As := [.int p0, .int p1]) X.1 hG hL rfl rfl (fun _ _ h => C_X11_of l E h hL) mw1242 mw1244 mw22 mw62 (gw_ok mw1245 rfl) (by decide +kernel) rfl ⟨Nat.le_of_ble_eq_true rfl, Nat.le_of_ble_eq_true rfl⟩ hl.1 rfl (Nat.le_of_ble_eq_true rfl) ⟨Nat.le_refl _, Nat.le_refl _⟩ dX11_storeyOf_55 hM (fun σ8 r9 H locs hG hM => ?_)
        exact e_iret X hG dX11_storeyOf_58 hM
      have hM := b_else hM c7
      by_cases c10 : p1.toInt = 2
      · have hM := b_if hM c10
        refine lv_tableIn (tgt := 52) hx hb dX11_storeyOf_11 (fun h => c3 (Or.inl h)) (fun h => c3 (Or.inr h)) (by rw [c10]; rfl) (by decide) ?_
        refine lv_aload_n hx hb dX11_storeyOf_52 rfl (lv_at hl 0 rfl) ?_
        refine lv_iload_n hx hb dX11_storeyOf_53 rfl (lv_at hl 1 rfl) ?_
        refine lv_iload_n hx hb dX11_storeyOf_54 rfl (lv_at hl 2 rfl) ?_
        refine g_callV_i (nA := 2) (o := M_X11_of σ1 k p0 p1) (As := [.int p0, .int p1]) X.1 hG hL rfl rfl (fun _ _ h => C_X11_of l E h hL) mw1242 mw1244 mw22 mw62 (gw_ok mw1245 rfl) (by decide +kernel) rfl ⟨Nat.le_of_ble_eq_true rfl, Nat.le_of_ble_eq_true rfl⟩ hl.1 rfl (Nat.le_of_ble_eq_true rfl) ⟨Nat.le_refl _, Nat.le_refl _⟩ dX11_storeyOf_55 hM (fun σ11 r12 H locs hG hM => ?_)
        exact e_iret X hG dX11_storeyOf_58 hM
      have hM := b_else hM c10
      by_cases c13 : p1.toInt = 3
      · have hM := b_if hM c13
        refine lv_tableIn (tgt := 52) hx hb dX11_storeyOf_11 (fun h => c3 (Or.inl h)) (fun h => c3 (Or.inr h)) (by rw [c13]; rfl) (by decide) ?_
        refine lv_aload_n hx hb dX11_storeyOf_52 rfl (lv_at hl 0 rfl) ?_
        refine lv_iload_n hx hb dX11_storeyOf_53 rfl (lv_at hl 1 rfl) ?_
        refine lv_iload_n hx hb dX11_storeyOf_54 rfl (lv_at hl 2 rfl) ?_
        refine g_callV_i (nA := 2) (o := M_X11_of σ1 k p0 p1) (As := [.int p0, .int p1]) X.1 hG hL rfl rfl (fun _ _ h => C_X11_of l E h hL) mw1242 mw1244 mw22 mw62 (gw_ok mw1245 rfl) (by decide +kernel) rfl ⟨Nat.le_of_ble_eq_true rfl, Nat.le_of_ble_eq_true rfl⟩ hl.1 rfl (Nat.le_of_ble_eq_true rfl) ⟨Nat.le_refl _, Nat.le_refl _⟩ dX11_storeyOf_55 hM (fun σ14 r15 H locs hG hM => ?_)
        exact e_iret X hG dX11_storeyOf_58 hM
      have hM := b_else hM c13
      by_cases c16 : p1.toInt = 4
      · have hM := b_if hM c16
        refine lv_tableIn (tgt := 52) hx hb dX11_storeyOf_11 (fun h => c3 (Or.inl h)) (fun h => c3 (Or.inr h)) (by rw [c16]; rfl) (by decide) ?_
        refine lv_aload_n hx hb dX11_storeyOf_52 rfl (lv_at hl 0 rfl) ?_
        refine lv_iload_n hx hb dX11_storeyOf_53 rfl (lv_at hl 1 rfl) ?_
        refine lv_iload_n hx hb dX11_storeyOf_54 rfl (lv_at hl 2 rfl) ?_
        refine g_callV_i (nA := 2) (o := M_X11_of σ1 k p0 p1) (As := [.int p0, .int p1]) X.1 hG hL rfl rfl (fun _ _ h => C_X11_of l E h hL) mw1242 mw1244 mw22 mw62 (gw_ok mw1245 rfl) (by decide +kernel) rfl ⟨Nat.le_of_ble_eq_true rfl, Nat.le_of_ble_eq_true rfl⟩ hl.1 rfl (Nat.le_of_ble_eq_true rfl) ⟨Nat.le_refl _, Nat.le_refl _⟩ dX11_storeyOf_55 hM (fun σ17 r18 H locs hG hM => ?_)
        exact e_iret X hG dX11_storeyOf_58 hM
      have hM := b_else hM c16
      by_cases c19 : p1.toInt = 5
      · have hM := b_if hM c19
        refine lv_tableIn (tgt := 59) hx hb dX11_storeyOf_11 (fun h => c3 (Or.inl h)) (fun h => c3 (Or.inr h)) (by rw [c19]; rfl) (by decide) ?_
        refine lv_aload_n hx hb dX11_storeyOf_59 rfl (lv_at hl 0 rfl) ?_
        refine lv_iload_n hx hb dX11_storeyOf_60 rfl (lv_at hl 1 rfl) ?_
        refine lv_iconst (v := (5 : Int32)) hx hb dX11_storeyOf_61 (by decide) ?_
        refine g_callV_i (nA := 2) (o := M_X11_of σ1 k p0 (5 : Int32)) (As := [.int p0, .int (5 : Int32)]) X.1 hG hL rfl rfl (fun _ _ h => C_X11_of l E h hL) mw1242 mw1244 mw22 mw62 (gw_ok mw1245 rfl) (by decide +kernel) rfl ⟨Nat.le_of_ble_eq_true rfl, Nat.le_of_ble_eq_true rfl⟩ hl.1 rfl (Nat.le_of_ble_eq_true rfl) ⟨Nat.le_refl _, Nat.le_refl _⟩ dX11_storeyOf_62 hM (fun σ20 r21 H locs hG hM => ?_)
        refine lv_if_le (tgt := 72) hx hb dX11_storeyOf_65 (by decide) (fun c22 => ?_) (fun c22 => ?_)
        · have hM := b_if hM c22
          refine lv_iconst (v := (0 : Int32)) hx hb dX11_storeyOf_72 (by decide) ?_
          exact e_iret X hG dX11_storeyOf_73 hM
        · have hM := b_else hM c22
          refine lv_iconst (v := (1 : Int32)) hx hb dX11_storeyOf_68 (by decide) ?_
          refine lv_goto (tgt := 73) hx hb dX11_storeyOf_69 (by decide) ?_
          exact e_iret X hG dX11_storeyOf_73 hM
      have hM := b_else hM c19
      by_cases c23 : p1.toInt = 6
      · have hM := b_if hM c23
        refine lv_tableIn (tgt := 74) hx hb dX11_storeyOf_11 (fun h => c3 (Or.inl h)) (fun h => c3 (Or.inr h)) (by rw [c23]; rfl) (by decide) ?_
        refine lv_aload_n hx hb dX11_storeyOf_74 rfl (lv_at hl 0 rfl) ?_
        refine lv_iload_n hx hb dX11_storeyOf_75 rfl (lv_at hl 1 rfl) ?_
        refine g_callV_i (nA := 1) (o := M_X11_crewsOn σ1 k p0) (As := [.int p0]) X.1 hG hL rfl rfl (fun _ _ h => C_X11_crewsOn l E h hL) mw1274 mw1276 mw28 mw62 (gw_ok mw1277 rfl) (by decide +kernel) rfl ⟨Nat.le_of_ble_eq_true rfl, Nat.le_of_ble_eq_true rfl⟩ hl.1 rfl (Nat.le_of_ble_eq_true rfl) ⟨Nat.le_refl _, Nat.le_refl _⟩ dX11_storeyOf_76 hM (fun σ24 r25 H locs hG hM => ?_)
        exact e_iret X hG dX11_storeyOf_79 hM
      have hM := b_else hM c23
      cases hM
  · have hM := b_if hM c26
    refine lv_iconst (v := (-1 : Int32)) hx hb dX11_storeyOf_8 (by decide) ?_
    exact e_iret X hG dX11_storeyOf_9 hM
