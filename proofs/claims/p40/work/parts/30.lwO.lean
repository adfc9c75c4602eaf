def B_LO_962 (KX : St → Int64 → Int32 → Option (St × Int32)) : Nat → St → Nat → (Nat × (Nat → Int32)) → Int32 → Option (St × Int32)
  | 0, _, _, _, _ => none
  | n + 1, σ, a0, w, x3 => if (4 : Int32) ≤ x3 then (bcall (M_L_asks σ a0) fun σ3 r4 => bcall (M_L_asks σ3 a0) fun σ5 r6 => if (lg_cmp r6 r4) = 0 then (bcall (M_L_refused σ5 a0) fun σ7 r8 => if r8 = 0 then none else (bcall (M_X10_save σ7 a0) fun σ9 r10 => bcall (M_X10_account σ9 a0 (0 : Int32)) fun σ11 r12 => if r10 = r12 then (bcall (M_L_asks σ11 a0) fun σ13 r14 => if (lg_cmp r14 r4) = 0 then (KX σ13 r4 r10) else none) else none)) else none) else (bcall (M_L_at σ w ((24 : Int32) + x3)) fun σ19 r20 => bcall (M_L_some σ19 r20 (2 : Int32)) fun σ21 r22 => bcall (M_L_at σ21 w ((24 : Int32) + x3)) fun σ23 r24 => bcall (M_L_some σ23 (r24 >>> ((3 : Int32) &&& 31)) (4 : Int32)) fun σ25 r26 => bcall (M_X10_lift σ25 a0 r22 ((1 : Int32) + r26)) fun σ27 r28 => if 0 ≤ r28 then (bcall (M_L_at σ27 w ((24 : Int32) + x3)) fun σ29 r30 => bcall (M_L_some σ29 (r30 >>> ((6 : Int32) &&& 31)) (2 : Int32)) fun σ31 r32 => bcall (M_X10_up σ31 a0 x3 r32) fun σ33 r34 => if 0 ≤ r34 then (blet (x3 + (1 : Int32)) fun v35 => B_LO_962 KX n σ33 a0 w v35) else none) else (if r28 = (-3 : Int32) then (bcall (M_L_at σ27 w ((24 : Int32) + x3)) fun σ37 r38 => bcall (M_L_some σ37 (r38 >>> ((6 : Int32) &&& 31)) (2 : Int32)) fun σ39 r40 => bcall (M_X10_up σ39 a0 x3 r40) fun σ41 r42 => if 0 ≤ r42 then (blet (x3 + (1 : Int32)) fun v43 => B_LO_962 KX n σ41 a0 w v43) else none) else none))
def B_LO_950 (KX : St → Int64 → Int32 → Option (St × Int32)) (σ : St) (a0 : Nat) (w : (Nat × (Nat → Int32)))  : Option (St × Int32) := bcall (M_L_makes σ a0 w) fun σ1 r2 => if r2 = 0 then none else (B_LO_962 KX FU σ1 a0 w (0 : Int32))
set_option maxRecDepth 20000 in
set_option maxHeartbeats 4000000 in
theorem w_LO_962 {p : Program} {l : Launch} {e : Env} {s : State} {m : MethodId} {below : List Frame} {meth : Method} {c : Code} {args : Array Value} {E : Ev} {s0 : State} {Q : State → Prop} {jx : Nat} {a0 : Nat} {w : (Nat × (Nat → Int32))} (X : Bx E p m meth c cL_law 11 (some .boolean) s args RL) (hs0 : Dr s0 s) (hAn : ∀ q, s0.heap.size ≤ q → AE E q) (hA0 : lay 10 a0) (hw : jx < nX E ∧ (eX E jx).2 = w) (KX : St → Int64 → Int32 → Option (St × Int32)) : ∀ (n : Nat) (σ : St) (x3 : Int32) (H : Heap) (locs : List Loc) (ls : Array Slot) (z : St × Int32) (hKX : ∀ (s : State) (X : Bx E p m meth c cL_law 11 (some .boolean) s args RL) (hs0 : Dr s0 s) (σ : St) (x3 : Int64) (x5 : Int32) (H : Heap) (locs : List Loc) (ls : Array Slot), GS E σ s.heap H locs → lv_has ls 11 [(0, .ref (eX E jx).1), (2, .ref (E.1 a0)), (3, .long x3), (5, .int x5)] → KX σ x3 x5 = some z → W p l e room_1 s m args below meth c H locs (505) (4112) Q (F0 m 1100 ls [])), GS E σ s.heap H locs → lv_has ls 11 [(0, .ref (eX E jx).1), (2, .ref (E.1 a0)), (3, .int x3)] → B_LO_962 KX n σ a0 w x3 = some z → W p l e room_1 s m args below meth c H locs (504) (4110) Q (F0 m 962 ls []) := by
  have hx := X.1.1.1
  have hb := X.1.1.2.1
  intro n
  induction n with
  | zero => intro σ x3 H locs ls z hKX hG hl hM; cases hM
  | succ n ih0 =>
    intro σ x3 H locs ls z hKX hG hl hM
    unfold B_LO_962 at hM
    refine lv_iload_n hx hb dL_law_962 rfl (lv_at hl 2 rfl) ?_
    refine lv_iconst (v := (4 : Int32)) hx hb dL_law_963 (by decide) ?_
    refine lv_icmp_ge (tgt := 1050) hx hb dL_law_964 (by decide) (fun c47 => ?_) (fun c47 => ?_)
    · have hM := b_if hM c47
      refine lv_aload_n hx hb dL_law_1050 rfl (lv_at hl 1 rfl) ?_
      refine g_callAsk X hs0 (dr_an hs0 hAn) hG hA0 mw1054 ⟨Nat.le_of_ble_eq_true rfl, Nat.le_of_ble_eq_true rfl⟩ hl.1 (Nat.le_of_ble_eq_true rfl) ⟨Nat.le_of_ble_eq_true rfl, Nat.le_of_ble_eq_true rfl⟩ dL_law_1051 hM (fun σ3 r4 s H locs X hs0 _ hG hM => ?_)
      have hx := X.1.1.1
      have hb := X.1.1.2.1
      refine lv_lstore_n (lv' := [(3, .long r4), (0, .ref (eX E jx).1), (2, .ref (E.1 a0))]) hx hb dL_law_1054 rfl hl (by decide) rfl (fun ls hl => ?_)
      refine lv_aload_n hx hb dL_law_1055 rfl (lv_at hl 2 rfl) ?_
      refine g_callAsk X hs0 (dr_an hs0 hAn) hG hA0 mw1054 ⟨Nat.le_of_ble_eq_true rfl, Nat.le_of_ble_eq_true rfl⟩ hl.1 (Nat.le_of_ble_eq_true rfl) ⟨Nat.le_of_ble_eq_true rfl, Nat.le_of_ble_eq_true rfl⟩ dL_law_1056 hM (fun σ5 r6 s H locs X hs0 _ hG hM => ?_)
      have hx := X.1.1.1
      have hb := X.1.1.2.1
      refine lv_lload_n hx hb dL_law_1059 rfl (lv_at hl 0 rfl) ?_
      refine W.lcmp hx hb dL_law_1060 ?_
      refine lv_if_ne (tgt := 1071) hx hb dL_law_1061 (by decide) (fun c18 => ?_) (fun c18 => ?_)
      · have hM := b_else hM c18
        cases hM
      · have hM := b_if hM c18
        refine lv_aload_n hx hb dL_law_1064 rfl (lv_at hl 2 rfl) ?_
        refine g_callRef X hs0 hAn hG hA0 mw1335 ⟨Nat.le_of_ble_eq_true rfl, Nat.le_of_ble_eq_true rfl⟩ hl.1 (Nat.le_of_ble_eq_true rfl) ⟨Nat.le_of_ble_eq_true rfl, Nat.le_of_ble_eq_true rfl⟩ dL_law_1065 hM (fun σ7 r8 s H locs X hs0 hG hM => ?_)
        refine lv_if_ne (tgt := 1073) hx hb dL_law_1068 (by decide) (fun c17 => ?_) (fun c17 => ?_)
        · have hM := b_else hM c17
          refine lv_aload_n hx hb dL_law_1073 rfl (lv_at hl 2 rfl) ?_
          refine g_callV_i (nA := 0) (o := M_X10_save σ7 a0) (As := []) X.1 hG hA0 rfl rfl (fun _ _ h => C_X10_save l E h hA0) mw998 mw999 mw1000 mw12 (gw_ok mw1001 rfl) (by decide +kernel) rfl ⟨Nat.le_of_ble_eq_true rfl, Nat.le_of_ble_eq_true rfl⟩ hl.1 rfl (Nat.le_of_ble_eq_true rfl) ⟨Nat.le_of_ble_eq_true rfl, Nat.le_of_ble_eq_true rfl⟩ dL_law_1074 hM (fun σ9 r10 H locs hG hM => ?_)
          refine lv_istore (lv' := [(5, .int r10), (3, .long r4), (0, .ref (eX E jx).1), (2, .ref (E.1 a0))]) hx hb dL_law_1077 hl (by decide) rfl (fun ls hl => ?_)
          refine lv_iload hx hb dL_law_1079 (lv_at hl 0 rfl) ?_
          refine lv_aload_n hx hb dL_law_1081 rfl (lv_at hl 3 rfl) ?_
          refine lv_iconst (v := (0 : Int32)) hx hb dL_law_1082 (by decide) ?_
          refine g_callV_i (nA := 1) (o := M_X10_account σ9 a0 (0 : Int32)) (As := [.int (0 : Int32)]) X.1 hG hA0 rfl rfl (fun _ _ h => C_X10_account l E h hA0) mw959 mw960 mw961 mw12 (gw_ok mw962 rfl) (by decide +kernel) rfl ⟨Nat.le_of_ble_eq_true rfl, Nat.le_of_ble_eq_true rfl⟩ hl.1 rfl (Nat.le_of_ble_eq_true rfl) ⟨Nat.le_of_ble_eq_true rfl, Nat.le_of_ble_eq_true rfl⟩ dL_law_1083 hM (fun σ11 r12 H locs hG hM => ?_)
          refine lv_icmp_ne (tgt := 1098) hx hb dL_law_1086 (by decide) (fun c16 => ?_) (fun c16 => ?_)
          · have hM := b_else hM c16
            cases hM
          · have hM := b_if hM c16
            refine lv_aload_n hx hb dL_law_1089 rfl (lv_at hl 3 rfl) ?_
            refine g_callAsk X hs0 (dr_an hs0 hAn) hG hA0 mw1054 ⟨Nat.le_of_ble_eq_true rfl, Nat.le_of_ble_eq_true rfl⟩ hl.1 (Nat.le_of_ble_eq_true rfl) ⟨Nat.le_of_ble_eq_true rfl, Nat.le_of_ble_eq_true rfl⟩ dL_law_1090 hM (fun σ13 r14 s H locs X hs0 _ hG hM => ?_)
            have hx := X.1.1.1
            have hb := X.1.1.2.1
            refine lv_lload_n hx hb dL_law_1093 rfl (lv_at hl 1 rfl) ?_
            refine W.lcmp hx hb dL_law_1094 ?_
            refine lv_if_eq (tgt := 1100) hx hb dL_law_1095 (by decide) (fun c15 => ?_) (fun c15 => ?_)
            · have hM := b_if hM c15
              exact hKX _ X hs0 σ13 r4 r10 _ _ _ hG (lv_sub hl [2, 3, 1, 0] rfl) hM
            · have hM := b_else hM c15
              cases hM
        · have hM := b_if hM c17
          cases hM
    · have hM := b_else hM c47
      refine lv_aload_n hx hb dL_law_967 rfl (lv_at hl 1 rfl) ?_
      refine lv_aload_n hx hb dL_law_968 rfl (lv_at hl 0 rfl) ?_
      refine lv_bipush (v := (24 : Int32)) hx hb dL_law_969 (by decide) ?_
      refine lv_iload_n hx hb dL_law_971 rfl (lv_at hl 2 rfl) ?_
      refine lv_iadd hx hb dL_law_972 ?_
      refine g_callS_i (nA := 2) (o := M_L_at σ w ((24 : Int32) + x3)) (As := [.ref (eX E jx).1, .int ((24 : Int32) + x3)]) X.1 hG (fun _ _ h => C_L_at l E h hw) mw1006 mw1007 mw11 (gw_ok mw1008 rfl) (by decide +kernel) rfl ⟨Nat.le_of_ble_eq_true rfl, Nat.le_of_ble_eq_true rfl⟩ hl.1 rfl (Nat.le_of_ble_eq_true rfl) ⟨Nat.le_of_ble_eq_true rfl, Nat.le_of_ble_eq_true rfl⟩ dL_law_973 hM (fun σ19 r20 H locs hG hM => ?_)
      refine lv_iconst (v := (2 : Int32)) hx hb dL_law_976 (by decide) ?_
      refine g_callS_i (nA := 2) (o := M_L_some σ19 r20 (2 : Int32)) (As := [.int r20, .int (2 : Int32)]) X.1 hG (fun _ _ h => C_L_some l E h ) mw1009 mw1010 mw11 (gw_ok mw1011 rfl) (by decide +kernel) rfl ⟨Nat.le_of_ble_eq_true rfl, Nat.le_of_ble_eq_true rfl⟩ hl.1 rfl (Nat.le_of_ble_eq_true rfl) ⟨Nat.le_of_ble_eq_true rfl, Nat.le_of_ble_eq_true rfl⟩ dL_law_977 hM (fun σ21 r22 H locs hG hM => ?_)
      refine lv_iconst (v := (1 : Int32)) hx hb dL_law_980 (by decide) ?_
      refine lv_aload_n hx hb dL_law_981 rfl (lv_at hl 0 rfl) ?_
      refine lv_bipush (v := (24 : Int32)) hx hb dL_law_982 (by decide) ?_
      refine lv_iload_n hx hb dL_law_984 rfl (lv_at hl 2 rfl) ?_
      refine lv_iadd hx hb dL_law_985 ?_
      refine g_callS_i (nA := 2) (o := M_L_at σ21 w ((24 : Int32) + x3)) (As := [.ref (eX E jx).1, .int ((24 : Int32) + x3)]) X.1 hG (fun _ _ h => C_L_at l E h hw) mw1006 mw1007 mw11 (gw_ok mw1008 rfl) (by decide +kernel) rfl ⟨Nat.le_of_ble_eq_true rfl, Nat.le_of_ble_eq_true rfl⟩ hl.1 rfl (Nat.le_of_ble_eq_true rfl) ⟨Nat.le_of_ble_eq_true rfl, Nat.le_of_ble_eq_true rfl⟩ dL_law_986 hM (fun σ23 r24 H locs hG hM => ?_)
      refine lv_iconst (v := (3 : Int32)) hx hb dL_law_989 (by decide) ?_
      refine lv_ishr hx hb dL_law_990 ?_
      refine lv_iconst (v := (4 : Int32)) hx hb dL_law_991 (by decide) ?_
      refine g_callS_i (nA := 2) (o := M_L_some σ23 (r24 >>> ((3 : Int32) &&& 31)) (4 : Int32)) (As := [.int (r24 >>> ((3 : Int32) &&& 31)), .int (4 : Int32)]) X.1 hG (fun _ _ h => C_L_some l E h ) mw1009 mw1010 mw11 (gw_ok mw1011 rfl) (by decide +kernel) rfl ⟨Nat.le_of_ble_eq_true rfl, Nat.le_of_ble_eq_true rfl⟩ hl.1 rfl (Nat.le_of_ble_eq_true rfl) ⟨Nat.le_of_ble_eq_true rfl, Nat.le_of_ble_eq_true rfl⟩ dL_law_992 hM (fun σ25 r26 H locs hG hM => ?_)
      refine lv_iadd hx hb dL_law_995 ?_
      refine g_callV_i (nA := 2) (o := M_X10_lift σ25 a0 r22 ((1 : Int32) + r26)) (As := [.int r22, .int ((1 : Int32) + r26)]) X.1 hG hA0 rfl rfl (fun _ _ h => C_X10_lift l E h hA0) mw581 mw582 mw583 mw12 (gw_ok mw584 rfl) (by decide +kernel) rfl ⟨Nat.le_of_ble_eq_true rfl, Nat.le_of_ble_eq_true rfl⟩ hl.1 rfl (Nat.le_of_ble_eq_true rfl) ⟨Nat.le_of_ble_eq_true rfl, Nat.le_of_ble_eq_true rfl⟩ dL_law_996 hM (fun σ27 r28 H locs hG hM => ?_)
      refine lv_istore (lv' := [(4, .int r28), (0, .ref (eX E jx).1), (2, .ref (E.1 a0)), (3, .int x3)]) hx hb dL_law_999 hl (by decide) rfl (fun ls hl => ?_)
      refine lv_iload hx hb dL_law_1001 (lv_at hl 0 rfl) ?_
      refine lv_if_ge (tgt := 1015) hx hb dL_law_1003 (by decide) (fun c46 => ?_) (fun c46 => ?_)
      · have hM := b_if hM c46
        refine lv_aload_n hx hb dL_law_1015 rfl (lv_at hl 2 rfl) ?_
        refine lv_iload_n hx hb dL_law_1016 rfl (lv_at hl 3 rfl) ?_
        refine lv_aload_n hx hb dL_law_1017 rfl (lv_at hl 1 rfl) ?_
        refine lv_bipush (v := (24 : Int32)) hx hb dL_law_1018 (by decide) ?_
        refine lv_iload_n hx hb dL_law_1020 rfl (lv_at hl 3 rfl) ?_
        refine lv_iadd hx hb dL_law_1021 ?_
        refine g_callS_i (nA := 2) (o := M_L_at σ27 w ((24 : Int32) + x3)) (As := [.ref (eX E jx).1, .int ((24 : Int32) + x3)]) X.1 hG (fun _ _ h => C_L_at l E h hw) mw1006 mw1007 mw11 (gw_ok mw1008 rfl) (by decide +kernel) rfl ⟨Nat.le_of_ble_eq_true rfl, Nat.le_of_ble_eq_true rfl⟩ hl.1 rfl (Nat.le_of_ble_eq_true rfl) ⟨Nat.le_of_ble_eq_true rfl, Nat.le_of_ble_eq_true rfl⟩ dL_law_1022 hM (fun σ29 r30 H locs hG hM => ?_)
        refine lv_bipush (v := (6 : Int32)) hx hb dL_law_1025 (by decide) ?_
        refine lv_ishr hx hb dL_law_1027 ?_
        refine lv_iconst (v := (2 : Int32)) hx hb dL_law_1028 (by decide) ?_
        refine g_callS_i (nA := 2) (o := M_L_some σ29 (r30 >>> ((6 : Int32) &&& 31)) (2 : Int32)) (As := [.int (r30 >>> ((6 : Int32) &&& 31)), .int (2 : Int32)]) X.1 hG (fun _ _ h => C_L_some l E h ) mw1009 mw1010 mw11 (gw_ok mw1011 rfl) (by decide +kernel) rfl ⟨Nat.le_of_ble_eq_true rfl, Nat.le_of_ble_eq_true rfl⟩ hl.1 rfl (Nat.le_of_ble_eq_true rfl) ⟨Nat.le_of_ble_eq_true rfl, Nat.le_of_ble_eq_true rfl⟩ dL_law_1029 hM (fun σ31 r32 H locs hG hM => ?_)
        refine g_callV_i (nA := 2) (o := M_X10_up σ31 a0 x3 r32) (As := [.int x3, .int r32]) X.1 hG hA0 rfl rfl (fun _ _ h => C_X10_up l E h hA0) mw510 mw511 mw512 mw12 (gw_ok mw513 rfl) (by decide +kernel) rfl ⟨Nat.le_of_ble_eq_true rfl, Nat.le_of_ble_eq_true rfl⟩ hl.1 rfl (Nat.le_of_ble_eq_true rfl) ⟨Nat.le_of_ble_eq_true rfl, Nat.le_of_ble_eq_true rfl⟩ dL_law_1032 hM (fun σ33 r34 H locs hG hM => ?_)
        refine lv_istore (lv' := [(4, .int r34), (0, .ref (eX E jx).1), (2, .ref (E.1 a0)), (3, .int x3)]) hx hb dL_law_1035 hl (by decide) rfl (fun ls hl => ?_)
        refine lv_iload hx hb dL_law_1037 (lv_at hl 0 rfl) ?_
        refine lv_if_ge (tgt := 1044) hx hb dL_law_1039 (by decide) (fun c36 => ?_) (fun c36 => ?_)
        · have hM := b_if hM c36
          obtain ⟨v35, ev35, hM⟩ := g_nm hM
          refine lv_iinc (v := v35) (lv' := [(3, .int v35), (4, .int r34), (0, .ref (eX E jx).1), (2, .ref (E.1 a0))]) hx hb dL_law_1044 hl (k := 3) rfl (by rw [ev35]; rfl) (by decide) rfl (fun ls hl => ?_)
          refine lv_goto (tgt := 962) hx hb dL_law_1047 (by decide) ?_
          exact ih0 σ33 v35 _ _ _ z hKX hG (lv_sub hl [2, 3, 0] rfl) hM
        · have hM := b_else hM c36
          cases hM
      · have hM := b_else hM c46
        refine lv_iload hx hb dL_law_1006 (lv_at hl 0 rfl) ?_
        refine lv_bipush (v := (-3 : Int32)) hx hb dL_law_1008 (by decide) ?_
        refine lv_icmp_eq (tgt := 1015) hx hb dL_law_1010 (by decide) (fun c45 => ?_) (fun c45 => ?_)
        · have hM := b_if hM c45
          refine lv_aload_n hx hb dL_law_1015 rfl (lv_at hl 2 rfl) ?_
          refine lv_iload_n hx hb dL_law_1016 rfl (lv_at hl 3 rfl) ?_
          refine lv_aload_n hx hb dL_law_1017 rfl (lv_at hl 1 rfl) ?_
          refine lv_bipush (v := (24 : Int32)) hx hb dL_law_1018 (by decide) ?_
          refine lv_iload_n hx hb dL_law_1020 rfl (lv_at hl 3 rfl) ?_
          refine lv_iadd hx hb dL_law_1021 ?_
          refine g_callS_i (nA := 2) (o := M_L_at σ27 w ((24 : Int32) + x3)) (As := [.ref (eX E jx).1, .int ((24 : Int32) + x3)]) X.1 hG (fun _ _ h => C_L_at l E h hw) mw1006 mw1007 mw11 (gw_ok mw1008 rfl) (by decide +kernel) rfl ⟨Nat.le_of_ble_eq_true rfl, Nat.le_of_ble_eq_true rfl⟩ hl.1 rfl (Nat.le_of_ble_eq_true rfl) ⟨Nat.le_of_ble_eq_true rfl, Nat.le_of_ble_eq_true rfl⟩ dL_law_1022 hM (fun σ37 r38 H locs hG hM => ?_)
          refine lv_bipush (v := (6 : Int32)) hx hb dL_law_1025 (by decide) ?_
          refine lv_ishr hx hb dL_law_1027 ?_
          refine lv_iconst (v := (2 : Int32)) hx hb dL_law_1028 (by decide) ?_
          refine g_callS_i (nA := 2) (o := M_L_some σ37 (r38 >>> ((6 : Int32) &&& 31)) (2 : Int32)) (As := [.int (r38 >>> ((6 : Int32) &&& 31)), .int (2 : Int32)]) X.1 hG (fun _ _ h => C_L_some l E h ) mw1009 mw1010 mw11 (gw_ok mw1011 rfl) (by decide +kernel) rfl ⟨Nat.le_of_ble_eq_true rfl, Nat.le_of_ble_eq_true rfl⟩ hl.1 rfl (Nat.le_of_ble_eq_true rfl) ⟨Nat.le_of_ble_eq_true rfl, Nat.le_of_ble_eq_true rfl⟩ dL_law_1029 hM (fun σ39 r40 H locs hG hM => ?_)
          refine g_callV_i (nA := 2) (o := M_X10_up σ39 a0 x3 r40) (As := [.int x3, .int r40]) X.1 hG hA0 rfl rfl (fun _ _ h => C_X10_up l E h hA0) mw510 mw511 mw512 mw12 (gw_ok mw513 rfl) (by decide +kernel) rfl ⟨Nat.le_of_ble_eq_true rfl, Nat.le_of_ble_eq_true rfl⟩ hl.1 rfl (Nat.le_of_ble_eq_true rfl) ⟨Nat.le_of_ble_eq_true rfl, Nat.le_of_ble_eq_true rfl⟩ dL_law_1032 hM (fun σ41 r42 H locs hG hM => ?_)
          refine lv_istore (lv' := [(4, .int r42), (0, .ref (eX E jx).1), (2, .ref (E.1 a0)), (3, .int x3)]) hx hb dL_law_1035 hl (by decide) rfl (fun ls hl => ?_)
          refine lv_iload hx hb dL_law_1037 (lv_at hl 0 rfl) ?_
          refine lv_if_ge (tgt := 1044) hx hb dL_law_1039 (by decide) (fun c44 => ?_) (fun c44 => ?_)
          · have hM := b_if hM c44
            obtain ⟨v43, ev43, hM⟩ := g_nm hM
            refine lv_iinc (v := v43) (lv' := [(3, .int v43), (4, .int r42), (0, .ref (eX E jx).1), (2, .ref (E.1 a0))]) hx hb dL_law_1044 hl (k := 3) rfl (by rw [ev43]; rfl) (by decide) rfl (fun ls hl => ?_)
            refine lv_goto (tgt := 962) hx hb dL_law_1047 (by decide) ?_
            exact ih0 σ41 v43 _ _ _ z hKX hG (lv_sub hl [2, 3, 0] rfl) hM
          · have hM := b_else hM c44
            cases hM
        · have hM := b_else hM c45
          cases hM
set_option maxRecDepth 20000 in
set_option maxHeartbeats 4000000 in
theorem w_LO_950 {p : Program} {l : Launch} {e : Env} {s : State} {m : MethodId} {below : List Frame} {meth : Method} {c : Code} {args : Array Value} {E : Ev} {s0 : State} {Q : State → Prop} {jx : Nat} {a0 : Nat} {w : (Nat × (Nat → Int32))} (X : Bx E p m meth c cL_law 11 (some .boolean) s args RL) (hs0 : Dr s0 s) (hAn : ∀ q, s0.heap.size ≤ q → AE E q) (hA0 : lay 10 a0) (hw : jx < nX E ∧ (eX E jx).2 = w) (KX : St → Int64 → Int32 → Option (St × Int32)) : ∀ (σ : St) (H : Heap) (locs : List Loc) (ls : Array Slot) (z : St × Int32) (hKX : ∀ (s : State) (X : Bx E p m meth c cL_law 11 (some .boolean) s args RL) (hs0 : Dr s0 s) (σ : St) (x3 : Int64) (x5 : Int32) (H : Heap) (locs : List Loc) (ls : Array Slot), GS E σ s.heap H locs → lv_has ls 11 [(0, .ref (eX E jx).1), (2, .ref (E.1 a0)), (3, .long x3), (5, .int x5)] → KX σ x3 x5 = some z → W p l e room_1 s m args below meth c H locs (505) (4112) Q (F0 m 1100 ls [])), GS E σ s.heap H locs → lv_has ls 11 [(0, .ref (eX E jx).1), (2, .ref (E.1 a0))] → B_LO_950 KX σ a0 w = some z → W p l e room_1 s m args below meth c H locs (504) (4110) Q (F0 m 950 ls []) := by
  have hx := X.1.1.1
  have hb := X.1.1.2.1
  intro σ  H locs ls z hKX hG hl hM
  unfold B_LO_950 at hM
  refine lv_aload_n hx hb dL_law_950 rfl (lv_at hl 1 rfl) ?_
  refine lv_aload_n hx hb dL_law_951 rfl (lv_at hl 0 rfl) ?_
  refine g_callS_i (nA := 2) (o := M_L_makes σ a0 w) (As := [.ref (E.1 a0), .ref (eX E jx).1]) X.1 hG (fun _ _ h => C_L_makes l E h hA0 hw) mw1051 mw1052 mw11 (gw_ok mw1053 rfl) (by decide +kernel) rfl ⟨Nat.le_of_ble_eq_true rfl, Nat.le_of_ble_eq_true rfl⟩ hl.1 rfl (Nat.le_of_ble_eq_true rfl) ⟨Nat.le_of_ble_eq_true rfl, Nat.le_of_ble_eq_true rfl⟩ dL_law_952 hM (fun σ1 r2 H locs hG hM => ?_)
  refine lv_if_ne (tgt := 960) hx hb dL_law_955 (by decide) (fun c48 => ?_) (fun c48 => ?_)
  · have hM := b_else hM c48
    refine lv_iconst (v := (0 : Int32)) hx hb dL_law_960 (by decide) ?_
    refine lv_istore_n (lv' := [(3, .int (0 : Int32)), (0, .ref (eX E jx).1), (2, .ref (E.1 a0))]) hx hb dL_law_961 rfl hl (by decide) rfl (fun ls hl => ?_)
    exact w_LO_962 X hs0 hAn hA0 hw KX FU σ1 (0 : Int32) _ _ _ z hKX hG (lv_sub hl [1, 2, 0] rfl) hM
  · have hM := b_if hM c48
    cases hM
