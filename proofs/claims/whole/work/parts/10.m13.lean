def M_X11_up (σ : St) (k : Nat) (p0 p1 : Int32) : Option (St × Int32) := bcall (M_X11_tries σ k) fun σ1 r2 => bcall (M_X11_goesUp σ1 k p0 p1) fun σ3 r4 => bcall (M_X11_ends σ3 k r4) fun σ5 r6 => some (σ5, r6)
set_option maxRecDepth 20000 in
set_option maxHeartbeats 4000000 in
theorem C_X11_up (l : Launch) (E : Ev) {σ σ' : St} {k : Nat} {p0 : Int32} {p1 : Int32} {r : Int32} (h : M_X11_up σ k p0 p1 = some (σ', r)) (hL : lay 11 k) : Mi l E yX11_up cX11_up 3 (some .int) 4 [.ref (E.1 k), .int p0, .int p1] σ σ' r := by
  refine Mi_of (C := RX11) rfl (by decide) (Nat.le_of_ble_eq_true rfl) (z := (σ', r)) (fun p e s m below meth c ls X hG hl => ?_)
  have hx := X.1.1.1
  have hb := X.1.1.2.1
  have hM := h
  unfold M_X11_up at hM
  generalize (σ', r) = z at hM ⊢
  have hl : lv_has ls 3 [(0, .ref (E.1 k)), (1, .int p0), (2, .int p1)] := hl
  refine lv_aload_n hx hb dX11_up_0 rfl (lv_at hl 0 rfl) ?_
  refine g_callV_v (nA := 0) (o := M_X11_tries σ k) (As := []) X.1 hG hL rfl rfl (fun _ _ h => C_X11_tries l E h hL) mw1189 mw1191 mw12 mw62 (gw_ok mw1192 rfl) (by decide +kernel) rfl ⟨Nat.le_of_ble_eq_true rfl, Nat.le_of_ble_eq_true rfl⟩ hl.1 rfl (Nat.le_of_ble_eq_true rfl) ⟨Nat.le_refl _, Nat.le_refl _⟩ dX11_up_1 hM (fun σ1 r2 H locs hG hM => ?_)
  refine lv_aload_n hx hb dX11_up_4 rfl (lv_at hl 0 rfl) ?_
  refine lv_aload_n hx hb dX11_up_5 rfl (lv_at hl 0 rfl) ?_
  refine lv_iload_n hx hb dX11_up_6 rfl (lv_at hl 1 rfl) ?_
  refine lv_iload_n hx hb dX11_up_7 rfl (lv_at hl 2 rfl) ?_
  refine g_callV_i (nA := 2) (o := M_X11_goesUp σ1 k p0 p1) (As := [.int p0, .int p1]) X.1 hG hL rfl rfl (fun _ _ h => C_X11_goesUp l E h hL) mw1254 mw1256 mw23 mw62 (gw_ok mw1257 rfl) (by decide +kernel) rfl ⟨Nat.le_of_ble_eq_true rfl, Nat.le_of_ble_eq_true rfl⟩ hl.1 rfl (Nat.le_of_ble_eq_true rfl) ⟨Nat.le_refl _, Nat.le_refl _⟩ dX11_up_8 hM (fun σ3 r4 H locs hG hM => ?_)
  refine g_callV_i (nA := 1) (o := M_X11_ends σ3 k r4) (As := [.int r4]) X.1 hG hL rfl rfl (fun _ _ h => C_X11_ends l E h hL) mw1226 mw1228 mw19 mw62 (gw_ok mw1229 rfl) (by decide +kernel) rfl ⟨Nat.le_of_ble_eq_true rfl, Nat.le_of_ble_eq_true rfl⟩ hl.1 rfl (Nat.le_of_ble_eq_true rfl) ⟨Nat.le_refl _, Nat.le_refl _⟩ dX11_up_11 hM (fun σ5 r6 H locs hG hM => ?_)
  exact e_iret X hG dX11_up_14 hM
def M_X11_carries (σ : St) (k : Nat)  : Option (St × Int32) := if (σ k 12).toInt < 98 ∨ 117 < (σ k 12).toInt then (bald σ (k + 8) (0 : Int32) fun q2 => bcall (M_X11_days σ k q2) fun σ3 r4 => some (σ3, r4)) else if (σ k 12).toInt = 98 then (bald σ (k + 8) (0 : Int32) fun q6 => bald σ (k + 8) (1 : Int32) fun q7 => bald σ (k + 8) (2 : Int32) fun q8 => bcall (M_X11_builds σ k q6 q7 q8) fun σ9 r10 => some (σ9, r10)) else if (σ k 12).toInt = 99 then (bald σ (k + 8) (0 : Int32) fun q12 => bcall (M_X11_days σ k q12) fun σ13 r14 => some (σ13, r14)) else if (σ k 12).toInt = 100 then (bald σ (k + 8) (0 : Int32) fun q16 => bcall (M_X11_comesDown σ k q16) fun σ17 r18 => some (σ17, r18)) else if (σ k 12).toInt = 101 then (bald σ (k + 8) (0 : Int32) fun q20 => bcall (M_X11_days σ k q20) fun σ21 r22 => some (σ21, r22)) else if (σ k 12).toInt = 102 then (bald σ (k + 8) (0 : Int32) fun q24 => bcall (M_X11_days σ k q24) fun σ25 r26 => some (σ25, r26)) else if (σ k 12).toInt = 103 then (bald σ (k + 8) (0 : Int32) fun q28 => bcall (M_X11_signals σ k q28) fun σ29 r30 => some (σ29, r30)) else if (σ k 12).toInt = 104 then (bald σ (k + 8) (0 : Int32) fun q32 => bcall (M_X11_days σ k q32) fun σ33 r34 => some (σ33, r34)) else if (σ k 12).toInt = 105 then (bald σ (k + 8) (0 : Int32) fun q36 => bald σ (k + 8) (1 : Int32) fun q37 => bcall (M_X11_inspects σ k q36 q37) fun σ38 r39 => some (σ38, r39)) else if (σ k 12).toInt = 106 then (bald σ (k + 8) (0 : Int32) fun q41 => bcall (M_X11_days σ k q41) fun σ42 r43 => some (σ42, r43)) else if (σ k 12).toInt = 107 then (bald σ (k + 8) (0 : Int32) fun q45 => bcall (M_X11_days σ k q45) fun σ46 r47 => some (σ46, r47)) else if (σ k 12).toInt = 108 then (bald σ (k + 8) (0 : Int32) fun q49 => bald σ (k + 8) (1 : Int32) fun q50 => bcall (M_X11_lifts σ k q49 q50) fun σ51 r52 => some (σ51, r52)) else if (σ k 12).toInt = 109 then (bald σ (k + 8) (0 : Int32) fun q54 => bcall (M_X11_days σ k q54) fun σ55 r56 => some (σ55, r56)) else if (σ k 12).toInt = 110 then (bald σ (k + 8) (0 : Int32) fun q58 => bcall (M_X11_days σ k q58) fun σ59 r60 => some (σ59, r60)) else if (σ k 12).toInt = 111 then (bald σ (k + 8) (0 : Int32) fun q62 => bcall (M_X11_days σ k q62) fun σ63 r64 => some (σ63, r64)) else if (σ k 12).toInt = 112 then (bald σ (k + 8) (0 : Int32) fun q66 => bcall (M_X11_days σ k q66) fun σ67 r68 => some (σ67, r68)) else if (σ k 12).toInt = 113 then (bald σ (k + 8) (0 : Int32) fun q70 => bcall (M_X11_days σ k q70) fun σ71 r72 => some (σ71, r72)) else if (σ k 12).toInt = 114 then (bald σ (k + 8) (0 : Int32) fun q74 => bcall (M_X11_days σ k q74) fun σ75 r76 => some (σ75, r76)) else if (σ k 12).toInt = 115 then (bald σ (k + 8) (0 : Int32) fun q78 => bcall (M_X11_days σ k q78) fun σ79 r80 => some (σ79, r80)) else if (σ k 12).toInt = 116 then (bald σ (k + 8) (0 : Int32) fun q82 => bcall (M_X11_ties σ k q82) fun σ83 r84 => some (σ83, r84)) else if (σ k 12).toInt = 117 then (bald σ (k + 8) (0 : Int32) fun q86 => bald σ (k + 8) (1 : Int32) fun q87 => bcall (M_X11_goesUp σ k q86 q87) fun σ88 r89 => some (σ88, r89)) else none
set_option maxRecDepth 20000 in
set_option maxHeartbeats 4000000 in
theorem C_X11_carries (l : Launch) (E : Ev) {σ σ' : St} {k : Nat} {r : Int32} (h : M_X11_carries σ k = some (σ', r)) (hL : lay 11 k) : Mi l E yX11_carries cX11_carries 1 (some .int) 6 [.ref (E.1 k)] σ σ' r := by
  refine Mi_of (C := RX11) rfl (by decide) (Nat.le_of_ble_eq_true rfl) (z := (σ', r)) (fun p e s m below meth c ls X hG hl => ?_)
  have hx := X.1.1.1
  have hb := X.1.1.2.1
  have hM := h
  unfold M_X11_carries at hM
  generalize (σ', r) = z at hM ⊢
  have hl : lv_has ls 1 [(0, .ref (E.1 k))] := hl
  refine lv_aload_n hx hb dX11_carries_0 rfl (lv_at hl 0 rfl) ?_
  refine gt_11_12 X.1 hG hL mw1131 dX11_carries_1 ?_
  by_cases c1 : (σ k 12).toInt < 98 ∨ 117 < (σ k 12).toInt
  · have hM := b_if hM c1
    refine lv_tableOut (tgt := 207) hx hb dX11_carries_4 c1 (by decide) ?_
    refine lv_aload_n hx hb dX11_carries_207 rfl (lv_at hl 0 rfl) ?_
    refine lv_aload_n hx hb dX11_carries_208 rfl (lv_at hl 0 rfl) ?_
    refine gt_11_13 X.1 hG hL mw1132 dX11_carries_209 ?_
    refine lv_iconst (v := (0 : Int32)) hx hb dX11_carries_212 (by decide) ?_
    refine g_ald X.1 hG (lf_11_13 hL) dX11_carries_213 hM (fun q2 hM => ?_)
    refine g_callV_i (nA := 1) (o := M_X11_days σ k q2) (As := [.int q2]) X.1 hG hL rfl rfl (fun _ _ h => C_X11_days l E h hL) mw1323 mw1325 mw34 mw62 (gw_ok mw1326 rfl) (by decide +kernel) rfl ⟨Nat.le_of_ble_eq_true rfl, Nat.le_of_ble_eq_true rfl⟩ hl.1 rfl (Nat.le_of_ble_eq_true rfl) ⟨Nat.le_refl _, Nat.le_refl _⟩ dX11_carries_214 hM (fun σ3 r4 H locs hG hM => ?_)
    exact e_iret X hG dX11_carries_217 hM
  · have hM := b_else hM c1
    by_cases c5 : (σ k 12).toInt = 98
    · have hM := b_if hM c5
      refine lv_tableIn (tgt := 100) hx hb dX11_carries_4 (fun h => c1 (Or.inl h)) (fun h => c1 (Or.inr h)) (by rw [c5]; rfl) (by decide) ?_
      refine lv_aload_n hx hb dX11_carries_100 rfl (lv_at hl 0 rfl) ?_
      refine lv_aload_n hx hb dX11_carries_101 rfl (lv_at hl 0 rfl) ?_
      refine gt_11_13 X.1 hG hL mw1132 dX11_carries_102 ?_
      refine lv_iconst (v := (0 : Int32)) hx hb dX11_carries_105 (by decide) ?_
      refine g_ald X.1 hG (lf_11_13 hL) dX11_carries_106 hM (fun q6 hM => ?_)
      refine lv_aload_n hx hb dX11_carries_107 rfl (lv_at hl 0 rfl) ?_
      refine gt_11_13 X.1 hG hL mw1132 dX11_carries_108 ?_
      refine lv_iconst (v := (1 : Int32)) hx hb dX11_carries_111 (by decide) ?_
      refine g_ald X.1 hG (lf_11_13 hL) dX11_carries_112 hM (fun q7 hM => ?_)
      refine lv_aload_n hx hb dX11_carries_113 rfl (lv_at hl 0 rfl) ?_
      refine gt_11_13 X.1 hG hL mw1132 dX11_carries_114 ?_
      refine lv_iconst (v := (2 : Int32)) hx hb dX11_carries_117 (by decide) ?_
      refine g_ald X.1 hG (lf_11_13 hL) dX11_carries_118 hM (fun q8 hM => ?_)
      refine g_callV_i (nA := 3) (o := M_X11_builds σ k q6 q7 q8) (As := [.int q6, .int q7, .int q8]) X.1 hG hL rfl rfl (fun _ _ h => C_X11_builds l E h hL) mw1210 mw1212 mw15 mw62 (gw_ok mw1213 rfl) (by decide +kernel) rfl ⟨Nat.le_of_ble_eq_true rfl, Nat.le_of_ble_eq_true rfl⟩ hl.1 rfl (Nat.le_of_ble_eq_true rfl) ⟨Nat.le_refl _, Nat.le_refl _⟩ dX11_carries_119 hM (fun σ9 r10 H locs hG hM => ?_)
      exact e_iret X hG dX11_carries_122 hM
    have hM := b_else hM c5
    by_cases c11 : (σ k 12).toInt = 99
    · have hM := b_if hM c11
      refine lv_tableIn (tgt := 207) hx hb dX11_carries_4 (fun h => c1 (Or.inl h)) (fun h => c1 (Or.inr h)) (by rw [c11]; rfl) (by decide) ?_
      refine lv_aload_n hx hb dX11_carries_207 rfl (lv_at hl 0 rfl) ?_
      refine lv_aload_n hx hb dX11_carries_208 rfl (lv_at hl 0 rfl) ?_
      refine gt_11_13 X.1 hG hL mw1132 dX11_carries_209 ?_
      refine lv_iconst (v := (0 : Int32)) hx hb dX11_carries_212 (by decide) ?_
      refine g_ald X.1 hG (lf_11_13 hL) dX11_carries_213 hM (fun q12 hM => ?_)
      refine g_callV_i (nA := 1) (o := M_X11_days σ k q12) (As := [.int q12]) X.1 hG hL rfl rfl (fun _ _ h => C_X11_days l E h hL) mw1323 mw1325 mw34 mw62 (gw_ok mw1326 rfl) (by decide +kernel) rfl ⟨Nat.le_of_ble_eq_true rfl, Nat.le_of_ble_eq_true rfl⟩ hl.1 rfl (Nat.le_of_ble_eq_true rfl) ⟨Nat.le_refl _, Nat.le_refl _⟩ dX11_carries_214 hM (fun σ13 r14 H locs hG hM => ?_)
      exact e_iret X hG dX11_carries_217 hM
    have hM := b_else hM c11
    by_cases c15 : (σ k 12).toInt = 100
    · have hM := b_if hM c15
      refine lv_tableIn (tgt := 151) hx hb dX11_carries_4 (fun h => c1 (Or.inl h)) (fun h => c1 (Or.inr h)) (by rw [c15]; rfl) (by decide) ?_
      refine lv_aload_n hx hb dX11_carries_151 rfl (lv_at hl 0 rfl) ?_
      refine lv_aload_n hx hb dX11_carries_152 rfl (lv_at hl 0 rfl) ?_
      refine gt_11_13 X.1 hG hL mw1132 dX11_carries_153 ?_
      refine lv_iconst (v := (0 : Int32)) hx hb dX11_carries_156 (by decide) ?_
      refine g_ald X.1 hG (lf_11_13 hL) dX11_carries_157 hM (fun q16 hM => ?_)
      refine g_callV_i (nA := 1) (o := M_X11_comesDown σ k q16) (As := [.int q16]) X.1 hG hL rfl rfl (fun _ _ h => C_X11_comesDown l E h hL) mw1283 mw1285 mw29 mw62 (gw_ok mw1286 rfl) (by decide +kernel) rfl ⟨Nat.le_of_ble_eq_true rfl, Nat.le_of_ble_eq_true rfl⟩ hl.1 rfl (Nat.le_of_ble_eq_true rfl) ⟨Nat.le_refl _, Nat.le_refl _⟩ dX11_carries_158 hM (fun σ17 r18 H locs hG hM => ?_)
      exact e_iret X hG dX11_carries_161 hM
    have hM := b_else hM c15
    by_cases c19 : (σ k 12).toInt = 101
    · have hM := b_if hM c19
      refine lv_tableIn (tgt := 207) hx hb dX11_carries_4 (fun h => c1 (Or.inl h)) (fun h => c1 (Or.inr h)) (by rw [c19]; rfl) (by decide) ?_
      refine lv_aload_n hx hb dX11_carries_207 rfl (lv_at hl 0 rfl) ?_
      refine lv_aload_n hx hb dX11_carries_208 rfl (lv_at hl 0 rfl) ?_
      refine gt_11_13 X.1 hG hL mw1132 dX11_carries_209 ?_
      refine lv_iconst (v := (0 : Int32)) hx hb dX11_carries_212 (by decide) ?_
      refine g_ald X.1 hG (lf_11_13 hL) dX11_carries_213 hM (fun q20 hM => ?_)
      refine g_callV_i (nA := 1) (o := M_X11_days σ k q20) (As := [.int q20]) X.1 hG hL rfl rfl (fun _ _ h => C_X11_days l E h hL) mw1323 mw1325 mw34 mw62 (gw_ok mw1326 rfl) (by decide +kernel) rfl ⟨Nat.le_of_ble_eq_true rfl, Nat.le_of_ble_eq_true rfl⟩ hl.1 rfl (Nat.le_of_ble_eq_true rfl) ⟨Nat.le_refl _, Nat.le_refl _⟩ dX11_carries_214 hM (fun σ21 r22 H locs hG hM => ?_)
      exact e_iret X hG dX11_carries_217 hM
    have hM := b_else hM c19
    by_cases c23 : (σ k 12).toInt = 102
    · have hM := b_if hM c23
      refine lv_tableIn (tgt := 207) hx hb dX11_carries_4 (fun h => c1 (Or.inl h)) (fun h => c1 (Or.inr h)) (by rw [c23]; rfl) (by decide) ?_
      refine lv_aload_n hx hb dX11_carries_207 rfl (lv_at hl 0 rfl) ?_
      refine lv_aload_n hx hb dX11_carries_208 rfl (lv_at hl 0 rfl) ?_
      refine gt_11_13 X.1 hG hL mw1132 dX11_carries_209 ?_
      refine lv_iconst (v := (0 : Int32)) hx hb dX11_carries_212 (by decide) ?_
      refine g_ald X.1 hG (lf_11_13 hL) dX11_carries_213 hM (fun q24 hM => ?_)
      refine g_callV_i (nA := 1) (o := M_X11_days σ k q24) (As := [.int q24]) X.1 hG hL rfl rfl (fun _ _ h => C_X11_days l E h hL) mw1323 mw1325 mw34 mw62 (gw_ok mw1326 rfl) (by decide +kernel) rfl ⟨Nat.le_of_ble_eq_true rfl, Nat.le_of_ble_eq_true rfl⟩ hl.1 rfl (Nat.le_of_ble_eq_true rfl) ⟨Nat.le_refl _, Nat.le_refl _⟩ dX11_carries_214 hM (fun σ25 r26 H locs hG hM => ?_)
      exact e_iret X hG dX11_carries_217 hM
    have hM := b_else hM c23
    by_cases c27 : (σ k 12).toInt = 103
    · have hM := b_if hM c27
      refine lv_tableIn (tgt := 179) hx hb dX11_carries_4 (fun h => c1 (Or.inl h)) (fun h => c1 (Or.inr h)) (by rw [c27]; rfl) (by decide) ?_
      refine lv_aload_n hx hb dX11_carries_179 rfl (lv_at hl 0 rfl) ?_
      refine lv_aload_n hx hb dX11_carries_180 rfl (lv_at hl 0 rfl) ?_
      refine gt_11_13 X.1 hG hL mw1132 dX11_carries_181 ?_
      refine lv_iconst (v := (0 : Int32)) hx hb dX11_carries_184 (by decide) ?_
      refine g_ald X.1 hG (lf_11_13 hL) dX11_carries_185 hM (fun q28 hM => ?_)
      refine g_callV_i (nA := 1) (o := M_X11_signals σ k q28) (As := [.int q28]) X.1 hG hL rfl rfl (fun _ _ h => C_X11_signals l E h hL) mw1299 mw1301 mw31 mw62 (gw_ok mw1302 rfl) (by decide +kernel) rfl ⟨Nat.le_of_ble_eq_true rfl, Nat.le_of_ble_eq_true rfl⟩ hl.1 rfl (Nat.le_of_ble_eq_true rfl) ⟨Nat.le_refl _, Nat.le_refl _⟩ dX11_carries_186 hM (fun σ29 r30 H locs hG hM => ?_)
      exact e_iret X hG dX11_carries_189 hM
    have hM := b_else hM c27
    by_cases c31 : (σ k 12).toInt = 104
    · have hM := b_if hM c31
      refine lv_tableIn (tgt := 207) hx hb dX11_carries_4 (fun h => c1 (Or.inl h)) (fun h => c1 (Or.inr h)) (by rw [c31]; rfl) (by decide) ?_
      refine lv_aload_n hx hb dX11_carries_207 rfl (lv_at hl 0 rfl) ?_
      refine lv_aload_n hx hb dX11_carries_208 rfl (lv_at hl 0 rfl) ?_
      refine gt_11_13 X.1 hG hL mw1132 dX11_carries_209 ?_
      refine lv_iconst (v := (0 : Int32)) hx hb dX11_carries_212 (by decide) ?_
      refine g_ald X.1 hG (lf_11_13 hL) dX11_carries_213 hM (fun q32 hM => ?_)
      refine g_callV_i (nA := 1) (o := M_X11_days σ k q32) (As := [.int q32]) X.1 hG hL rfl rfl (fun _ _ h => C_X11_days l E h hL) mw1323 mw1325 mw34 mw62 (gw_ok mw1326 rfl) (by decide +kernel) rfl ⟨Nat.le_of_ble_eq_true rfl, Nat.le_of_ble_eq_true rfl⟩ hl.1 rfl (Nat.le_of_ble_eq_true rfl) ⟨Nat.le_refl _, Nat.le_refl _⟩ dX11_carries_214 hM (fun σ33 r34 H locs hG hM => ?_)
      exact e_iret X hG dX11_carries_217 hM
    have hM := b_else hM c31
    by_cases c35 : (σ k 12).toInt = 105
    · have hM := b_if hM c35
      refine lv_tableIn (tgt := 190) hx hb dX11_carries_4 (fun h => c1 (Or.inl h)) (fun h => c1 (Or.inr h)) (by rw [c35]; rfl) (by decide) ?_
      refine lv_aload_n hx hb dX11_carries_190 rfl (lv_at hl 0 rfl) ?_
      refine lv_aload_n hx hb dX11_carries_191 rfl (lv_at hl 0 rfl) ?_
      refine gt_11_13 X.1 hG hL mw1132 dX11_carries_192 ?_
      refine lv_iconst (v := (0 : Int32)) hx hb dX11_carries_195 (by decide) ?_
      refine g_ald X.1 hG (lf_11_13 hL) dX11_carries_196 hM (fun q36 hM => ?_)
      refine lv_aload_n hx hb dX11_carries_197 rfl (lv_at hl 0 rfl) ?_
      refine gt_11_13 X.1 hG hL mw1132 dX11_carries_198 ?_
      refine lv_iconst (v := (1 : Int32)) hx hb dX11_carries_201 (by decide) ?_
      refine g_ald X.1 hG (lf_11_13 hL) dX11_carries_202 hM (fun q37 hM => ?_)
      refine g_callV_i (nA := 2) (o := M_X11_inspects σ k q36 q37) (As := [.int q36, .int q37]) X.1 hG hL rfl rfl (fun _ _ h => C_X11_inspects l E h hL) mw1311 mw1313 mw32 mw62 (gw_ok mw1314 rfl) (by decide +kernel) rfl ⟨Nat.le_of_ble_eq_true rfl, Nat.le_of_ble_eq_true rfl⟩ hl.1 rfl (Nat.le_of_ble_eq_true rfl) ⟨Nat.le_refl _, Nat.le_refl _⟩ dX11_carries_203 hM (fun σ38 r39 H locs hG hM => ?_)
      exact e_iret X hG dX11_carries_206 hM
    have hM := b_else hM c35
    by_cases c40 : (σ k 12).toInt = 106
    · have hM := b_if hM c40
      refine lv_tableIn (tgt := 207) hx hb dX11_carries_4 (fun h => c1 (Or.inl h)) (fun h => c1 (Or.inr h)) (by rw [c40]; rfl) (by decide) ?_
      refine lv_aload_n hx hb dX11_carries_207 rfl (lv_at hl 0 rfl) ?_
      refine lv_aload_n hx hb dX11_carries_208 rfl (lv_at hl 0 rfl) ?_
      refine gt_11_13 X.1 hG hL mw1132 dX11_carries_209 ?_
      refine lv_iconst (v := (0 : Int32)) hx hb dX11_carries_212 (by decide) ?_
      refine g_ald X.1 hG (lf_11_13 hL) dX11_carries_213 hM (fun q41 hM => ?_)
      refine g_callV_i (nA := 1) (o := M_X11_days σ k q41) (As := [.int q41]) X.1 hG hL rfl rfl (fun _ _ h => C_X11_days l E h hL) mw1323 mw1325 mw34 mw62 (gw_ok mw1326 rfl) (by decide +kernel) rfl ⟨Nat.le_of_ble_eq_true rfl, Nat.le_of_ble_eq_true rfl⟩ hl.1 rfl (Nat.le_of_ble_eq_true rfl) ⟨Nat.le_refl _, Nat.le_refl _⟩ dX11_carries_214 hM (fun σ42 r43 H locs hG hM => ?_)
      exact e_iret X hG dX11_carries_217 hM
    have hM := b_else hM c40
    by_cases c44 : (σ k 12).toInt = 107
    · have hM := b_if hM c44
      refine lv_tableIn (tgt := 207) hx hb dX11_carries_4 (fun h => c1 (Or.inl h)) (fun h => c1 (Or.inr h)) (by rw [c44]; rfl) (by decide) ?_
      refine lv_aload_n hx hb dX11_carries_207 rfl (lv_at hl 0 rfl) ?_
      refine lv_aload_n hx hb dX11_carries_208 rfl (lv_at hl 0 rfl) ?_
      refine gt_11_13 X.1 hG hL mw1132 dX11_carries_209 ?_
      refine lv_iconst (v := (0 : Int32)) hx hb dX11_carries_212 (by decide) ?_
      refine g_ald X.1 hG (lf_11_13 hL) dX11_carries_213 hM (fun q45 hM => ?_)
      refine g_callV_i (nA := 1) (o := M_X11_days σ k q45) (As := [.int q45]) X.1 hG hL rfl rfl (fun _ _ h => C_X11_days l E h hL) mw1323 mw1325 mw34 mw62 (gw_ok mw1326 rfl) (by decide +kernel) rfl ⟨Nat.le_of_ble_eq_true rfl, Nat.le_of_ble_eq_true rfl⟩ hl.1 rfl (Nat.le_of_ble_eq_true rfl) ⟨Nat.le_refl _, Nat.le_refl _⟩ dX11_carries_214 hM (fun σ46 r47 H locs hG hM => ?_)
      exact e_iret X hG dX11_carries_217 hM
    have hM := b_else hM c44
    by_cases c48 : (σ k 12).toInt = 108
    · have hM := b_if hM c48
      refine lv_tableIn (tgt := 162) hx hb dX11_carries_4 (fun h => c1 (Or.inl h)) (fun h => c1 (Or.inr h)) (by rw [c48]; rfl) (by decide) ?_
      refine lv_aload_n hx hb dX11_carries_162 rfl (lv_at hl 0 rfl) ?_
      refine lv_aload_n hx hb dX11_carries_163 rfl (lv_at hl 0 rfl) ?_
      refine gt_11_13 X.1 hG hL mw1132 dX11_carries_164 ?_
      refine lv_iconst (v := (0 : Int32)) hx hb dX11_carries_167 (by decide) ?_
      refine g_ald X.1 hG (lf_11_13 hL) dX11_carries_168 hM (fun q49 hM => ?_)
      refine lv_aload_n hx hb dX11_carries_169 rfl (lv_at hl 0 rfl) ?_
      refine gt_11_13 X.1 hG hL mw1132 dX11_carries_170 ?_
      refine lv_iconst (v := (1 : Int32)) hx hb dX11_carries_173 (by decide) ?_
      refine g_ald X.1 hG (lf_11_13 hL) dX11_carries_174 hM (fun q50 hM => ?_)
      refine g_callV_i (nA := 2) (o := M_X11_lifts σ k q49 q50) (As := [.int q49, .int q50]) X.1 hG hL rfl rfl (fun _ _ h => C_X11_lifts l E h hL) mw1291 mw1293 mw30 mw62 (gw_ok mw1294 rfl) (by decide +kernel) rfl ⟨Nat.le_of_ble_eq_true rfl, Nat.le_of_ble_eq_true rfl⟩ hl.1 rfl (Nat.le_of_ble_eq_true rfl) ⟨Nat.le_refl _, Nat.le_refl _⟩ dX11_carries_175 hM (fun σ51 r52 H locs hG hM => ?_)
      exact e_iret X hG dX11_carries_178 hM
    have hM := b_else hM c48
    by_cases c53 : (σ k 12).toInt = 109
    · have hM := b_if hM c53
      refine lv_tableIn (tgt := 207) hx hb dX11_carries_4 (fun h => c1 (Or.inl h)) (fun h => c1 (Or.inr h)) (by rw [c53]; rfl) (by decide) ?_
      refine lv_aload_n hx hb dX11_carries_207 rfl (lv_at hl 0 rfl) ?_
      refine lv_aload_n hx hb dX11_carries_208 rfl (lv_at hl 0 rfl) ?_
      refine gt_11_13 X.1 hG hL mw1132 dX11_carries_209 ?_
      refine lv_iconst (v := (0 : Int32)) hx hb dX11_carries_212 (by decide) ?_
      refine g_ald X.1 hG (lf_11_13 hL) dX11_carries_213 hM (fun q54 hM => ?_)
      refine g_callV_i (nA := 1) (o := M_X11_days σ k q54) (As := [.int q54]) X.1 hG hL rfl rfl (fun _ _ h => C_X11_days l E h hL) mw1323 mw1325 mw34 mw62 (gw_ok mw1326 rfl) (by decide +kernel) rfl ⟨Nat.le_of_ble_eq_true rfl, Nat.le_of_ble_eq_true rfl⟩ hl.1 rfl (Nat.le_of_ble_eq_true rfl) ⟨Nat.le_refl _, Nat.le_refl _⟩ dX11_carries_214 hM (fun σ55 r56 H locs hG hM => ?_)
      exact e_iret X hG dX11_carries_217 hM
    have hM := b_else hM c53
    by_cases c57 : (σ k 12).toInt = 110
    · have hM := b_if hM c57
      refine lv_tableIn (tgt := 207) hx hb dX11_carries_4 (fun h => c1 (Or.inl h)) (fun h => c1 (Or.inr h)) (by rw [c57]; rfl) (by decide) ?_
      refine lv_aload_n hx hb dX11_carries_207 rfl (lv_at hl 0 rfl) ?_
      refine lv_aload_n hx hb dX11_carries_208 rfl (lv_at hl 0 rfl) ?_
      refine gt_11_13 X.1 hG hL mw1132 dX11_carries_209 ?_
      refine lv_iconst (v := (0 : Int32)) hx hb dX11_carries_212 (by decide) ?_
      refine g_ald X.1 hG (lf_11_13 hL) dX11_carries_213 hM (fun q58 hM => ?_)
      refine g_callV_i (nA := 1) (o := M_X11_days σ k q58) (As := [.int q58]) X.1 hG hL rfl rfl (fun _ _ h => C_X11_days l E h hL) mw1323 mw1325 mw34 mw62 (gw_ok mw1326 rfl) (by decide +kernel) rfl ⟨Nat.le_of_ble_eq_true rfl, Nat.le_of_ble_eq_true rfl⟩ hl.1 rfl (Nat.le_of_ble_eq_true rfl) ⟨Nat.le_refl _, Nat.le_refl _⟩ dX11_carries_214 hM (fun σ59 r60 H locs hG hM => ?_)
      exact e_iret X hG dX11_carries_217 hM
    have hM := b_else hM c57
    by_cases c61 : (σ k 12).toInt = 111
    · have hM := b_if hM c61
      refine lv_tableIn (tgt := 207) hx hb dX11_carries_4 (fun h => c1 (Or.inl h)) (fun h => c1 (Or.inr h)) (by rw [c61]; rfl) (by decide) ?_
      refine lv_aload_n hx hb dX11_carries_207 rfl (lv_at hl 0 rfl) ?_
      refine lv_aload_n hx hb dX11_carries_208 rfl (lv_at hl 0 rfl) ?_
      refine gt_11_13 X.1 hG hL mw1132 dX11_carries_209 ?_
      refine lv_iconst (v := (0 : Int32)) hx hb dX11_carries_212 (by decide) ?_
      refine g_ald X.1 hG (lf_11_13 hL) dX11_carries_213 hM (fun q62 hM => ?_)
      refine g_callV_i (nA := 1) (o := M_X11_days σ k q62) (As := [.int q62]) X.1 hG hL rfl rfl (fun _ _ h => C_X11_days l E h hL) mw1323 mw1325 mw34 mw62 (gw_ok mw1326 rfl) (by decide +kernel) rfl ⟨Nat.le_of_ble_eq_true rfl, Nat.le_of_ble_eq_true rfl⟩ hl.1 rfl (Nat.le_of_ble_eq_true rfl) ⟨Nat.le_refl _, Nat.le_refl _⟩ dX11_carries_214 hM (fun σ63 r64 H locs hG hM => ?_)
      exact e_iret X hG dX11_carries_217 hM
    have hM := b_else hM c61
    by_cases c65 : (σ k 12).toInt = 112
    · have hM := b_if hM c65
      refine lv_tableIn (tgt := 207) hx hb dX11_carries_4 (fun h => c1 (Or.inl h)) (fun h => c1 (Or.inr h)) (by rw [c65]; rfl) (by decide) ?_
      refine lv_aload_n hx hb dX11_carries_207 rfl (lv_at hl 0 rfl) ?_
      refine lv_aload_n hx hb dX11_carries_208 rfl (lv_at hl 0 rfl) ?_
      refine gt_11_13 X.1 hG hL mw1132 dX11_carries_209 ?_
      refine lv_iconst (v := (0 : Int32)) hx hb dX11_carries_212 (by decide) ?_
      refine g_ald X.1 hG (lf_11_13 hL) dX11_carries_213 hM (fun q66 hM => ?_)
      refine g_callV_i (nA := 1) (o := M_X11_days σ k q66) (As := [.int q66]) X.1 hG hL rfl rfl (fun _ _ h => C_X11_days l E h hL) mw1323 mw1325 mw34 mw62 (gw_ok mw1326 rfl) (by decide +kernel) rfl ⟨Nat.le_of_ble_eq_true rfl, Nat.le_of_ble_eq_true rfl⟩ hl.1 rfl (Nat.le_of_ble_eq_true rfl) ⟨Nat.le_refl _, Nat.le_refl _⟩ dX11_carries_214 hM (fun σ67 r68 H locs hG hM => ?_)
      exact e_iret X hG dX11_carries_217 hM
    have hM := b_else hM c65
    by_cases c69 : (σ k 12).toInt = 113
    · have hM := b_if hM c69
      refine lv_tableIn (tgt := 207) hx hb dX11_carries_4 (fun h => c1 (Or.inl h)) (fun h => c1 (Or.inr h)) (by rw [c69]; rfl) (by decide) ?_
      refine lv_aload_n hx hb dX11_carries_207 rfl (lv_at hl 0 rfl) ?_
      refine lv_aload_n hx hb dX11_carries_208 rfl (lv_at hl 0 rfl) ?_
      refine gt_11_13 X.1 hG hL mw1132 dX11_carries_209 ?_
      refine lv_iconst (v := (0 : Int32)) hx hb dX11_carries_212 (by decide) ?_
      refine g_ald X.1 hG (lf_11_13 hL) dX11_carries_213 hM (fun q70 hM => ?_)
      refine g_callV_i (nA := 1) (o := M_X11_days σ k q70) (As := [.int q70]) X.1 hG hL rfl rfl (fun _ _ h => C_X11_days l E h hL) mw1323 mw1325 mw34 mw62 (gw_ok mw1326 rfl) (by decide +kernel) rfl ⟨Nat.le_of_ble_eq_true rfl, Nat.le_of_ble_eq_true rfl⟩ hl.1 rfl (Nat.le_of_ble_eq_true rfl) ⟨Nat.le_refl _, Nat.le_refl _⟩ dX11_carries_214 hM (fun σ71 r72 H locs hG hM => ?_)
      exact e_iret X hG dX11_carries_217 hM
    have hM := b_else hM c69
    by_cases c73 : (σ k 12).toInt = 114
    · have hM := b_if hM c73
      refine lv_tableIn (tgt := 207) hx hb dX11_carries_4 (fun h => c1 (Or.inl h)) (fun h => c1 (Or.inr h)) (by rw [c73]; rfl) (by decide) ?_
      refine lv_aload_n hx hb dX11_carries_207 rfl (lv_at hl 0 rfl) ?_
      refine lv_aload_n hx hb dX11_carries_208 rfl (lv_at hl 0 rfl) ?_
      refine gt_11_13 X.1 hG hL mw1132 dX11_carries_209 ?_
      refine lv_iconst (v := (0 : Int32)) hx hb dX11_carries_212 (by decide) ?_
      refine g_ald X.1 hG (lf_11_13 hL) dX11_carries_213 hM (fun q74 hM => ?_)
      refine g_callV_i (nA := 1) (o := M_X11_days σ k q74) (As := [.int q74]) X.1 hG hL rfl rfl (fun _ _ h => C_X11_days l E h hL) mw1323 mw1325 mw34 mw62 (gw_ok mw1326 rfl) (by decide +kernel) rfl ⟨Nat.le_of_ble_eq_true rfl, Nat.le_of_ble_eq_true rfl⟩ hl.1 rfl (Nat.le_of_ble_eq_true rfl) ⟨Nat.le_refl _, Nat.le_refl _⟩ dX11_carries_214 hM (fun σ75 r76 H locs hG hM => ?_)
      exact e_iret X hG dX11_carries_217 hM
    have hM := b_else hM c73
    by_cases c77 : (σ k 12).toInt = 115
    · have hM := b_if hM c77
      refine lv_tableIn (tgt := 207) hx hb dX11_carries_4 (fun h => c1 (Or.inl h)) (fun h => c1 (Or.inr h)) (by rw [c77]; rfl) (by decide) ?_
      refine lv_aload_n hx hb dX11_carries_207 rfl (lv_at hl 0 rfl) ?_
      refine lv_aload_n hx hb dX11_carries_208 rfl (lv_at hl 0 rfl) ?_
      refine gt_11_13 X.1 hG hL mw1132 dX11_carries_209 ?_
      refine lv_iconst (v := (0 : Int32)) hx hb dX11_carries_212 (by decide) ?_
      refine g_ald X.1 hG (lf_11_13 hL) dX11_carries_213 hM (fun q78 hM => ?_)
      refine g_callV_i (nA := 1) (o := M_X11_days σ k q78) (As := [.int q78]) X.1 hG hL rfl rfl (fun _ _ h => C_X11_days l E h hL) mw1323 mw1325 mw34 mw62 (gw_ok mw1326 rfl) (by decide +kernel) rfl ⟨Nat.le_of_ble_eq_true rfl, Nat.le_of_ble_eq_true rfl⟩ hl.1 rfl (Nat.le_of_ble_eq_true rfl) ⟨Nat.le_refl _, Nat.le_refl _⟩ dX11_carries_214 hM (fun σ79 r80 H locs hG hM => ?_)
      exact e_iret X hG dX11_carries_217 hM
    have hM := b_else hM c77
    by_cases c81 : (σ k 12).toInt = 116
    · have hM := b_if hM c81
      refine lv_tableIn (tgt := 123) hx hb dX11_carries_4 (fun h => c1 (Or.inl h)) (fun h => c1 (Or.inr h)) (by rw [c81]; rfl) (by decide) ?_
      refine lv_aload_n hx hb dX11_carries_123 rfl (lv_at hl 0 rfl) ?_
      refine lv_aload_n hx hb dX11_carries_124 rfl (lv_at hl 0 rfl) ?_
      refine gt_11_13 X.1 hG hL mw1132 dX11_carries_125 ?_
      refine lv_iconst (v := (0 : Int32)) hx hb dX11_carries_128 (by decide) ?_
      refine g_ald X.1 hG (lf_11_13 hL) dX11_carries_129 hM (fun q82 hM => ?_)
      refine g_callV_i (nA := 1) (o := M_X11_ties σ k q82) (As := [.int q82]) X.1 hG hL rfl rfl (fun _ _ h => C_X11_ties l E h hL) mw1234 mw1236 mw20 mw62 (gw_ok mw1237 rfl) (by decide +kernel) rfl ⟨Nat.le_of_ble_eq_true rfl, Nat.le_of_ble_eq_true rfl⟩ hl.1 rfl (Nat.le_of_ble_eq_true rfl) ⟨Nat.le_refl _, Nat.le_refl _⟩ dX11_carries_130 hM (fun σ83 r84 H locs hG hM => ?_)
      exact e_iret X hG dX11_carries_133 hM
    have hM := b_else hM c81
    by_cases c85 : (σ k 12).toInt = 117
    · have hM := b_if hM c85
      refine lv_tableIn (tgt := 134) hx hb dX11_carries_4 (fun h => c1 (Or.inl h)) (fun h => c1 (Or.inr h)) (by rw [c85]; rfl) (by decide) ?_
      refine lv_aload_n hx hb dX11_carries_134 rfl (lv_at hl 0 rfl) ?_
      refine lv_aload_n hx hb dX11_carries_135 rfl (lv_at hl 0 rfl) ?_
      refine gt_11_13 X.1 hG hL mw1132 dX11_carries_136 ?_
      refine lv_iconst (v := (0 : Int32)) hx hb dX11_carries_139 (by decide) ?_
      refine g_ald X.1 hG (lf_11_13 hL) dX11_carries_140 hM (fun q86 hM => ?_)
      refine lv_aload_n hx hb dX11_carries_141 rfl (lv_at hl 0 rfl) ?_
      refine gt_11_13 X.1 hG hL mw1132 dX11_carries_142 ?_
      refine lv_iconst (v := (1 : Int32)) hx hb dX11_carries_145 (by decide) ?_
      refine g_ald X.1 hG (lf_11_13 hL) dX11_carries_146 hM (fun q87 hM => ?_)
      refine g_callV_i (nA := 2) (o := M_X11_goesUp σ k q86 q87) (As := [.int q86, .int q87]) X.1 hG hL rfl rfl (fun _ _ h => C_X11_goesUp l E h hL) mw1254 mw1256 mw23 mw62 (gw_ok mw1257 rfl) (by decide +kernel) rfl ⟨Nat.le_of_ble_eq_true rfl, Nat.le_of_ble_eq_true rfl⟩ hl.1 rfl (Nat.le_of_ble_eq_true rfl) ⟨Nat.le_refl _, Nat.le_refl _⟩ dX11_carries_147 hM (fun σ88 r89 H locs hG hM => ?_)
      exact e_iret X hG dX11_carries_150 hM
    have hM := b_else hM c85
    cases hM
def B_X11_script_86  : Nat → St → Nat → Int32 → Int32 → Int32 → Option (St × Int32)
  | 0, _, _, _, _, _ => none
  | n + 1, σ, k, x2, x3, x4 => if x4 = 0 then (bput σ k 10 (0 : Int32) fun σ7 => if x3 = 0 then (bcall (M_X11_keeps σ7 k x2) fun σ15 r16 => some (σ15, r16)) else (bcall (M_X11_comesBack σ7 k) fun σ8 r9 => if x3 = (-3 : Int32) then (bcall (M_X11_refusesBy σ8 k (12 : Int32) x2) fun σ12 r13 => some (σ12, r13)) else (bcall (M_X11_refuses σ8 k (12 : Int32) x2) fun σ10 r11 => some (σ10, r11)))) else (bcall (M_X11_isOrder σ k) fun σ18 r19 => bcall (M_X11_carries σ18 k) fun σ20 r21 => if r21 = 0 then (blet (x2 + (1 : Int32)) fun v26 => if r21 = 0 then (bcall (M_X11_isNext σ20 k (59 : Int32)) fun σ27 r28 => if r28 = 0 then (B_X11_script_86 n σ27 k v26 r21 (0 : Int32)) else (B_X11_script_86 n σ27 k v26 r21 (1 : Int32))) else (B_X11_script_86 n σ20 k v26 r21 (0 : Int32))) else (if r21 = 0 then (bcall (M_X11_isNext σ20 k (59 : Int32)) fun σ22 r23 => if r23 = 0 then (B_X11_script_86 n σ22 k x2 r21 (0 : Int32)) else (B_X11_script_86 n σ22 k x2 r21 (1 : Int32))) else (B_X11_script_86 n σ20 k x2 r21 (0 : Int32))))
def B_X11_script_54 (σ : St) (k : Nat) (x1 : Int32) : Option (St × Int32) := if x1 = 0 then (bput σ k 10 (0 : Int32) fun σ33 => bput σ33 k 14 (σ33 k 11) fun σ34 => some (σ34, (-2 : Int32))) else (bput σ k 11 (0 : Int32) fun σ6 => B_X11_script_86 FU σ6 k (0 : Int32) (0 : Int32) (1 : Int32))
def B_X11_script_14  : Nat → St → Nat → Int32 → Option (St × Int32)
  | 0, _, _, _ => none
  | n + 1, σ, k, x1 => if x1 = 0 then (B_X11_script_54 σ k x1) else (if (σ k 10) ≤ (σ k 11) then (B_X11_script_54 σ k x1) else (bcall (M_X11_isNext σ k (59 : Int32)) fun σ36 r37 => if r37 = 0 then (B_X11_script_14 n σ36 k (0 : Int32)) else (bcall (M_X11_isOrder σ36 k) fun σ38 r39 => if r39 = 0 then (B_X11_script_14 n σ38 k (0 : Int32)) else (B_X11_script_14 n σ38 k (1 : Int32)))))
def M_X11_script (σ : St) (k : Nat)  : Option (St × Int32) := bcall (M_X11_tries σ k) fun σ1 r2 => bput σ1 k 11 (0 : Int32) fun σ3 => bcall (M_X11_isOrder σ3 k) fun σ4 r5 => B_X11_script_14 FU σ4 k r5
set_option maxRecDepth 20000 in
set_option maxHeartbeats 4000000 in
theorem w_X11_script_86 {p : Program} {l : Launch} {e : Env} {s : State} {m : MethodId} {below : List Frame} {meth : Method} {c : Code} {args : Array Value} {E : Ev} {k : Nat} (X : Bx E p m meth c cX11_script 5 (some .int) s args RX11) (hL : lay 11 k) : ∀ (n : Nat) (σ : St) (x2 x3 x4 : Int32) (H : Heap) (locs : List Loc) (ls : Array Slot) (z : St × Int32), GS E σ s.heap H locs → lv_has ls 5 [(0, .ref (E.1 k)), (2, .int x2), (3, .int x3), (4, .int x4)] → B_X11_script_86 n σ k x2 x3 x4 = some z → W p l e (rmd 7) s m args below meth c H locs 0 0 (QI E z below args s) (F0 m 86 ls []) := by
  have hx := X.1.1.1
  have hb := X.1.1.2.1
  intro n
  induction n with
  | zero => intro σ x2 x3 x4 H locs ls z  hG hl hM; cases hM
  | succ n ih =>
    intro σ x2 x3 x4 H locs ls z  hG hl hM
    unfold B_X11_script_86 at hM
    refine lv_iload hx hb dX11_script_86 (lv_at hl 3 rfl) ?_
    refine lv_if_eq (tgt := 131) hx hb dX11_script_88 (by decide) (fun c32 => ?_) (fun c32 => ?_)
    · have hM := b_if hM c32
      refine lv_aload_n hx hb dX11_script_131 rfl (lv_at hl 0 rfl) ?_
      refine lv_iconst (v := (0 : Int32)) hx hb dX11_script_132 (by decide) ?_
      refine pt_11_10 X.1 hG hL mw1129 dX11_script_133 hM (fun σ7 H locs hG hM => ?_)
      refine lv_iload_n hx hb dX11_script_136 rfl (lv_at hl 2 rfl) ?_
      refine lv_if_ne (tgt := 146) hx hb dX11_script_137 (by decide) (fun c17 => ?_) (fun c17 => ?_)
      · have hM := b_else hM c17
        refine lv_aload_n hx hb dX11_script_146 rfl (lv_at hl 0 rfl) ?_
        refine g_callV_v (nA := 0) (o := M_X11_comesBack σ7 k) (As := []) X.1 hG hL rfl rfl (fun _ _ h => C_X11_comesBack l E h hL) mw1364 mw1366 mw43 mw62 (gw_ok mw1367 rfl) (by decide +kernel) rfl ⟨Nat.le_of_ble_eq_true rfl, Nat.le_of_ble_eq_true rfl⟩ hl.1 rfl (Nat.le_of_ble_eq_true rfl) ⟨Nat.le_refl _, Nat.le_refl _⟩ dX11_script_147 hM (fun σ8 r9 H locs hG hM => ?_)
        refine lv_iload_n hx hb dX11_script_150 rfl (lv_at hl 2 rfl) ?_
        refine lv_bipush (v := (-3 : Int32)) hx hb dX11_script_151 (by decide) ?_
        refine lv_icmp_ne (tgt := 166) hx hb dX11_script_153 (by decide) (fun c14 => ?_) (fun c14 => ?_)
        · have hM := b_else hM c14
          refine lv_aload_n hx hb dX11_script_166 rfl (lv_at hl 0 rfl) ?_
          refine lv_bipush (v := (12 : Int32)) hx hb dX11_script_167 (by decide) ?_
          refine lv_iload_n hx hb dX11_script_169 rfl (lv_at hl 1 rfl) ?_
          refine g_callV_i (nA := 2) (o := M_X11_refuses σ8 k (12 : Int32) x2) (As := [.int (12 : Int32), .int x2]) X.1 hG hL rfl rfl (fun _ _ h => C_X11_refuses l E h hL) mw1193 mw1195 mw13 mw62 (gw_ok mw1196 rfl) (by decide +kernel) rfl ⟨Nat.le_of_ble_eq_true rfl, Nat.le_of_ble_eq_true rfl⟩ hl.1 rfl (Nat.le_of_ble_eq_true rfl) ⟨Nat.le_refl _, Nat.le_refl _⟩ dX11_script_170 hM (fun σ10 r11 H locs hG hM => ?_)
          exact e_iret X hG dX11_script_173 hM
        · have hM := b_if hM c14
          refine lv_aload_n hx hb dX11_script_156 rfl (lv_at hl 0 rfl) ?_
          refine lv_bipush (v := (12 : Int32)) hx hb dX11_script_157 (by decide) ?_
          refine lv_iload_n hx hb dX11_script_159 rfl (lv_at hl 1 rfl) ?_
          refine g_callV_i (nA := 2) (o := M_X11_refusesBy σ8 k (12 : Int32) x2) (As := [.int (12 : Int32), .int x2]) X.1 hG hL rfl rfl (fun _ _ h => C_X11_refusesBy l E h hL) mw1270 mw1272 mw27 mw62 (gw_ok mw1273 rfl) (by decide +kernel) rfl ⟨Nat.le_of_ble_eq_true rfl, Nat.le_of_ble_eq_true rfl⟩ hl.1 rfl (Nat.le_of_ble_eq_true rfl) ⟨Nat.le_refl _, Nat.le_refl _⟩ dX11_script_160 hM (fun σ12 r13 H locs hG hM => ?_)
          refine lv_goto (tgt := 173) hx hb dX11_script_163 (by decide) ?_
          exact e_iret X hG dX11_script_173 hM
      · have hM := b_if hM c17
        refine lv_aload_n hx hb dX11_script_140 rfl (lv_at hl 0 rfl) ?_
        refine lv_iload_n hx hb dX11_script_141 rfl (lv_at hl 1 rfl) ?_
        refine g_callV_i (nA := 1) (o := M_X11_keeps σ7 k x2) (As := [.int x2]) X.1 hG hL rfl rfl (fun _ _ h => C_X11_keeps l E h hL) mw1197 mw1199 mw14 mw62 (gw_ok mw1200 rfl) (by decide +kernel) rfl ⟨Nat.le_of_ble_eq_true rfl, Nat.le_of_ble_eq_true rfl⟩ hl.1 rfl (Nat.le_of_ble_eq_true rfl) ⟨Nat.le_refl _, Nat.le_refl _⟩ dX11_script_142 hM (fun σ15 r16 H locs hG hM => ?_)
        exact e_iret X hG dX11_script_145 hM
    · have hM := b_else hM c32
      refine lv_aload_n hx hb dX11_script_91 rfl (lv_at hl 0 rfl) ?_
      refine g_callV_i (nA := 0) (o := M_X11_isOrder σ k) (As := []) X.1 hG hL rfl rfl (fun _ _ h => C_X11_isOrder l E h hL) mw1348 mw1350 mw39 mw62 (gw_ok mw1351 rfl) (by decide +kernel) rfl ⟨Nat.le_of_ble_eq_true rfl, Nat.le_of_ble_eq_true rfl⟩ hl.1 rfl (Nat.le_of_ble_eq_true rfl) ⟨Nat.le_refl _, Nat.le_refl _⟩ dX11_script_92 hM (fun σ18 r19 H locs hG hM => ?_)
      refine lv_istore_n (lv' := [(1, .int r19), (0, .ref (E.1 k)), (2, .int x2), (3, .int x3), (4, .int x4)]) hx hb dX11_script_95 rfl hl (by decide) rfl (fun ls hl => ?_)
      refine lv_aload_n hx hb dX11_script_96 rfl (lv_at hl 1 rfl) ?_
      refine g_callV_i (nA := 0) (o := M_X11_carries σ18 k) (As := []) X.1 hG hL rfl rfl (fun _ _ h => C_X11_carries l E h hL) mw1360 mw1362 mw42 mw62 (gw_ok mw1363 rfl) (by decide +kernel) rfl ⟨Nat.le_of_ble_eq_true rfl, Nat.le_of_ble_eq_true rfl⟩ hl.1 rfl (Nat.le_of_ble_eq_true rfl) ⟨Nat.le_refl _, Nat.le_refl _⟩ dX11_script_97 hM (fun σ20 r21 H locs hG hM => ?_)
      refine lv_istore_n (lv' := [(3, .int r21), (1, .int r19), (0, .ref (E.1 k)), (2, .int x2), (4, .int x4)]) hx hb dX11_script_100 rfl hl (by decide) rfl (fun ls hl => ?_)
      refine lv_iload_n hx hb dX11_script_101 rfl (lv_at hl 0 rfl) ?_
      refine lv_if_ne (tgt := 108) hx hb dX11_script_102 (by decide) (fun c31 => ?_) (fun c31 => ?_)
      · have hM := b_else hM c31
        refine lv_iload_n hx hb dX11_script_108 rfl (lv_at hl 0 rfl) ?_
        refine lv_if_ne (tgt := 125) hx hb dX11_script_109 (by decide) (fun c25 => ?_) (fun c25 => ?_)
        · have hM := b_else hM c25
          refine lv_iconst (v := (0 : Int32)) hx hb dX11_script_125 (by decide) ?_
          refine lv_istore (lv' := [(4, .int (0 : Int32)), (3, .int r21), (1, .int r19), (0, .ref (E.1 k)), (2, .int x2)]) hx hb dX11_script_126 hl (by decide) rfl (fun ls hl => ?_)
          refine lv_goto (tgt := 86) hx hb dX11_script_128 (by decide) ?_
          exact ih σ20 x2 r21 (0 : Int32) _ _ _ z hG (lv_sub hl [3, 4, 1, 0] rfl) hM
        · have hM := b_if hM c25
          refine lv_aload_n hx hb dX11_script_112 rfl (lv_at hl 2 rfl) ?_
          refine lv_bipush (v := (59 : Int32)) hx hb dX11_script_113 (by decide) ?_
          refine g_callV_i (nA := 1) (o := M_X11_isNext σ20 k (59 : Int32)) (As := [.int (59 : Int32)]) X.1 hG hL rfl rfl (fun _ _ h => C_X11_isNext l E h hL) mw1356 mw1358 mw41 mw62 (gw_ok mw1359 rfl) (by decide +kernel) rfl ⟨Nat.le_of_ble_eq_true rfl, Nat.le_of_ble_eq_true rfl⟩ hl.1 rfl (Nat.le_of_ble_eq_true rfl) ⟨Nat.le_refl _, Nat.le_refl _⟩ dX11_script_115 hM (fun σ22 r23 H locs hG hM => ?_)
          refine lv_if_eq (tgt := 125) hx hb dX11_script_118 (by decide) (fun c24 => ?_) (fun c24 => ?_)
          · have hM := b_if hM c24
            refine lv_iconst (v := (0 : Int32)) hx hb dX11_script_125 (by decide) ?_
            refine lv_istore (lv' := [(4, .int (0 : Int32)), (3, .int r21), (1, .int r19), (0, .ref (E.1 k)), (2, .int x2)]) hx hb dX11_script_126 hl (by decide) rfl (fun ls hl => ?_)
            refine lv_goto (tgt := 86) hx hb dX11_script_128 (by decide) ?_
            exact ih σ22 x2 r21 (0 : Int32) _ _ _ z hG (lv_sub hl [3, 4, 1, 0] rfl) hM
          · have hM := b_else hM c24
            refine lv_iconst (v := (1 : Int32)) hx hb dX11_script_121 (by decide) ?_
            refine lv_goto (tgt := 126) hx hb dX11_script_122 (by decide) ?_
            refine lv_istore (lv' := [(4, .int (1 : Int32)), (3, .int r21), (1, .int r19), (0, .ref (E.1 k)), (2, .int x2)]) hx hb dX11_script_126 hl (by decide) rfl (fun ls hl => ?_)
            refine lv_goto (tgt := 86) hx hb dX11_script_128 (by decide) ?_
            exact ih σ22 x2 r21 (1 : Int32) _ _ _ z hG (lv_sub hl [3, 4, 1, 0] rfl) hM
      · have hM := b_if hM c31
        obtain ⟨v26, ev26, hM⟩ := g_nm hM
        refine lv_iinc (v := v26) (lv' := [(2, .int v26), (3, .int r21), (1, .int r19), (0, .ref (E.1 k)), (4, .int x4)]) hx hb dX11_script_105 hl (k := 3) rfl (by rw [ev26]; rfl) (by decide) rfl (fun ls hl => ?_)
        refine lv_iload_n hx hb dX11_script_108 rfl (lv_at hl 1 rfl) ?_
        refine lv_if_ne (tgt := 125) hx hb dX11_script_109 (by decide) (fun c30 => ?_) (fun c30 => ?_)
        · have hM := b_else hM c30
          refine lv_iconst (v := (0 : Int32)) hx hb dX11_script_125 (by decide) ?_
          refine lv_istore (lv' := [(4, .int (0 : Int32)), (2, .int v26), (3, .int r21), (1, .int r19), (0, .ref (E.1 k))]) hx hb dX11_script_126 hl (by decide) rfl (fun ls hl => ?_)
          refine lv_goto (tgt := 86) hx hb dX11_script_128 (by decide) ?_
          exact ih σ20 v26 r21 (0 : Int32) _ _ _ z hG (lv_sub hl [4, 1, 2, 0] rfl) hM
        · have hM := b_if hM c30
          refine lv_aload_n hx hb dX11_script_112 rfl (lv_at hl 3 rfl) ?_
          refine lv_bipush (v := (59 : Int32)) hx hb dX11_script_113 (by decide) ?_
          refine g_callV_i (nA := 1) (o := M_X11_isNext σ20 k (59 : Int32)) (As := [.int (59 : Int32)]) X.1 hG hL rfl rfl (fun _ _ h => C_X11_isNext l E h hL) mw1356 mw1358 mw41 mw62 (gw_ok mw1359 rfl) (by decide +kernel) rfl ⟨Nat.le_of_ble_eq_true rfl, Nat.le_of_ble_eq_true rfl⟩ hl.1 rfl (Nat.le_of_ble_eq_true rfl) ⟨Nat.le_refl _, Nat.le_refl _⟩ dX11_script_115 hM (fun σ27 r28 H locs hG hM => ?_)
          refine lv_if_eq (tgt := 125) hx hb dX11_script_118 (by decide) (fun c29 => ?_) (fun c29 => ?_)
          · have hM := b_if hM c29
            refine lv_iconst (v := (0 : Int32)) hx hb dX11_script_125 (by decide) ?_
            refine lv_istore (lv' := [(4, .int (0 : Int32)), (2, .int v26), (3, .int r21), (1, .int r19), (0, .ref (E.1 k))]) hx hb dX11_script_126 hl (by decide) rfl (fun ls hl => ?_)
            refine lv_goto (tgt := 86) hx hb dX11_script_128 (by decide) ?_
            exact ih σ27 v26 r21 (0 : Int32) _ _ _ z hG (lv_sub hl [4, 1, 2, 0] rfl) hM
          · have hM := b_else hM c29
            refine lv_iconst (v := (1 : Int32)) hx hb dX11_script_121 (by decide) ?_
            refine lv_goto (tgt := 126) hx hb dX11_script_122 (by decide) ?_
            refine lv_istore (lv' := [(4, .int (1 : Int32)), (2, .int v26), (3, .int r21), (1, .int r19), (0, .ref (E.1 k))]) hx hb dX11_script_126 hl (by decide) rfl (fun ls hl => ?_)
            refine lv_goto (tgt := 86) hx hb dX11_script_128 (by decide) ?_
            exact ih σ27 v26 r21 (1 : Int32) _ _ _ z hG (lv_sub hl [4, 1, 2, 0] rfl) hM
set_option maxRecDepth 20000 in
set_option maxHeartbeats 4000000 in
theorem w_X11_script_54 {p : Program} {l : Launch} {e : Env} {s : State} {m : MethodId} {below : List Frame} {meth : Method} {c : Code} {args : Array Value} {E : Ev} {k : Nat} (X : Bx E p m meth c cX11_script 5 (some .int) s args RX11) (hL : lay 11 k) : ∀ (σ : St) (x1 : Int32) (H : Heap) (locs : List Loc) (ls : Array Slot) (z : St × Int32), GS E σ s.heap H locs → lv_has ls 5 [(0, .ref (E.1 k)), (1, .int x1)] → B_X11_script_54 σ k x1 = some z → W p l e (rmd 7) s m args below meth c H locs 0 0 (QI E z below args s) (F0 m 54 ls []) := by
  have hx := X.1.1.1
  have hb := X.1.1.2.1
  intro σ x1 H locs ls z  hG hl hM
  unfold B_X11_script_54 at hM
  refine lv_iload_n hx hb dX11_script_54 rfl (lv_at hl 1 rfl) ?_
  refine lv_if_ne (tgt := 74) hx hb dX11_script_55 (by decide) (fun c35 => ?_) (fun c35 => ?_)
  · have hM := b_else hM c35
    refine lv_aload_n hx hb dX11_script_74 rfl (lv_at hl 0 rfl) ?_
    refine lv_iconst (v := (0 : Int32)) hx hb dX11_script_75 (by decide) ?_
    refine pt_11_11 X.1 hG hL mw1130 dX11_script_76 hM (fun σ6 H locs hG hM => ?_)
    refine lv_iconst (v := (0 : Int32)) hx hb dX11_script_79 (by decide) ?_
    refine lv_istore_n (lv' := [(2, .int (0 : Int32)), (0, .ref (E.1 k)), (1, .int x1)]) hx hb dX11_script_80 rfl hl (by decide) rfl (fun ls hl => ?_)
    refine lv_iconst (v := (0 : Int32)) hx hb dX11_script_81 (by decide) ?_
    refine lv_istore_n (lv' := [(3, .int (0 : Int32)), (2, .int (0 : Int32)), (0, .ref (E.1 k)), (1, .int x1)]) hx hb dX11_script_82 rfl hl (by decide) rfl (fun ls hl => ?_)
    refine lv_iconst (v := (1 : Int32)) hx hb dX11_script_83 (by decide) ?_
    refine lv_istore (lv' := [(4, .int (1 : Int32)), (3, .int (0 : Int32)), (2, .int (0 : Int32)), (0, .ref (E.1 k)), (1, .int x1)]) hx hb dX11_script_84 hl (by decide) rfl (fun ls hl => ?_)
    exact w_X11_script_86 X hL FU σ6 (0 : Int32) (0 : Int32) (1 : Int32) _ _ _ z hG (lv_sub hl [3, 2, 1, 0] rfl) hM
  · have hM := b_if hM c35
    refine lv_aload_n hx hb dX11_script_58 rfl (lv_at hl 0 rfl) ?_
    refine lv_iconst (v := (0 : Int32)) hx hb dX11_script_59 (by decide) ?_
    refine pt_11_10 X.1 hG hL mw1129 dX11_script_60 hM (fun σ33 H locs hG hM => ?_)
    refine lv_aload_n hx hb dX11_script_63 rfl (lv_at hl 0 rfl) ?_
    refine lv_aload_n hx hb dX11_script_64 rfl (lv_at hl 0 rfl) ?_
    refine gt_11_11 X.1 hG hL mw1130 dX11_script_65 ?_
    refine pt_11_14 X.1 hG hL mw1133 dX11_script_68 hM (fun σ34 H locs hG hM => ?_)
    refine lv_bipush (v := (-2 : Int32)) hx hb dX11_script_71 (by decide) ?_
    exact e_iret X hG dX11_script_73 hM
set_option maxRecDepth 20000 in
set_option maxHeartbeats 4000000 in
theorem w_X11_script_14 {p : Program} {l : Launch} {e : Env} {s : State} {m : MethodId} {below : List Frame} {meth : Method} {c : Code} {args : Array Value} {E : Ev} {k : Nat} (X : Bx E p m meth c cX11_script 5 (some .int) s args RX11) (hL : lay 11 k) : ∀ (n : Nat) (σ : St) (x1 : Int32) (H : Heap) (locs : List Loc) (ls : Array Slot) (z : St × Int32), GS E σ s.heap H locs → lv_has ls 5 [(0, .ref (E.1 k)), (1, .int x1)] → B_X11_script_14 n σ k x1 = some z → W p l e (rmd 7) s m args below meth c H locs 0 0 (QI E z below args s) (F0 m 14 ls []) := by
  have hx := X.1.1.1
  have hb := X.1.1.2.1
  intro n
  induction n with
  | zero => intro σ x1 H locs ls z  hG hl hM; cases hM
  | succ n ih =>
    intro σ x1 H locs ls z  hG hl hM
    unfold B_X11_script_14 at hM
    refine lv_iload_n hx hb dX11_script_14 rfl (lv_at hl 1 rfl) ?_
    refine lv_if_eq (tgt := 54) hx hb dX11_script_15 (by decide) (fun c43 => ?_) (fun c43 => ?_)
    · have hM := b_if hM c43
      exact w_X11_script_54 X hL σ x1 _ _ _ z hG (lv_sub hl [0, 1] rfl) hM
    · have hM := b_else hM c43
      refine lv_aload_n hx hb dX11_script_18 rfl (lv_at hl 0 rfl) ?_
      refine gt_11_11 X.1 hG hL mw1130 dX11_script_19 ?_
      refine lv_aload_n hx hb dX11_script_22 rfl (lv_at hl 0 rfl) ?_
      refine gt_11_10 X.1 hG hL mw1129 dX11_script_23 ?_
      refine lv_icmp_ge (tgt := 54) hx hb dX11_script_26 (by decide) (fun c42 => ?_) (fun c42 => ?_)
      · have hM := b_if hM c42
        exact w_X11_script_54 X hL σ x1 _ _ _ z hG (lv_sub hl [0, 1] rfl) hM
      · have hM := b_else hM c42
        refine lv_aload_n hx hb dX11_script_29 rfl (lv_at hl 0 rfl) ?_
        refine lv_bipush (v := (59 : Int32)) hx hb dX11_script_30 (by decide) ?_
        refine g_callV_i (nA := 1) (o := M_X11_isNext σ k (59 : Int32)) (As := [.int (59 : Int32)]) X.1 hG hL rfl rfl (fun _ _ h => C_X11_isNext l E h hL) mw1356 mw1358 mw41 mw62 (gw_ok mw1359 rfl) (by decide +kernel) rfl ⟨Nat.le_of_ble_eq_true rfl, Nat.le_of_ble_eq_true rfl⟩ hl.1 rfl (Nat.le_of_ble_eq_true rfl) ⟨Nat.le_refl _, Nat.le_refl _⟩ dX11_script_32 hM (fun σ36 r37 H locs hG hM => ?_)
        refine lv_if_eq (tgt := 49) hx hb dX11_script_35 (by decide) (fun c41 => ?_) (fun c41 => ?_)
        · have hM := b_if hM c41
          refine lv_iconst (v := (0 : Int32)) hx hb dX11_script_49 (by decide) ?_
          refine lv_istore_n (lv' := [(1, .int (0 : Int32)), (0, .ref (E.1 k))]) hx hb dX11_script_50 rfl hl (by decide) rfl (fun ls hl => ?_)
          refine lv_goto (tgt := 14) hx hb dX11_script_51 (by decide) ?_
          exact ih σ36 (0 : Int32) _ _ _ z hG (lv_sub hl [1, 0] rfl) hM
        · have hM := b_else hM c41
          refine lv_aload_n hx hb dX11_script_38 rfl (lv_at hl 0 rfl) ?_
          refine g_callV_i (nA := 0) (o := M_X11_isOrder σ36 k) (As := []) X.1 hG hL rfl rfl (fun _ _ h => C_X11_isOrder l E h hL) mw1348 mw1350 mw39 mw62 (gw_ok mw1351 rfl) (by decide +kernel) rfl ⟨Nat.le_of_ble_eq_true rfl, Nat.le_of_ble_eq_true rfl⟩ hl.1 rfl (Nat.le_of_ble_eq_true rfl) ⟨Nat.le_refl _, Nat.le_refl _⟩ dX11_script_39 hM (fun σ38 r39 H locs hG hM => ?_)
          refine lv_if_eq (tgt := 49) hx hb dX11_script_42 (by decide) (fun c40 => ?_) (fun c40 => ?_)
          · have hM := b_if hM c40
            refine lv_iconst (v := (0 : Int32)) hx hb dX11_script_49 (by decide) ?_
            refine lv_istore_n (lv' := [(1, .int (0 : Int32)), (0, .ref (E.1 k))]) hx hb dX11_script_50 rfl hl (by decide) rfl (fun ls hl => ?_)
            refine lv_goto (tgt := 14) hx hb dX11_script_51 (by decide) ?_
            exact ih σ38 (0 : Int32) _ _ _ z hG (lv_sub hl [1, 0] rfl) hM
          · have hM := b_else hM c40
            refine lv_iconst (v := (1 : Int32)) hx hb dX11_script_45 (by decide) ?_
            refine lv_goto (tgt := 50) hx hb dX11_script_46 (by decide) ?_
            refine lv_istore_n (lv' := [(1, .int (1 : Int32)), (0, .ref (E.1 k))]) hx hb dX11_script_50 rfl hl (by decide) rfl (fun ls hl => ?_)
            refine lv_goto (tgt := 14) hx hb dX11_script_51 (by decide) ?_
            exact ih σ38 (1 : Int32) _ _ _ z hG (lv_sub hl [1, 0] rfl) hM
set_option maxRecDepth 20000 in
set_option maxHeartbeats 4000000 in
theorem C_X11_script (l : Launch) (E : Ev) {σ σ' : St} {k : Nat} {r : Int32} (h : M_X11_script σ k = some (σ', r)) (hL : lay 11 k) : Mi l E yX11_script cX11_script 5 (some .int) 7 [.ref (E.1 k)] σ σ' r := by
  refine Mi_of (C := RX11) rfl (by decide) (Nat.le_of_ble_eq_true rfl) (z := (σ', r)) (fun p e s m below meth c ls X hG hl => ?_)
  have hx := X.1.1.1
  have hb := X.1.1.2.1
  have hM := h
  unfold M_X11_script at hM
  generalize (σ', r) = z at hM ⊢
  have hl : lv_has ls 5 [(0, .ref (E.1 k))] := hl
  refine lv_aload_n hx hb dX11_script_0 rfl (lv_at hl 0 rfl) ?_
  refine g_callV_v (nA := 0) (o := M_X11_tries σ k) (As := []) X.1 hG hL rfl rfl (fun _ _ h => C_X11_tries l E h hL) mw1189 mw1191 mw12 mw62 (gw_ok mw1192 rfl) (by decide +kernel) rfl ⟨Nat.le_of_ble_eq_true rfl, Nat.le_of_ble_eq_true rfl⟩ hl.1 rfl (Nat.le_of_ble_eq_true rfl) ⟨Nat.le_refl _, Nat.le_refl _⟩ dX11_script_1 hM (fun σ1 r2 H locs hG hM => ?_)
  refine lv_aload_n hx hb dX11_script_4 rfl (lv_at hl 0 rfl) ?_
  refine lv_iconst (v := (0 : Int32)) hx hb dX11_script_5 (by decide) ?_
  refine pt_11_11 X.1 hG hL mw1130 dX11_script_6 hM (fun σ3 H locs hG hM => ?_)
  refine lv_aload_n hx hb dX11_script_9 rfl (lv_at hl 0 rfl) ?_
  refine g_callV_i (nA := 0) (o := M_X11_isOrder σ3 k) (As := []) X.1 hG hL rfl rfl (fun _ _ h => C_X11_isOrder l E h hL) mw1348 mw1350 mw39 mw62 (gw_ok mw1351 rfl) (by decide +kernel) rfl ⟨Nat.le_of_ble_eq_true rfl, Nat.le_of_ble_eq_true rfl⟩ hl.1 rfl (Nat.le_of_ble_eq_true rfl) ⟨Nat.le_refl _, Nat.le_refl _⟩ dX11_script_10 hM (fun σ4 r5 H locs hG hM => ?_)
  refine lv_istore_n (lv' := [(1, .int r5), (0, .ref (E.1 k))]) hx hb dX11_script_13 rfl hl (by decide) rfl (fun ls hl => ?_)
  exact w_X11_script_14 X hL FU σ4 r5 _ _ _ z hG (lv_sub hl [1, 0] rfl) hM
def M_X11_crewOf (σ : St) (k : Nat) (p0 p1 : Int32) : Option (St × Int32) := bcall (M_X11_isCrew σ k p0) fun σ1 r2 => if r2 = 0 then some (σ1, (-1 : Int32)) else (if p1.toInt < 0 ∨ 3 < p1.toInt then some (σ1, (-2 : Int32)) else if p1.toInt = 0 then (bald σ1 (k + 1) ((90 : Int32) + ((3 : Int32) * p0)) fun q5 => some (σ1, q5)) else if p1.toInt = 1 then (bcall (M_X11_where σ1 k p0) fun σ7 r8 => if 0 ≤ r8 then (bcall (M_X11_where σ7 k p0) fun σ9 r10 => some (σ9, r10)) else some (σ7, (-4 : Int32))) else if p1.toInt = 2 then (bcall (M_X11_wouldWork σ1 k p0) fun σ13 r14 => if r14 = 0 then some (σ13, (0 : Int32)) else some (σ13, (1 : Int32))) else if p1.toInt = 3 then (bald σ1 (k + 1) (((90 : Int32) + ((3 : Int32) * p0)) + (2 : Int32)) fun q17 => some (σ1, q17)) else none)
set_option maxRecDepth 20000 in
set_option maxHeartbeats 4000000 in
theorem C_X11_crewOf (l : Launch) (E : Ev) {σ σ' : St} {k : Nat} {p0 : Int32} {p1 : Int32} {r : Int32} (h : M_X11_crewOf σ k p0 p1 = some (σ', r)) (hL : lay 11 k) : Mi l E yX11_crewOf cX11_crewOf 3 (some .int) 5 [.ref (E.1 k), .int p0, .int p1] σ σ' r := by
  refine Mi_of (C := RX11) rfl (by decide) (Nat.le_of_ble_eq_true rfl) (z := (σ', r)) (fun p e s m below meth c ls X hG hl => ?_)
  have hx := X.1.1.1
  have hb := X.1.1.2.1
  have hM := h
  unfold M_X11_crewOf at hM
  generalize (σ', r) = z at hM ⊢
  have hl : lv_has ls 3 [(0, .ref (E.1 k)), (1, .int p0), (2, .int p1)] := hl
  refine lv_aload_n hx hb dX11_crewOf_0 rfl (lv_at hl 0 rfl) ?_
  refine lv_iload_n hx hb dX11_crewOf_1 rfl (lv_at hl 1 rfl) ?_
  refine g_callV_i (nA := 1) (o := M_X11_isCrew σ k p0) (As := [.int p0]) X.1 hG hL rfl rfl (fun _ _ h => C_X11_isCrew l E h hL) mw1258 mw1260 mw24 mw62 (gw_ok mw1261 rfl) (by decide +kernel) rfl ⟨Nat.le_of_ble_eq_true rfl, Nat.le_of_ble_eq_true rfl⟩ hl.1 rfl (Nat.le_of_ble_eq_true rfl) ⟨Nat.le_refl _, Nat.le_refl _⟩ dX11_crewOf_2 hM (fun σ1 r2 H locs hG hM => ?_)
  refine lv_if_ne (tgt := 10) hx hb dX11_crewOf_5 (by decide) (fun c18 => ?_) (fun c18 => ?_)
  · have hM := b_else hM c18
    refine lv_iload_n hx hb dX11_crewOf_10 rfl (lv_at hl 2 rfl) ?_
    by_cases c3 : p1.toInt < 0 ∨ 3 < p1.toInt
    · have hM := b_if hM c3
      refine lv_tableOut (tgt := 99) hx hb dX11_crewOf_11 c3 (by decide) ?_
      refine lv_bipush (v := (-2 : Int32)) hx hb dX11_crewOf_99 (by decide) ?_
      exact e_iret X hG dX11_crewOf_101 hM
    · have hM := b_else hM c3
      by_cases c4 : p1.toInt = 0
      · have hM := b_if hM c4
        refine lv_tableIn (tgt := 40) hx hb dX11_crewOf_11 (fun h => c3 (Or.inl h)) (fun h => c3 (Or.inr h)) (by rw [c4]; rfl) (by decide) ?_
        refine lv_aload_n hx hb dX11_crewOf_40 rfl (lv_at hl 0 rfl) ?_
        refine gt_11_0 X.1 hG hL mw1119 dX11_crewOf_41 ?_
        refine lv_bipush (v := (90 : Int32)) hx hb dX11_crewOf_44 (by decide) ?_
        refine lv_iconst (v := (3 : Int32)) hx hb dX11_crewOf_46 (by decide) ?_
        refine lv_iload_n hx hb dX11_crewOf_47 rfl (lv_at hl 1 rfl) ?_
        refine lv_imul hx hb dX11_crewOf_48 ?_
        refine lv_iadd hx hb dX11_crewOf_49 ?_
        refine g_ald X.1 hG (lf_11_0 hL) dX11_crewOf_50 hM (fun q5 hM => ?_)
        exact e_iret X hG dX11_crewOf_51 hM
      have hM := b_else hM c4
      by_cases c6 : p1.toInt = 1
      · have hM := b_if hM c6
        refine lv_tableIn (tgt := 52) hx hb dX11_crewOf_11 (fun h => c3 (Or.inl h)) (fun h => c3 (Or.inr h)) (by rw [c6]; rfl) (by decide) ?_
        refine lv_aload_n hx hb dX11_crewOf_52 rfl (lv_at hl 0 rfl) ?_
        refine lv_iload_n hx hb dX11_crewOf_53 rfl (lv_at hl 1 rfl) ?_
        refine g_callV_i (nA := 1) (o := M_X11_where σ1 k p0) (As := [.int p0]) X.1 hG hL rfl rfl (fun _ _ h => C_X11_where l E h hL) mw1262 mw1264 mw25 mw62 (gw_ok mw1265 rfl) (by decide +kernel) rfl ⟨Nat.le_of_ble_eq_true rfl, Nat.le_of_ble_eq_true rfl⟩ hl.1 rfl (Nat.le_of_ble_eq_true rfl) ⟨Nat.le_refl _, Nat.le_refl _⟩ dX11_crewOf_54 hM (fun σ7 r8 H locs hG hM => ?_)
        refine lv_if_ge (tgt := 65) hx hb dX11_crewOf_57 (by decide) (fun c11 => ?_) (fun c11 => ?_)
        · have hM := b_if hM c11
          refine lv_aload_n hx hb dX11_crewOf_65 rfl (lv_at hl 0 rfl) ?_
          refine lv_iload_n hx hb dX11_crewOf_66 rfl (lv_at hl 1 rfl) ?_
          refine g_callV_i (nA := 1) (o := M_X11_where σ7 k p0) (As := [.int p0]) X.1 hG hL rfl rfl (fun _ _ h => C_X11_where l E h hL) mw1262 mw1264 mw25 mw62 (gw_ok mw1265 rfl) (by decide +kernel) rfl ⟨Nat.le_of_ble_eq_true rfl, Nat.le_of_ble_eq_true rfl⟩ hl.1 rfl (Nat.le_of_ble_eq_true rfl) ⟨Nat.le_refl _, Nat.le_refl _⟩ dX11_crewOf_67 hM (fun σ9 r10 H locs hG hM => ?_)
          exact e_iret X hG dX11_crewOf_70 hM
        · have hM := b_else hM c11
          refine lv_bipush (v := (-4 : Int32)) hx hb dX11_crewOf_60 (by decide) ?_
          refine lv_goto (tgt := 70) hx hb dX11_crewOf_62 (by decide) ?_
          exact e_iret X hG dX11_crewOf_70 hM
      have hM := b_else hM c6
      by_cases c12 : p1.toInt = 2
      · have hM := b_if hM c12
        refine lv_tableIn (tgt := 71) hx hb dX11_crewOf_11 (fun h => c3 (Or.inl h)) (fun h => c3 (Or.inr h)) (by rw [c12]; rfl) (by decide) ?_
        refine lv_aload_n hx hb dX11_crewOf_71 rfl (lv_at hl 0 rfl) ?_
        refine lv_iload_n hx hb dX11_crewOf_72 rfl (lv_at hl 1 rfl) ?_
        refine g_callV_i (nA := 1) (o := M_X11_wouldWork σ1 k p0) (As := [.int p0]) X.1 hG hL rfl rfl (fun _ _ h => C_X11_wouldWork l E h hL) mw1400 mw1402 mw44 mw62 (gw_ok mw1403 rfl) (by decide +kernel) rfl ⟨Nat.le_of_ble_eq_true rfl, Nat.le_of_ble_eq_true rfl⟩ hl.1 rfl (Nat.le_of_ble_eq_true rfl) ⟨Nat.le_refl _, Nat.le_refl _⟩ dX11_crewOf_73 hM (fun σ13 r14 H locs hG hM => ?_)
        refine lv_if_eq (tgt := 83) hx hb dX11_crewOf_76 (by decide) (fun c15 => ?_) (fun c15 => ?_)
        · have hM := b_if hM c15
          refine lv_iconst (v := (0 : Int32)) hx hb dX11_crewOf_83 (by decide) ?_
          exact e_iret X hG dX11_crewOf_84 hM
        · have hM := b_else hM c15
          refine lv_iconst (v := (1 : Int32)) hx hb dX11_crewOf_79 (by decide) ?_
          refine lv_goto (tgt := 84) hx hb dX11_crewOf_80 (by decide) ?_
          exact e_iret X hG dX11_crewOf_84 hM
      have hM := b_else hM c12
      by_cases c16 : p1.toInt = 3
      · have hM := b_if hM c16
        refine lv_tableIn (tgt := 85) hx hb dX11_crewOf_11 (fun h => c3 (Or.inl h)) (fun h => c3 (Or.inr h)) (by rw [c16]; rfl) (by decide) ?_
        refine lv_aload_n hx hb dX11_crewOf_85 rfl (lv_at hl 0 rfl) ?_
        refine gt_11_0 X.1 hG hL mw1119 dX11_crewOf_86 ?_
        refine lv_bipush (v := (90 : Int32)) hx hb dX11_crewOf_89 (by decide) ?_
        refine lv_iconst (v := (3 : Int32)) hx hb dX11_crewOf_91 (by decide) ?_
        refine lv_iload_n hx hb dX11_crewOf_92 rfl (lv_at hl 1 rfl) ?_
        refine lv_imul hx hb dX11_crewOf_93 ?_
        refine lv_iadd hx hb dX11_crewOf_94 ?_
        refine lv_iconst (v := (2 : Int32)) hx hb dX11_crewOf_95 (by decide) ?_
        refine lv_iadd hx hb dX11_crewOf_96 ?_
        refine g_ald X.1 hG (lf_11_0 hL) dX11_crewOf_97 hM (fun q17 hM => ?_)
        exact e_iret X hG dX11_crewOf_98 hM
      have hM := b_else hM c16
      cases hM
  · have hM := b_if hM c18
    refine lv_iconst (v := (-1 : Int32)) hx hb dX11_crewOf_8 (by decide) ?_
    exact e_iret X hG dX11_crewOf_9 hM
def M_J0_length_8abf5 (σ : St) (k : Nat)  : Option (St × Int32) := bcall (M_J0_coder_7d493 σ k) fun σ1 r2 => some (σ1, (Int32.ofNat (lnS k)) >>> (r2 &&& 31))
set_option maxRecDepth 20000 in
set_option maxHeartbeats 4000000 in
theorem C_J0_length_8abf5 (l : Launch) (E : Ev) {σ σ' : St} {k : Nat} {r : Int32} (h : M_J0_length_8abf5 σ k = some (σ', r)) (hL : k < 7) : Mi l E yJ0_length_8abf5 cJ0_length_8abf5 1 (some .int) 2 [.ref (eK E k)] σ σ' r := by
  refine Mi_of (C := RJ0) rfl (by decide) (Nat.le_of_ble_eq_true rfl) (z := (σ', r)) (fun p e s m below meth c ls X hG hl => ?_)
  have hx := X.1.1.1
  have hb := X.1.1.2.1
  have hM := h
  unfold M_J0_length_8abf5 at hM
  generalize (σ', r) = z at hM ⊢
  have hl : lv_has ls 1 [(0, .ref (eK E k))] := hl
  refine lv_aload_n hx hb dJ0_length_8abf5_0 rfl (lv_at hl 0 rfl) ?_
  refine g_sval X.1 hG hL mw1482 dJ0_length_8abf5_1 ?_
  refine g_slen X.1 hG hL dJ0_length_8abf5_4 ?_
  refine lv_aload_n hx hb dJ0_length_8abf5_5 rfl (lv_at hl 0 rfl) ?_
  refine g_callT_i (nA := 0) (o := M_J0_coder_7d493 σ k) (As := []) X.1 hG hL rfl (fun _ _ h => C_J0_coder_7d493 l E h hL) mw818 mw819 mw820 mw66 (gw_ok mw821 rfl) (by decide +kernel) rfl ⟨Nat.le_of_ble_eq_true rfl, Nat.le_of_ble_eq_true rfl⟩ hl.1 rfl (Nat.le_of_ble_eq_true rfl) ⟨Nat.le_refl _, Nat.le_refl _⟩ dJ0_length_8abf5_6 hM (fun σ1 r2 H locs hG hM => ?_)
  refine lv_ishr hx hb dJ0_length_8abf5_9 ?_
  exact e_iret X hG dJ0_length_8abf5_10 hM
def M_J0_checkIndex_df160 (σ : St)  (p0 p1 : Int32) : Option (St × Int32) := bcall (M_J3_checkIndex_8e157 σ p0 p1) fun σ1 r2 => some (σ1, 0)
set_option maxRecDepth 20000 in
set_option maxHeartbeats 4000000 in
theorem C_J0_checkIndex_df160 (l : Launch) (E : Ev) {σ σ' : St} {p0 : Int32} {p1 : Int32} {r : Int32} (h : M_J0_checkIndex_df160 σ p0 p1 = some (σ', r)) : Mv l E yJ0_checkIndex_df160 cJ0_checkIndex_df160 2 2 [.int p0, .int p1] σ σ' := by
  refine Mv_of (C := RJ0) rfl (by decide) (Nat.le_of_ble_eq_true rfl) (z := (σ', r)) (fun p e s m below meth c ls X hG hl => ?_)
  have hx := X.1.1.1
  have hb := X.1.1.2.1
  have hM := h
  unfold M_J0_checkIndex_df160 at hM
  generalize (σ', r) = z at hM ⊢
  have hl : lv_has ls 2 [(0, .int p0), (1, .int p1)] := hl
  refine lv_iload_n hx hb dJ0_checkIndex_df160_0 rfl (lv_at hl 0 rfl) ?_
  refine lv_iload_n hx hb dJ0_checkIndex_df160_1 rfl (lv_at hl 1 rfl) ?_
  refine g_stF X.1 hG mw838 dJ0_checkIndex_df160_2 ?_ (fun t => ?_)
  · refine g_callS_i (nA := 3) (o := M_J3_checkIndex_8e157 σ p0 p1) (As := [.int p0, .int p1, .null]) X.1 hG (fun _ _ h => C_J3_checkIndex_8e157_n l E h ) mw840 mw841 mw68 (gw_ok mw842 rfl) (by decide +kernel) rfl ⟨Nat.le_of_ble_eq_true rfl, Nat.le_of_ble_eq_true rfl⟩ hl.1 rfl (Nat.le_of_ble_eq_true rfl) ⟨Nat.le_refl _, Nat.le_refl _⟩ dJ0_checkIndex_df160_5 hM (fun σ1 r2 H locs hG hM => ?_)
    refine lv_pop hx hb dJ0_checkIndex_df160_8 rfl ?_
    exact e_vret X hG dJ0_checkIndex_df160_9 hM
  · refine g_callS_i (nA := 3) (o := M_J3_checkIndex_8e157 σ p0 p1) (As := [.int p0, .int p1, .ref t]) X.1 hG (fun _ _ h => C_J3_checkIndex_8e157 l E t h ) mw840 mw841 mw68 (gw_ok mw842 rfl) (by decide +kernel) rfl ⟨Nat.le_of_ble_eq_true rfl, Nat.le_of_ble_eq_true rfl⟩ hl.1 rfl (Nat.le_of_ble_eq_true rfl) ⟨Nat.le_refl _, Nat.le_refl _⟩ dJ0_checkIndex_df160_5 hM (fun σ1 r2 H locs hG hM => ?_)
    refine lv_pop hx hb dJ0_checkIndex_df160_8 rfl ?_
    exact e_vret X hG dJ0_checkIndex_df160_9 hM
