def M_X10_storeyOf (σ : St) (k : Nat) (p0 p1 : Int32) : Option (St × Int32) := bcall (M_X9_has σ ((k + 5) + 4) p0) fun σ1 r2 => if r2 = 0 then some (σ1, (-1 : Int32)) else (if p1.toInt < 0 ∨ 6 < p1.toInt then some (σ1, (-2 : Int32)) else if p1.toInt = 0 then (bcall (M_X9_polesOf σ1 ((k + 5) + 4) p0) fun σ5 r6 => some (σ5, r6)) else if p1.toInt = 1 then (bcall (M_X9_weeksOf σ1 ((k + 5) + 4) p0) fun σ8 r9 => some (σ8, r9)) else if p1.toInt = 2 then (bcall (M_X9_tieOf σ1 ((k + 5) + 4) p0) fun σ11 r12 => some (σ11, r12)) else if p1.toInt = 3 then (bcall (M_X9_hoursOf σ1 ((k + 5) + 4) p0) fun σ14 r15 => some (σ14, r15)) else if p1.toInt = 4 then (bcall (M_X9_loadsOf σ1 ((k + 5) + 4) p0) fun σ17 r18 => some (σ17, r18)) else if p1.toInt = 5 then (bcall (M_X9_isShut σ1 ((k + 5) + 4) p0) fun σ20 r21 => if r21 = 0 then some (σ20, (0 : Int32)) else some (σ20, (1 : Int32))) else if p1.toInt = 6 then (bcall (M_X1_bitsOn σ1 ((k + 5) + 11) p0) fun σ24 r25 => some (σ24, r25)) else none)
set_option maxRecDepth 20000 in
set_option maxHeartbeats 4000000 in
theorem C_X10_storeyOf (l : Launch) (E : Ev) {σ σ' : St} {k : Nat} {p0 : Int32} {p1 : Int32} {r : Int32} (h : M_X10_storeyOf σ k p0 p1 = some (σ', r)) (hL : lay 10 k) : Mi l E yX10_storeyOf cX10_storeyOf 4 (some .int) 4 [.ref (E.1 k), .int p0, .int p1] σ σ' r := by
  refine Mi_of (C := RX10) rfl (by decide) (Nat.le_of_ble_eq_true rfl) (z := (σ', r)) (fun p e s m below meth c ls X hG hl => ?_)
  have hx := X.1.1.1
  have hb := X.1.1.2.1
  have hM := h
  unfold M_X10_storeyOf at hM
  generalize (σ', r) = z at hM ⊢
  have hl : lv_has ls 4 [(0, .ref (E.1 k)), (1, .int p0), (2, .int p1)] := hl
  refine lv_aload_n hx hb dX10_storeyOf_0 rfl (lv_at hl 0 rfl) ?_
  refine gt_10_1 X.1 hG hL mw300 dX10_storeyOf_1 ?_
  refine gtN_7_1 X.1 hG (lf_10_1 hL) mw167 dX10_storeyOf_4 ?_
  refine lv_astore_n (lv' := [(3, .ref (E.1 ((k + 5) + 4))), (0, .ref (E.1 k)), (1, .int p0), (2, .int p1)]) hx hb dX10_storeyOf_7 rfl hl (by decide) rfl (fun ls hl => ?_)
  refine lv_aload_n hx hb dX10_storeyOf_8 rfl (lv_at hl 0 rfl) ?_
  refine lv_iload_n hx hb dX10_storeyOf_9 rfl (lv_at hl 2 rfl) ?_
  refine g_callV_i (nA := 1) (o := M_X9_has σ ((k + 5) + 4) p0) (As := [.int p0]) X.1 hG (lf_7_1 (lf_10_1 hL)) rfl rfl (fun _ _ h => C_X9_has l E h (lf_7_1 (lf_10_1 hL))) mw869 mw523 mw524 mw17 (gw_ok mw525 rfl) (by decide +kernel) rfl ⟨Nat.le_of_ble_eq_true rfl, Nat.le_of_ble_eq_true rfl⟩ hl.1 rfl (Nat.le_of_ble_eq_true rfl) ⟨Nat.le_refl _, Nat.le_refl _⟩ dX10_storeyOf_10 hM (fun σ1 r2 H locs hG hM => ?_)
  refine lv_if_ne (tgt := 18) hx hb dX10_storeyOf_13 (by decide) (fun c26 => ?_) (fun c26 => ?_)
  · have hM := b_else hM c26
    refine lv_iload_n hx hb dX10_storeyOf_18 rfl (lv_at hl 3 rfl) ?_
    by_cases c3 : p1.toInt < 0 ∨ 6 < p1.toInt
    · have hM := b_if hM c3
      refine lv_tableOut (tgt := 116) hx hb dX10_storeyOf_19 c3 (by decide) ?_
      refine lv_bipush (v := (-2 : Int32)) hx hb dX10_storeyOf_116 (by decide) ?_
      exact e_iret X hG dX10_storeyOf_118 hM
    · have hM := b_else hM c3
      by_cases c4 : p1.toInt = 0
      · have hM := b_if hM c4
        refine lv_tableIn (tgt := 60) hx hb dX10_storeyOf_19 (fun h => c3 (Or.inl h)) (fun h => c3 (Or.inr h)) (by rw [c4]; rfl) (by decide) ?_
        refine lv_aload_n hx hb dX10_storeyOf_60 rfl (lv_at hl 0 rfl) ?_
        refine lv_iload_n hx hb dX10_storeyOf_61 rfl (lv_at hl 2 rfl) ?_
        refine g_callV_i (nA := 1) (o := M_X9_polesOf σ1 ((k + 5) + 4) p0) (As := [.int p0]) X.1 hG (lf_7_1 (lf_10_1 hL)) rfl rfl (fun _ _ h => C_X9_polesOf l E h (lf_7_1 (lf_10_1 hL))) mw870 mw724 mw725 mw17 (gw_ok mw726 rfl) (by decide +kernel) rfl ⟨Nat.le_of_ble_eq_true rfl, Nat.le_of_ble_eq_true rfl⟩ hl.1 rfl (Nat.le_of_ble_eq_true rfl) ⟨Nat.le_refl _, Nat.le_refl _⟩ dX10_storeyOf_62 hM (fun σ5 r6 H locs hG hM => ?_)
        exact e_iret X hG dX10_storeyOf_65 hM
      have hM := b_else hM c4
      by_cases c7 : p1.toInt = 1
      · have hM := b_if hM c7
        refine lv_tableIn (tgt := 66) hx hb dX10_storeyOf_19 (fun h => c3 (Or.inl h)) (fun h => c3 (Or.inr h)) (by rw [c7]; rfl) (by decide) ?_
        refine lv_aload_n hx hb dX10_storeyOf_66 rfl (lv_at hl 0 rfl) ?_
        refine lv_iload_n hx hb dX10_storeyOf_67 rfl (lv_at hl 2 rfl) ?_
        refine g_callV_i (nA := 1) (o := M_X9_weeksOf σ1 ((k + 5) + 4) p0) (As := [.int p0]) X.1 hG (lf_7_1 (lf_10_1 hL)) rfl rfl (fun _ _ h => C_X9_weeksOf l E h (lf_7_1 (lf_10_1 hL))) mw871 mw872 mw873 mw17 (gw_ok mw874 rfl) (by decide +kernel) rfl ⟨Nat.le_of_ble_eq_true rfl, Nat.le_of_ble_eq_true rfl⟩ hl.1 rfl (Nat.le_of_ble_eq_true rfl) ⟨Nat.le_refl _, Nat.le_refl _⟩ dX10_storeyOf_68 hM (fun σ8 r9 H locs hG hM => ?_)
        exact e_iret X hG dX10_storeyOf_71 hM
      have hM := b_else hM c7
      by_cases c10 : p1.toInt = 2
      · have hM := b_if hM c10
        refine lv_tableIn (tgt := 72) hx hb dX10_storeyOf_19 (fun h => c3 (Or.inl h)) (fun h => c3 (Or.inr h)) (by rw [c10]; rfl) (by decide) ?_
        refine lv_aload_n hx hb dX10_storeyOf_72 rfl (lv_at hl 0 rfl) ?_
        refine lv_iload_n hx hb dX10_storeyOf_73 rfl (lv_at hl 2 rfl) ?_
        refine g_callV_i (nA := 1) (o := M_X9_tieOf σ1 ((k + 5) + 4) p0) (As := [.int p0]) X.1 hG (lf_7_1 (lf_10_1 hL)) rfl rfl (fun _ _ h => C_X9_tieOf l E h (lf_7_1 (lf_10_1 hL))) mw875 mw642 mw643 mw17 (gw_ok mw644 rfl) (by decide +kernel) rfl ⟨Nat.le_of_ble_eq_true rfl, Nat.le_of_ble_eq_true rfl⟩ hl.1 rfl (Nat.le_of_ble_eq_true rfl) ⟨Nat.le_refl _, Nat.le_refl _⟩ dX10_storeyOf_74 hM (fun σ11 r12 H locs hG hM => ?_)
        exact e_iret X hG dX10_storeyOf_77 hM
      have hM := b_else hM c10
      by_cases c13 : p1.toInt = 3
      · have hM := b_if hM c13
        refine lv_tableIn (tgt := 78) hx hb dX10_storeyOf_19 (fun h => c3 (Or.inl h)) (fun h => c3 (Or.inr h)) (by rw [c13]; rfl) (by decide) ?_
        refine lv_aload_n hx hb dX10_storeyOf_78 rfl (lv_at hl 0 rfl) ?_
        refine lv_iload_n hx hb dX10_storeyOf_79 rfl (lv_at hl 2 rfl) ?_
        refine g_callV_i (nA := 1) (o := M_X9_hoursOf σ1 ((k + 5) + 4) p0) (As := [.int p0]) X.1 hG (lf_7_1 (lf_10_1 hL)) rfl rfl (fun _ _ h => C_X9_hoursOf l E h (lf_7_1 (lf_10_1 hL))) mw876 mw681 mw682 mw17 (gw_ok mw683 rfl) (by decide +kernel) rfl ⟨Nat.le_of_ble_eq_true rfl, Nat.le_of_ble_eq_true rfl⟩ hl.1 rfl (Nat.le_of_ble_eq_true rfl) ⟨Nat.le_refl _, Nat.le_refl _⟩ dX10_storeyOf_80 hM (fun σ14 r15 H locs hG hM => ?_)
        exact e_iret X hG dX10_storeyOf_83 hM
      have hM := b_else hM c13
      by_cases c16 : p1.toInt = 4
      · have hM := b_if hM c16
        refine lv_tableIn (tgt := 84) hx hb dX10_storeyOf_19 (fun h => c3 (Or.inl h)) (fun h => c3 (Or.inr h)) (by rw [c16]; rfl) (by decide) ?_
        refine lv_aload_n hx hb dX10_storeyOf_84 rfl (lv_at hl 0 rfl) ?_
        refine lv_iload_n hx hb dX10_storeyOf_85 rfl (lv_at hl 2 rfl) ?_
        refine g_callV_i (nA := 1) (o := M_X9_loadsOf σ1 ((k + 5) + 4) p0) (As := [.int p0]) X.1 hG (lf_7_1 (lf_10_1 hL)) rfl rfl (fun _ _ h => C_X9_loadsOf l E h (lf_7_1 (lf_10_1 hL))) mw877 mw590 mw591 mw17 (gw_ok mw592 rfl) (by decide +kernel) rfl ⟨Nat.le_of_ble_eq_true rfl, Nat.le_of_ble_eq_true rfl⟩ hl.1 rfl (Nat.le_of_ble_eq_true rfl) ⟨Nat.le_refl _, Nat.le_refl _⟩ dX10_storeyOf_86 hM (fun σ17 r18 H locs hG hM => ?_)
        exact e_iret X hG dX10_storeyOf_89 hM
      have hM := b_else hM c16
      by_cases c19 : p1.toInt = 5
      · have hM := b_if hM c19
        refine lv_tableIn (tgt := 90) hx hb dX10_storeyOf_19 (fun h => c3 (Or.inl h)) (fun h => c3 (Or.inr h)) (by rw [c19]; rfl) (by decide) ?_
        refine lv_aload_n hx hb dX10_storeyOf_90 rfl (lv_at hl 0 rfl) ?_
        refine lv_iload_n hx hb dX10_storeyOf_91 rfl (lv_at hl 2 rfl) ?_
        refine g_callV_i (nA := 1) (o := M_X9_isShut σ1 ((k + 5) + 4) p0) (As := [.int p0]) X.1 hG (lf_7_1 (lf_10_1 hL)) rfl rfl (fun _ _ h => C_X9_isShut l E h (lf_7_1 (lf_10_1 hL))) mw878 mw537 mw538 mw17 (gw_ok mw539 rfl) (by decide +kernel) rfl ⟨Nat.le_of_ble_eq_true rfl, Nat.le_of_ble_eq_true rfl⟩ hl.1 rfl (Nat.le_of_ble_eq_true rfl) ⟨Nat.le_refl _, Nat.le_refl _⟩ dX10_storeyOf_92 hM (fun σ20 r21 H locs hG hM => ?_)
        refine lv_if_eq (tgt := 102) hx hb dX10_storeyOf_95 (by decide) (fun c22 => ?_) (fun c22 => ?_)
        · have hM := b_if hM c22
          refine lv_iconst (v := (0 : Int32)) hx hb dX10_storeyOf_102 (by decide) ?_
          exact e_iret X hG dX10_storeyOf_103 hM
        · have hM := b_else hM c22
          refine lv_iconst (v := (1 : Int32)) hx hb dX10_storeyOf_98 (by decide) ?_
          refine lv_goto (tgt := 103) hx hb dX10_storeyOf_99 (by decide) ?_
          exact e_iret X hG dX10_storeyOf_103 hM
      have hM := b_else hM c19
      by_cases c23 : p1.toInt = 6
      · have hM := b_if hM c23
        refine lv_tableIn (tgt := 104) hx hb dX10_storeyOf_19 (fun h => c3 (Or.inl h)) (fun h => c3 (Or.inr h)) (by rw [c23]; rfl) (by decide) ?_
        refine lv_aload_n hx hb dX10_storeyOf_104 rfl (lv_at hl 1 rfl) ?_
        refine gt_10_1 X.1 hG hL mw300 dX10_storeyOf_105 ?_
        refine gtN_7_2 X.1 hG (lf_10_1 hL) mw170 dX10_storeyOf_108 ?_
        refine lv_iload_n hx hb dX10_storeyOf_111 rfl (lv_at hl 2 rfl) ?_
        refine g_callV_i (nA := 1) (o := M_X1_bitsOn σ1 ((k + 5) + 11) p0) (As := [.int p0]) X.1 hG (lf_7_2 (lf_10_1 hL)) rfl rfl (fun _ _ h => C_X1_bitsOn l E h (lf_7_2 (lf_10_1 hL))) mw879 mw559 mw560 mw18 (gw_ok mw561 rfl) (by decide +kernel) rfl ⟨Nat.le_of_ble_eq_true rfl, Nat.le_of_ble_eq_true rfl⟩ hl.1 rfl (Nat.le_of_ble_eq_true rfl) ⟨Nat.le_refl _, Nat.le_refl _⟩ dX10_storeyOf_112 hM (fun σ24 r25 H locs hG hM => ?_)
        exact e_iret X hG dX10_storeyOf_115 hM
      have hM := b_else hM c23
      cases hM
  · have hM := b_if hM c26
    refine lv_iconst (v := (-1 : Int32)) hx hb dX10_storeyOf_16 (by decide) ?_
    exact e_iret X hG dX10_storeyOf_17 hM
def M_X10_strength (σ : St) (k : Nat) (p0 p1 : Int32) : Option (St × Int32) := bcall (M_X9_has σ ((k + 5) + 4) p0) fun σ1 r2 => if r2 = 0 then some (σ1, (-1 : Int32)) else (if p1 = 0 then (bcall (M_X9_strengthOf σ1 ((k + 5) + 4) p0) fun σ3 r4 => some (σ3, r4)) else (bcall (M_X9_strengthByStepsOf σ1 ((k + 5) + 4) p0) fun σ5 r6 => some (σ5, r6)))
set_option maxRecDepth 20000 in
set_option maxHeartbeats 4000000 in
theorem C_X10_strength (l : Launch) (E : Ev) {σ σ' : St} {k : Nat} {p0 : Int32} {p1 : Int32} {r : Int32} (h : M_X10_strength σ k p0 p1 = some (σ', r)) (hL : lay 10 k) : Mi l E yX10_strength cX10_strength 3 (some .int) 4 [.ref (E.1 k), .int p0, .int p1] σ σ' r := by
  refine Mi_of (C := RX10) rfl (by decide) (Nat.le_of_ble_eq_true rfl) (z := (σ', r)) (fun p e s m below meth c ls X hG hl => ?_)
  have hx := X.1.1.1
  have hb := X.1.1.2.1
  have hM := h
  unfold M_X10_strength at hM
  generalize (σ', r) = z at hM ⊢
  have hl : lv_has ls 3 [(0, .ref (E.1 k)), (1, .int p0), (2, .int p1)] := hl
  refine lv_aload_n hx hb dX10_strength_0 rfl (lv_at hl 0 rfl) ?_
  refine gt_10_1 X.1 hG hL mw300 dX10_strength_1 ?_
  refine gtN_7_1 X.1 hG (lf_10_1 hL) mw167 dX10_strength_4 ?_
  refine lv_iload_n hx hb dX10_strength_7 rfl (lv_at hl 1 rfl) ?_
  refine g_callV_i (nA := 1) (o := M_X9_has σ ((k + 5) + 4) p0) (As := [.int p0]) X.1 hG (lf_7_1 (lf_10_1 hL)) rfl rfl (fun _ _ h => C_X9_has l E h (lf_7_1 (lf_10_1 hL))) mw869 mw523 mw524 mw17 (gw_ok mw525 rfl) (by decide +kernel) rfl ⟨Nat.le_of_ble_eq_true rfl, Nat.le_of_ble_eq_true rfl⟩ hl.1 rfl (Nat.le_of_ble_eq_true rfl) ⟨Nat.le_refl _, Nat.le_refl _⟩ dX10_strength_8 hM (fun σ1 r2 H locs hG hM => ?_)
  refine lv_if_ne (tgt := 16) hx hb dX10_strength_11 (by decide) (fun c8 => ?_) (fun c8 => ?_)
  · have hM := b_else hM c8
    refine lv_iload_n hx hb dX10_strength_16 rfl (lv_at hl 2 rfl) ?_
    refine lv_if_eq (tgt := 34) hx hb dX10_strength_17 (by decide) (fun c7 => ?_) (fun c7 => ?_)
    · have hM := b_if hM c7
      refine lv_aload_n hx hb dX10_strength_34 rfl (lv_at hl 0 rfl) ?_
      refine gt_10_1 X.1 hG hL mw300 dX10_strength_35 ?_
      refine gtN_7_1 X.1 hG (lf_10_1 hL) mw167 dX10_strength_38 ?_
      refine lv_iload_n hx hb dX10_strength_41 rfl (lv_at hl 1 rfl) ?_
      refine g_callV_i (nA := 1) (o := M_X9_strengthOf σ1 ((k + 5) + 4) p0) (As := [.int p0]) X.1 hG (lf_7_1 (lf_10_1 hL)) rfl rfl (fun _ _ h => C_X9_strengthOf l E h (lf_7_1 (lf_10_1 hL))) mw890 mw716 mw717 mw17 (gw_ok mw718 rfl) (by decide +kernel) rfl ⟨Nat.le_of_ble_eq_true rfl, Nat.le_of_ble_eq_true rfl⟩ hl.1 rfl (Nat.le_of_ble_eq_true rfl) ⟨Nat.le_refl _, Nat.le_refl _⟩ dX10_strength_42 hM (fun σ3 r4 H locs hG hM => ?_)
      exact e_iret X hG dX10_strength_45 hM
    · have hM := b_else hM c7
      refine lv_aload_n hx hb dX10_strength_20 rfl (lv_at hl 0 rfl) ?_
      refine gt_10_1 X.1 hG hL mw300 dX10_strength_21 ?_
      refine gtN_7_1 X.1 hG (lf_10_1 hL) mw167 dX10_strength_24 ?_
      refine lv_iload_n hx hb dX10_strength_27 rfl (lv_at hl 1 rfl) ?_
      refine g_callV_i (nA := 1) (o := M_X9_strengthByStepsOf σ1 ((k + 5) + 4) p0) (As := [.int p0]) X.1 hG (lf_7_1 (lf_10_1 hL)) rfl rfl (fun _ _ h => C_X9_strengthByStepsOf l E h (lf_7_1 (lf_10_1 hL))) mw884 mw885 mw886 mw17 (gw_ok mw887 rfl) (by decide +kernel) rfl ⟨Nat.le_of_ble_eq_true rfl, Nat.le_of_ble_eq_true rfl⟩ hl.1 rfl (Nat.le_of_ble_eq_true rfl) ⟨Nat.le_refl _, Nat.le_refl _⟩ dX10_strength_28 hM (fun σ5 r6 H locs hG hM => ?_)
      refine lv_goto (tgt := 45) hx hb dX10_strength_31 (by decide) ?_
      exact e_iret X hG dX10_strength_45 hM
  · have hM := b_if hM c8
    refine lv_iconst (v := (-1 : Int32)) hx hb dX10_strength_14 (by decide) ?_
    exact e_iret X hG dX10_strength_15 hM
def M_X10_weakest (σ : St) (k : Nat)  : Option (St × Int32) := bcall (M_X9_leastStrong σ ((k + 5) + 4)) fun σ1 r2 => some (σ1, r2)
set_option maxRecDepth 20000 in
set_option maxHeartbeats 4000000 in
theorem C_X10_weakest (l : Launch) (E : Ev) {σ σ' : St} {k : Nat} {r : Int32} (h : M_X10_weakest σ k = some (σ', r)) (hL : lay 10 k) : Mi l E yX10_weakest cX10_weakest 1 (some .int) 4 [.ref (E.1 k)] σ σ' r := by
  refine Mi_of (C := RX10) rfl (by decide) (Nat.le_of_ble_eq_true rfl) (z := (σ', r)) (fun p e s m below meth c ls X hG hl => ?_)
  have hx := X.1.1.1
  have hb := X.1.1.2.1
  have hM := h
  unfold M_X10_weakest at hM
  generalize (σ', r) = z at hM ⊢
  have hl : lv_has ls 1 [(0, .ref (E.1 k))] := hl
  refine lv_aload_n hx hb dX10_weakest_0 rfl (lv_at hl 0 rfl) ?_
  refine gt_10_1 X.1 hG hL mw300 dX10_weakest_1 ?_
  refine gtN_7_1 X.1 hG (lf_10_1 hL) mw167 dX10_weakest_4 ?_
  refine g_callV_i (nA := 0) (o := M_X9_leastStrong σ ((k + 5) + 4)) (As := []) X.1 hG (lf_7_1 (lf_10_1 hL)) rfl rfl (fun _ _ h => C_X9_leastStrong l E h (lf_7_1 (lf_10_1 hL))) mw895 mw896 mw897 mw17 (gw_ok mw898 rfl) (by decide +kernel) rfl ⟨Nat.le_of_ble_eq_true rfl, Nat.le_of_ble_eq_true rfl⟩ hl.1 rfl (Nat.le_of_ble_eq_true rfl) ⟨Nat.le_refl _, Nat.le_refl _⟩ dX10_weakest_7 hM (fun σ1 r2 H locs hG hM => ?_)
  exact e_iret X hG dX10_weakest_10 hM
def M_X10_inspectorOf (σ : St) (k : Nat) (p0 p1 : Int32) : Option (St × Int32) := bcall (M_X3_has σ ((k + 5) + 15) p0) fun σ1 r2 => if r2 = 0 then some (σ1, (-1 : Int32)) else (if p1.toInt < 0 ∨ 2 < p1.toInt then some (σ1, (-2 : Int32)) else if p1.toInt = 0 then (bcall (M_X3_noseOf σ1 ((k + 5) + 15) p0) fun σ5 r6 => some (σ5, r6)) else if p1.toInt = 1 then (bcall (M_X9_howManyShutBy σ1 ((k + 5) + 4) p0) fun σ8 r9 => some (σ8, r9)) else if p1.toInt = 2 then (bcall (M_X3_findsOf σ1 ((k + 5) + 15) p0) fun σ11 r12 => some (σ11, r12)) else none)
set_option maxRecDepth 20000 in
set_option maxHeartbeats 4000000 in
theorem C_X10_inspectorOf (l : Launch) (E : Ev) {σ σ' : St} {k : Nat} {p0 : Int32} {p1 : Int32} {r : Int32} (h : M_X10_inspectorOf σ k p0 p1 = some (σ', r)) (hL : lay 10 k) : Mi l E yX10_inspectorOf cX10_inspectorOf 4 (some .int) 4 [.ref (E.1 k), .int p0, .int p1] σ σ' r := by
  refine Mi_of (C := RX10) rfl (by decide) (Nat.le_of_ble_eq_true rfl) (z := (σ', r)) (fun p e s m below meth c ls X hG hl => ?_)
  have hx := X.1.1.1
  have hb := X.1.1.2.1
  have hM := h
  unfold M_X10_inspectorOf at hM
  generalize (σ', r) = z at hM ⊢
  have hl : lv_has ls 4 [(0, .ref (E.1 k)), (1, .int p0), (2, .int p1)] := hl
  refine lv_aload_n hx hb dX10_inspectorOf_0 rfl (lv_at hl 0 rfl) ?_
  refine gt_10_1 X.1 hG hL mw300 dX10_inspectorOf_1 ?_
  refine gtN_7_3 X.1 hG (lf_10_1 hL) mw173 dX10_inspectorOf_4 ?_
  refine lv_astore_n (lv' := [(3, .ref (E.1 ((k + 5) + 15))), (0, .ref (E.1 k)), (1, .int p0), (2, .int p1)]) hx hb dX10_inspectorOf_7 rfl hl (by decide) rfl (fun ls hl => ?_)
  refine lv_aload_n hx hb dX10_inspectorOf_8 rfl (lv_at hl 0 rfl) ?_
  refine lv_iload_n hx hb dX10_inspectorOf_9 rfl (lv_at hl 2 rfl) ?_
  refine g_callV_i (nA := 1) (o := M_X3_has σ ((k + 5) + 15) p0) (As := [.int p0]) X.1 hG (lf_7_3 (lf_10_1 hL)) rfl rfl (fun _ _ h => C_X3_has l E h (lf_7_3 (lf_10_1 hL))) mw932 mw633 mw634 mw19 (gw_ok mw635 rfl) (by decide +kernel) rfl ⟨Nat.le_of_ble_eq_true rfl, Nat.le_of_ble_eq_true rfl⟩ hl.1 rfl (Nat.le_of_ble_eq_true rfl) ⟨Nat.le_refl _, Nat.le_refl _⟩ dX10_inspectorOf_10 hM (fun σ1 r2 H locs hG hM => ?_)
  refine lv_if_ne (tgt := 18) hx hb dX10_inspectorOf_13 (by decide) (fun c13 => ?_) (fun c13 => ?_)
  · have hM := b_else hM c13
    refine lv_iload_n hx hb dX10_inspectorOf_18 rfl (lv_at hl 3 rfl) ?_
    by_cases c3 : p1.toInt < 0 ∨ 2 < p1.toInt
    · have hM := b_if hM c3
      refine lv_tableOut (tgt := 68) hx hb dX10_inspectorOf_19 c3 (by decide) ?_
      refine lv_bipush (v := (-2 : Int32)) hx hb dX10_inspectorOf_68 (by decide) ?_
      exact e_iret X hG dX10_inspectorOf_70 hM
    · have hM := b_else hM c3
      by_cases c4 : p1.toInt = 0
      · have hM := b_if hM c4
        refine lv_tableIn (tgt := 44) hx hb dX10_inspectorOf_19 (fun h => c3 (Or.inl h)) (fun h => c3 (Or.inr h)) (by rw [c4]; rfl) (by decide) ?_
        refine lv_aload_n hx hb dX10_inspectorOf_44 rfl (lv_at hl 0 rfl) ?_
        refine lv_iload_n hx hb dX10_inspectorOf_45 rfl (lv_at hl 2 rfl) ?_
        refine g_callV_i (nA := 1) (o := M_X3_noseOf σ1 ((k + 5) + 15) p0) (As := [.int p0]) X.1 hG (lf_7_3 (lf_10_1 hL)) rfl rfl (fun _ _ h => C_X3_noseOf l E h (lf_7_3 (lf_10_1 hL))) mw933 mw637 mw638 mw19 (gw_ok mw639 rfl) (by decide +kernel) rfl ⟨Nat.le_of_ble_eq_true rfl, Nat.le_of_ble_eq_true rfl⟩ hl.1 rfl (Nat.le_of_ble_eq_true rfl) ⟨Nat.le_refl _, Nat.le_refl _⟩ dX10_inspectorOf_46 hM (fun σ5 r6 H locs hG hM => ?_)
        exact e_iret X hG dX10_inspectorOf_49 hM
      have hM := b_else hM c4
      by_cases c7 : p1.toInt = 1
      · have hM := b_if hM c7
        refine lv_tableIn (tgt := 50) hx hb dX10_inspectorOf_19 (fun h => c3 (Or.inl h)) (fun h => c3 (Or.inr h)) (by rw [c7]; rfl) (by decide) ?_
        refine lv_aload_n hx hb dX10_inspectorOf_50 rfl (lv_at hl 1 rfl) ?_
        refine gt_10_1 X.1 hG hL mw300 dX10_inspectorOf_51 ?_
        refine gtN_7_1 X.1 hG (lf_10_1 hL) mw167 dX10_inspectorOf_54 ?_
        refine lv_iload_n hx hb dX10_inspectorOf_57 rfl (lv_at hl 2 rfl) ?_
        refine g_callV_i (nA := 1) (o := M_X9_howManyShutBy σ1 ((k + 5) + 4) p0) (As := [.int p0]) X.1 hG (lf_7_1 (lf_10_1 hL)) rfl rfl (fun _ _ h => C_X9_howManyShutBy l E h (lf_7_1 (lf_10_1 hL))) mw934 mw935 mw936 mw17 (gw_ok mw937 rfl) (by decide +kernel) rfl ⟨Nat.le_of_ble_eq_true rfl, Nat.le_of_ble_eq_true rfl⟩ hl.1 rfl (Nat.le_of_ble_eq_true rfl) ⟨Nat.le_refl _, Nat.le_refl _⟩ dX10_inspectorOf_58 hM (fun σ8 r9 H locs hG hM => ?_)
        exact e_iret X hG dX10_inspectorOf_61 hM
      have hM := b_else hM c7
      by_cases c10 : p1.toInt = 2
      · have hM := b_if hM c10
        refine lv_tableIn (tgt := 62) hx hb dX10_inspectorOf_19 (fun h => c3 (Or.inl h)) (fun h => c3 (Or.inr h)) (by rw [c10]; rfl) (by decide) ?_
        refine lv_aload_n hx hb dX10_inspectorOf_62 rfl (lv_at hl 0 rfl) ?_
        refine lv_iload_n hx hb dX10_inspectorOf_63 rfl (lv_at hl 2 rfl) ?_
        refine g_callV_i (nA := 1) (o := M_X3_findsOf σ1 ((k + 5) + 15) p0) (As := [.int p0]) X.1 hG (lf_7_3 (lf_10_1 hL)) rfl rfl (fun _ _ h => C_X3_findsOf l E h (lf_7_3 (lf_10_1 hL))) mw938 mw658 mw659 mw19 (gw_ok mw660 rfl) (by decide +kernel) rfl ⟨Nat.le_of_ble_eq_true rfl, Nat.le_of_ble_eq_true rfl⟩ hl.1 rfl (Nat.le_of_ble_eq_true rfl) ⟨Nat.le_refl _, Nat.le_refl _⟩ dX10_inspectorOf_64 hM (fun σ11 r12 H locs hG hM => ?_)
        exact e_iret X hG dX10_inspectorOf_67 hM
      have hM := b_else hM c10
      cases hM
  · have hM := b_if hM c13
    refine lv_iconst (v := (-1 : Int32)) hx hb dX10_inspectorOf_16 (by decide) ?_
    exact e_iret X hG dX10_inspectorOf_17 hM
def M_X10_highest (σ : St) (k : Nat)  : Option (St × Int32) := bcall (M_X7_isWarned σ (k + 5)) fun σ1 r2 => if r2 = 0 then (bcall (M_X9_highestOpen σ1 ((k + 5) + 4)) fun σ3 r4 => some (σ3, r4)) else some (σ1, (-4 : Int32))
set_option maxRecDepth 20000 in
set_option maxHeartbeats 4000000 in
theorem C_X10_highest (l : Launch) (E : Ev) {σ σ' : St} {k : Nat} {r : Int32} (h : M_X10_highest σ k = some (σ', r)) (hL : lay 10 k) : Mi l E yX10_highest cX10_highest 1 (some .int) 5 [.ref (E.1 k)] σ σ' r := by
  refine Mi_of (C := RX10) rfl (by decide) (Nat.le_of_ble_eq_true rfl) (z := (σ', r)) (fun p e s m below meth c ls X hG hl => ?_)
  have hx := X.1.1.1
  have hb := X.1.1.2.1
  have hM := h
  unfold M_X10_highest at hM
  generalize (σ', r) = z at hM ⊢
  have hl : lv_has ls 1 [(0, .ref (E.1 k))] := hl
  refine lv_aload_n hx hb dX10_highest_0 rfl (lv_at hl 0 rfl) ?_
  refine gt_10_1 X.1 hG hL mw300 dX10_highest_1 ?_
  refine g_callV_i (nA := 0) (o := M_X7_isWarned σ (k + 5)) (As := []) X.1 hG (lf_10_1 hL) rfl rfl (fun _ _ h => C_X7_isWarned l E h (lf_10_1 hL)) mw1107 mw469 mw470 mw15 (gw_ok mw471 rfl) (by decide +kernel) rfl ⟨Nat.le_of_ble_eq_true rfl, Nat.le_of_ble_eq_true rfl⟩ hl.1 rfl (Nat.le_of_ble_eq_true rfl) ⟨Nat.le_refl _, Nat.le_refl _⟩ dX10_highest_4 hM (fun σ1 r2 H locs hG hM => ?_)
  refine lv_if_eq (tgt := 15) hx hb dX10_highest_7 (by decide) (fun c5 => ?_) (fun c5 => ?_)
  · have hM := b_if hM c5
    refine lv_aload_n hx hb dX10_highest_15 rfl (lv_at hl 0 rfl) ?_
    refine gt_10_1 X.1 hG hL mw300 dX10_highest_16 ?_
    refine gtN_7_1 X.1 hG (lf_10_1 hL) mw167 dX10_highest_19 ?_
    refine g_callV_i (nA := 0) (o := M_X9_highestOpen σ1 ((k + 5) + 4)) (As := []) X.1 hG (lf_7_1 (lf_10_1 hL)) rfl rfl (fun _ _ h => C_X9_highestOpen l E h (lf_7_1 (lf_10_1 hL))) mw1108 mw1109 mw1110 mw17 (gw_ok mw1111 rfl) (by decide +kernel) rfl ⟨Nat.le_of_ble_eq_true rfl, Nat.le_of_ble_eq_true rfl⟩ hl.1 rfl (Nat.le_of_ble_eq_true rfl) ⟨Nat.le_refl _, Nat.le_refl _⟩ dX10_highest_22 hM (fun σ3 r4 H locs hG hM => ?_)
    exact e_iret X hG dX10_highest_25 hM
  · have hM := b_else hM c5
    refine lv_bipush (v := (-4 : Int32)) hx hb dX10_highest_10 (by decide) ?_
    refine lv_goto (tgt := 25) hx hb dX10_highest_12 (by decide) ?_
    exact e_iret X hG dX10_highest_25 hM
def M_X10_wouldFall (σ : St) (k : Nat) (p0 : Int32) : Option (St × Int32) := bcall (M_X10_isWithin σ p0 (8 : Int32) (10 : Int32)) fun σ1 r2 => if r2 = 0 then some (σ1, (-2 : Int32)) else (bcall (M_X9_lowestWeakerThan σ1 ((k + 5) + 4) p0) fun σ3 r4 => some (σ3, r4))
set_option maxRecDepth 20000 in
set_option maxHeartbeats 4000000 in
theorem C_X10_wouldFall (l : Launch) (E : Ev) {σ σ' : St} {k : Nat} {p0 : Int32} {r : Int32} (h : M_X10_wouldFall σ k p0 = some (σ', r)) (hL : lay 10 k) : Mi l E yX10_wouldFall cX10_wouldFall 2 (some .int) 4 [.ref (E.1 k), .int p0] σ σ' r := by
  refine Mi_of (C := RX10) rfl (by decide) (Nat.le_of_ble_eq_true rfl) (z := (σ', r)) (fun p e s m below meth c ls X hG hl => ?_)
  have hx := X.1.1.1
  have hb := X.1.1.2.1
  have hM := h
  unfold M_X10_wouldFall at hM
  generalize (σ', r) = z at hM ⊢
  have hl : lv_has ls 2 [(0, .ref (E.1 k)), (1, .int p0)] := hl
  refine lv_iload_n hx hb dX10_wouldFall_0 rfl (lv_at hl 1 rfl) ?_
  refine lv_bipush (v := (8 : Int32)) hx hb dX10_wouldFall_1 (by decide) ?_
  refine lv_bipush (v := (10 : Int32)) hx hb dX10_wouldFall_3 (by decide) ?_
  refine g_callS_i (nA := 3) (o := M_X10_isWithin σ p0 (8 : Int32) (10 : Int32)) (As := [.int p0, .int (8 : Int32), .int (10 : Int32)]) X.1 hG (fun _ _ h => C_X10_isWithin l E h ) mw368 mw369 mw12 (gw_ok mw370 rfl) (by decide +kernel) rfl ⟨Nat.le_of_ble_eq_true rfl, Nat.le_of_ble_eq_true rfl⟩ hl.1 rfl (Nat.le_of_ble_eq_true rfl) ⟨Nat.le_refl _, Nat.le_refl _⟩ dX10_wouldFall_5 hM (fun σ1 r2 H locs hG hM => ?_)
  refine lv_if_ne (tgt := 14) hx hb dX10_wouldFall_8 (by decide) (fun c5 => ?_) (fun c5 => ?_)
  · have hM := b_else hM c5
    refine lv_aload_n hx hb dX10_wouldFall_14 rfl (lv_at hl 0 rfl) ?_
    refine gt_10_1 X.1 hG hL mw300 dX10_wouldFall_15 ?_
    refine gtN_7_1 X.1 hG (lf_10_1 hL) mw167 dX10_wouldFall_18 ?_
    refine lv_iload_n hx hb dX10_wouldFall_21 rfl (lv_at hl 1 rfl) ?_
    refine g_callV_i (nA := 1) (o := M_X9_lowestWeakerThan σ1 ((k + 5) + 4) p0) (As := [.int p0]) X.1 hG (lf_7_1 (lf_10_1 hL)) rfl rfl (fun _ _ h => C_X9_lowestWeakerThan l E h (lf_7_1 (lf_10_1 hL))) mw943 mw712 mw713 mw17 (gw_ok mw714 rfl) (by decide +kernel) rfl ⟨Nat.le_of_ble_eq_true rfl, Nat.le_of_ble_eq_true rfl⟩ hl.1 rfl (Nat.le_of_ble_eq_true rfl) ⟨Nat.le_refl _, Nat.le_refl _⟩ dX10_wouldFall_22 hM (fun σ3 r4 H locs hG hM => ?_)
    exact e_iret X hG dX10_wouldFall_25 hM
  · have hM := b_if hM c5
    refine lv_bipush (v := (-2 : Int32)) hx hb dX10_wouldFall_11 (by decide) ?_
    exact e_iret X hG dX10_wouldFall_13 hM
def M_X10_work (σ : St) (k : Nat) (p0 : Int32) : Option (St × Int32) := if p0 = 0 then (bcall (M_X9_allHours σ ((k + 5) + 4)) fun σ1 r2 => some (σ1, r2)) else some (σ, ((σ (k + 5) 9) - (σ (k + 5) 10)) - (σ (k + 5) 11))
set_option maxRecDepth 20000 in
set_option maxHeartbeats 4000000 in
theorem C_X10_work (l : Launch) (E : Ev) {σ σ' : St} {k : Nat} {p0 : Int32} {r : Int32} (h : M_X10_work σ k p0 = some (σ', r)) (hL : lay 10 k) : Mi l E yX10_work cX10_work 2 (some .int) 4 [.ref (E.1 k), .int p0] σ σ' r := by
  refine Mi_of (C := RX10) rfl (by decide) (Nat.le_of_ble_eq_true rfl) (z := (σ', r)) (fun p e s m below meth c ls X hG hl => ?_)
  have hx := X.1.1.1
  have hb := X.1.1.2.1
  have hM := h
  unfold M_X10_work at hM
  generalize (σ', r) = z at hM ⊢
  have hl : lv_has ls 2 [(0, .ref (E.1 k)), (1, .int p0)] := hl
  refine lv_iload_n hx hb dX10_work_0 rfl (lv_at hl 1 rfl) ?_
  refine lv_if_eq (tgt := 30) hx hb dX10_work_1 (by decide) (fun c3 => ?_) (fun c3 => ?_)
  · have hM := b_if hM c3
    refine lv_aload_n hx hb dX10_work_30 rfl (lv_at hl 0 rfl) ?_
    refine gt_10_1 X.1 hG hL mw300 dX10_work_31 ?_
    refine gtN_7_1 X.1 hG (lf_10_1 hL) mw167 dX10_work_34 ?_
    refine g_callV_i (nA := 0) (o := M_X9_allHours σ ((k + 5) + 4)) (As := []) X.1 hG (lf_7_1 (lf_10_1 hL)) rfl rfl (fun _ _ h => C_X9_allHours l E h (lf_7_1 (lf_10_1 hL))) mw948 mw949 mw950 mw17 (gw_ok mw951 rfl) (by decide +kernel) rfl ⟨Nat.le_of_ble_eq_true rfl, Nat.le_of_ble_eq_true rfl⟩ hl.1 rfl (Nat.le_of_ble_eq_true rfl) ⟨Nat.le_refl _, Nat.le_refl _⟩ dX10_work_37 hM (fun σ1 r2 H locs hG hM => ?_)
    exact e_iret X hG dX10_work_40 hM
  · have hM := b_else hM c3
    refine lv_aload_n hx hb dX10_work_4 rfl (lv_at hl 0 rfl) ?_
    refine gt_10_1 X.1 hG hL mw300 dX10_work_5 ?_
    refine gtN_7_9 X.1 hG (lf_10_1 hL) mw190 dX10_work_8 ?_
    refine lv_aload_n hx hb dX10_work_11 rfl (lv_at hl 0 rfl) ?_
    refine gt_10_1 X.1 hG hL mw300 dX10_work_12 ?_
    refine gtN_7_10 X.1 hG (lf_10_1 hL) mw192 dX10_work_15 ?_
    refine lv_isub hx hb dX10_work_18 ?_
    refine lv_aload_n hx hb dX10_work_19 rfl (lv_at hl 0 rfl) ?_
    refine gt_10_1 X.1 hG hL mw300 dX10_work_20 ?_
    refine gtN_7_11 X.1 hG (lf_10_1 hL) mw194 dX10_work_23 ?_
    refine lv_isub hx hb dX10_work_26 ?_
    refine lv_goto (tgt := 40) hx hb dX10_work_27 (by decide) ?_
    exact e_iret X hG dX10_work_40 hM
def M_X10_meanStrength (σ : St) (k : Nat)  : Option (St × UInt32) := blet (σ ((k + 5) + 4) 6) fun v1 => if v1 = 0 then some (σ, FP.fconst0) else (bcall (M_X9_allStrength σ ((k + 5) + 4)) fun σ2 r3 => some (σ2, FP.fdiv (FP.i2f r3) (FP.i2f v1)))
set_option maxRecDepth 20000 in
set_option maxHeartbeats 4000000 in
theorem C_X10_meanStrength (l : Launch) (E : Ev) {σ σ' : St} {k : Nat} {r : UInt32} (h : M_X10_meanStrength σ k = some (σ', r)) (hL : lay 10 k) : Mf l E yX10_meanStrength cX10_meanStrength 2 4 [.ref (E.1 k)] σ σ' r := by
  refine Mf_of (C := RX10) rfl (by decide) (Nat.le_of_ble_eq_true rfl) (z := (σ', r)) (fun p e s m below meth c ls X hG hl => ?_)
  have hx := X.1.1.1
  have hb := X.1.1.2.1
  have hM := h
  unfold M_X10_meanStrength at hM
  generalize (σ', r) = z at hM ⊢
  have hl : lv_has ls 2 [(0, .ref (E.1 k))] := hl
  refine lv_aload_n hx hb dX10_meanStrength_0 rfl (lv_at hl 0 rfl) ?_
  refine gt_10_1 X.1 hG hL mw300 dX10_meanStrength_1 ?_
  refine gtN_7_1 X.1 hG (lf_10_1 hL) mw167 dX10_meanStrength_4 ?_
  refine gtN_9_6 X.1 hG (lf_7_1 (lf_10_1 hL)) mw106 dX10_meanStrength_7 ?_
  refine g_name hM (fun v1 hM => ?_)
  refine lv_istore_n (lv' := [(1, .int v1), (0, .ref (E.1 k))]) hx hb dX10_meanStrength_10 rfl hl (by decide) rfl (fun ls hl => ?_)
  refine lv_iload_n hx hb dX10_meanStrength_11 rfl (lv_at hl 0 rfl) ?_
  refine lv_if_ne (tgt := 19) hx hb dX10_meanStrength_12 (by decide) (fun c4 => ?_) (fun c4 => ?_)
  · have hM := b_else hM c4
    refine lv_aload_n hx hb dX10_meanStrength_19 rfl (lv_at hl 1 rfl) ?_
    refine gt_10_1 X.1 hG hL mw300 dX10_meanStrength_20 ?_
    refine gtN_7_1 X.1 hG (lf_10_1 hL) mw167 dX10_meanStrength_23 ?_
    refine g_callV_i (nA := 0) (o := M_X9_allStrength σ ((k + 5) + 4)) (As := []) X.1 hG (lf_7_1 (lf_10_1 hL)) rfl rfl (fun _ _ h => C_X9_allStrength l E h (lf_7_1 (lf_10_1 hL))) mw1072 mw1073 mw1074 mw17 (gw_ok mw1075 rfl) (by decide +kernel) rfl ⟨Nat.le_of_ble_eq_true rfl, Nat.le_of_ble_eq_true rfl⟩ hl.1 rfl (Nat.le_of_ble_eq_true rfl) ⟨Nat.le_refl _, Nat.le_refl _⟩ dX10_meanStrength_26 hM (fun σ2 r3 H locs hG hM => ?_)
    refine lv_i2f hx hb dX10_meanStrength_29 ?_
    refine lv_iload_n hx hb dX10_meanStrength_30 rfl (lv_at hl 0 rfl) ?_
    refine lv_i2f hx hb dX10_meanStrength_31 ?_
    exact e_fdiv X hG dX10_meanStrength_32 dX10_meanStrength_33 hM
  · have hM := b_if hM c4
    refine lv_fconst0 hx hb dX10_meanStrength_15 ?_
    refine lv_goto (tgt := 33) hx hb dX10_meanStrength_16 (by decide) ?_
    exact e_fret X hG dX10_meanStrength_33 hM
def M_X10_account (σ : St) (k : Nat) (p0 : Int32) : Option (St × Int32) := if p0.toInt < 0 ∨ 18 < p0.toInt then some (σ, (-2 : Int32)) else if p0.toInt = 0 then some (σ, σ (k + 5) 4) else if p0.toInt = 1 then some (σ, σ (k + 5) 5) else if p0.toInt = 2 then some (σ, σ ((k + 5) + 1) 2) else if p0.toInt = 3 then (bcall (M_X0_allPoles σ ((k + 5) + 1)) fun σ6 r7 => some (σ6, r7)) else if p0.toInt = 4 then some (σ, σ ((k + 5) + 4) 6) else if p0.toInt = 5 then (bcall (M_X9_howManyShut σ ((k + 5) + 4)) fun σ10 r11 => some (σ10, r11)) else if p0.toInt = 6 then (bcall (M_X9_howManyOld σ ((k + 5) + 4)) fun σ13 r14 => some (σ13, r14)) else if p0.toInt = 7 then some (σ, σ ((k + 5) + 11) 3) else if p0.toInt = 8 then (bcall (M_X1_howManyUp σ ((k + 5) + 11)) fun σ17 r18 => some (σ17, r18)) else if p0.toInt = 9 then some (σ, σ (k + 5) 6) else if p0.toInt = 10 then some (σ, σ (k + 5) 7) else if p0.toInt = 11 then (bcall (M_X9_allLoads σ ((k + 5) + 4)) fun σ22 r23 => some (σ22, r23)) else if p0.toInt = 12 then some (σ, σ ((k + 5) + 15) 2) else if p0.toInt = 13 then some (σ, σ (k + 5) 8) else if p0.toInt = 14 then some (σ, σ (k + 5) 10) else if p0.toInt = 15 then some (σ, σ (k + 5) 12) else if p0.toInt = 16 then some (σ, σ (k + 5) 13) else if p0.toInt = 17 then some (σ, σ (k + 241) 1) else if p0.toInt = 18 then some (σ, σ (k + 59) 3) else none
set_option maxRecDepth 20000 in
set_option maxHeartbeats 4000000 in
theorem C_X10_account (l : Launch) (E : Ev) {σ σ' : St} {k : Nat} {p0 : Int32} {r : Int32} (h : M_X10_account σ k p0 = some (σ', r)) (hL : lay 10 k) : Mi l E yX10_account cX10_account 2 (some .int) 5 [.ref (E.1 k), .int p0] σ σ' r := by
  refine Mi_of (C := RX10) rfl (by decide) (Nat.le_of_ble_eq_true rfl) (z := (σ', r)) (fun p e s m below meth c ls X hG hl => ?_)
  have hx := X.1.1.1
  have hb := X.1.1.2.1
  have hM := h
  unfold M_X10_account at hM
  generalize (σ', r) = z at hM ⊢
  have hl : lv_has ls 2 [(0, .ref (E.1 k)), (1, .int p0)] := hl
  refine lv_iload_n hx hb dX10_account_0 rfl (lv_at hl 1 rfl) ?_
  by_cases c1 : p0.toInt < 0 ∨ 18 < p0.toInt
  · have hM := b_if hM c1
    refine lv_tableOut (tgt := 271) hx hb dX10_account_1 c1 (by decide) ?_
    refine lv_bipush (v := (-2 : Int32)) hx hb dX10_account_271 (by decide) ?_
    exact e_iret X hG dX10_account_273 hM
  · have hM := b_else hM c1
    by_cases c2 : p0.toInt = 0
    · have hM := b_if hM c2
      refine lv_tableIn (tgt := 92) hx hb dX10_account_1 (fun h => c1 (Or.inl h)) (fun h => c1 (Or.inr h)) (by rw [c2]; rfl) (by decide) ?_
      refine lv_aload_n hx hb dX10_account_92 rfl (lv_at hl 0 rfl) ?_
      refine gt_10_1 X.1 hG hL mw300 dX10_account_93 ?_
      refine gtN_7_4 X.1 hG (lf_10_1 hL) mw175 dX10_account_96 ?_
      exact e_iret X hG dX10_account_99 hM
    have hM := b_else hM c2
    by_cases c3 : p0.toInt = 1
    · have hM := b_if hM c3
      refine lv_tableIn (tgt := 100) hx hb dX10_account_1 (fun h => c1 (Or.inl h)) (fun h => c1 (Or.inr h)) (by rw [c3]; rfl) (by decide) ?_
      refine lv_aload_n hx hb dX10_account_100 rfl (lv_at hl 0 rfl) ?_
      refine gt_10_1 X.1 hG hL mw300 dX10_account_101 ?_
      refine gtN_7_5 X.1 hG (lf_10_1 hL) mw178 dX10_account_104 ?_
      exact e_iret X hG dX10_account_107 hM
    have hM := b_else hM c3
    by_cases c4 : p0.toInt = 2
    · have hM := b_if hM c4
      refine lv_tableIn (tgt := 108) hx hb dX10_account_1 (fun h => c1 (Or.inl h)) (fun h => c1 (Or.inr h)) (by rw [c4]; rfl) (by decide) ?_
      refine lv_aload_n hx hb dX10_account_108 rfl (lv_at hl 0 rfl) ?_
      refine gt_10_1 X.1 hG hL mw300 dX10_account_109 ?_
      refine gtN_7_0 X.1 hG (lf_10_1 hL) mw164 dX10_account_112 ?_
      refine gtN_0_2 X.1 hG (lf_7_0 (lf_10_1 hL)) mw83 dX10_account_115 ?_
      exact e_iret X hG dX10_account_118 hM
    have hM := b_else hM c4
    by_cases c5 : p0.toInt = 3
    · have hM := b_if hM c5
      refine lv_tableIn (tgt := 119) hx hb dX10_account_1 (fun h => c1 (Or.inl h)) (fun h => c1 (Or.inr h)) (by rw [c5]; rfl) (by decide) ?_
      refine lv_aload_n hx hb dX10_account_119 rfl (lv_at hl 0 rfl) ?_
      refine gt_10_1 X.1 hG hL mw300 dX10_account_120 ?_
      refine gtN_7_0 X.1 hG (lf_10_1 hL) mw164 dX10_account_123 ?_
      refine g_callV_i (nA := 0) (o := M_X0_allPoles σ ((k + 5) + 1)) (As := []) X.1 hG (lf_7_0 (lf_10_1 hL)) rfl rfl (fun _ _ h => C_X0_allPoles l E h (lf_7_0 (lf_10_1 hL))) mw963 mw964 mw965 mw16 (gw_ok mw966 rfl) (by decide +kernel) rfl ⟨Nat.le_of_ble_eq_true rfl, Nat.le_of_ble_eq_true rfl⟩ hl.1 rfl (Nat.le_of_ble_eq_true rfl) ⟨Nat.le_refl _, Nat.le_refl _⟩ dX10_account_126 hM (fun σ6 r7 H locs hG hM => ?_)
      exact e_iret X hG dX10_account_129 hM
    have hM := b_else hM c5
    by_cases c8 : p0.toInt = 4
    · have hM := b_if hM c8
      refine lv_tableIn (tgt := 130) hx hb dX10_account_1 (fun h => c1 (Or.inl h)) (fun h => c1 (Or.inr h)) (by rw [c8]; rfl) (by decide) ?_
      refine lv_aload_n hx hb dX10_account_130 rfl (lv_at hl 0 rfl) ?_
      refine gt_10_1 X.1 hG hL mw300 dX10_account_131 ?_
      refine gtN_7_1 X.1 hG (lf_10_1 hL) mw167 dX10_account_134 ?_
      refine gtN_9_6 X.1 hG (lf_7_1 (lf_10_1 hL)) mw106 dX10_account_137 ?_
      exact e_iret X hG dX10_account_140 hM
    have hM := b_else hM c8
    by_cases c9 : p0.toInt = 5
    · have hM := b_if hM c9
      refine lv_tableIn (tgt := 141) hx hb dX10_account_1 (fun h => c1 (Or.inl h)) (fun h => c1 (Or.inr h)) (by rw [c9]; rfl) (by decide) ?_
      refine lv_aload_n hx hb dX10_account_141 rfl (lv_at hl 0 rfl) ?_
      refine gt_10_1 X.1 hG hL mw300 dX10_account_142 ?_
      refine gtN_7_1 X.1 hG (lf_10_1 hL) mw167 dX10_account_145 ?_
      refine g_callV_i (nA := 0) (o := M_X9_howManyShut σ ((k + 5) + 4)) (As := []) X.1 hG (lf_7_1 (lf_10_1 hL)) rfl rfl (fun _ _ h => C_X9_howManyShut l E h (lf_7_1 (lf_10_1 hL))) mw968 mw969 mw970 mw17 (gw_ok mw971 rfl) (by decide +kernel) rfl ⟨Nat.le_of_ble_eq_true rfl, Nat.le_of_ble_eq_true rfl⟩ hl.1 rfl (Nat.le_of_ble_eq_true rfl) ⟨Nat.le_refl _, Nat.le_refl _⟩ dX10_account_148 hM (fun σ10 r11 H locs hG hM => ?_)
      exact e_iret X hG dX10_account_151 hM
    have hM := b_else hM c9
    by_cases c12 : p0.toInt = 6
    · have hM := b_if hM c12
      refine lv_tableIn (tgt := 152) hx hb dX10_account_1 (fun h => c1 (Or.inl h)) (fun h => c1 (Or.inr h)) (by rw [c12]; rfl) (by decide) ?_
      refine lv_aload_n hx hb dX10_account_152 rfl (lv_at hl 0 rfl) ?_
      refine gt_10_1 X.1 hG hL mw300 dX10_account_153 ?_
      refine gtN_7_1 X.1 hG (lf_10_1 hL) mw167 dX10_account_156 ?_
      refine g_callV_i (nA := 0) (o := M_X9_howManyOld σ ((k + 5) + 4)) (As := []) X.1 hG (lf_7_1 (lf_10_1 hL)) rfl rfl (fun _ _ h => C_X9_howManyOld l E h (lf_7_1 (lf_10_1 hL))) mw973 mw974 mw975 mw17 (gw_ok mw976 rfl) (by decide +kernel) rfl ⟨Nat.le_of_ble_eq_true rfl, Nat.le_of_ble_eq_true rfl⟩ hl.1 rfl (Nat.le_of_ble_eq_true rfl) ⟨Nat.le_refl _, Nat.le_refl _⟩ dX10_account_159 hM (fun σ13 r14 H locs hG hM => ?_)
      exact e_iret X hG dX10_account_162 hM
    have hM := b_else hM c12
    by_cases c15 : p0.toInt = 7
    · have hM := b_if hM c15
      refine lv_tableIn (tgt := 163) hx hb dX10_account_1 (fun h => c1 (Or.inl h)) (fun h => c1 (Or.inr h)) (by rw [c15]; rfl) (by decide) ?_
      refine lv_aload_n hx hb dX10_account_163 rfl (lv_at hl 0 rfl) ?_
      refine gt_10_1 X.1 hG hL mw300 dX10_account_164 ?_
      refine gtN_7_2 X.1 hG (lf_10_1 hL) mw170 dX10_account_167 ?_
      refine gtN_1_3 X.1 hG (lf_7_2 (lf_10_1 hL)) mw134 dX10_account_170 ?_
      exact e_iret X hG dX10_account_173 hM
    have hM := b_else hM c15
    by_cases c16 : p0.toInt = 8
    · have hM := b_if hM c16
      refine lv_tableIn (tgt := 174) hx hb dX10_account_1 (fun h => c1 (Or.inl h)) (fun h => c1 (Or.inr h)) (by rw [c16]; rfl) (by decide) ?_
      refine lv_aload_n hx hb dX10_account_174 rfl (lv_at hl 0 rfl) ?_
      refine gt_10_1 X.1 hG hL mw300 dX10_account_175 ?_
      refine gtN_7_2 X.1 hG (lf_10_1 hL) mw170 dX10_account_178 ?_
      refine g_callV_i (nA := 0) (o := M_X1_howManyUp σ ((k + 5) + 11)) (As := []) X.1 hG (lf_7_2 (lf_10_1 hL)) rfl rfl (fun _ _ h => C_X1_howManyUp l E h (lf_7_2 (lf_10_1 hL))) mw981 mw982 mw983 mw18 (gw_ok mw984 rfl) (by decide +kernel) rfl ⟨Nat.le_of_ble_eq_true rfl, Nat.le_of_ble_eq_true rfl⟩ hl.1 rfl (Nat.le_of_ble_eq_true rfl) ⟨Nat.le_refl _, Nat.le_refl _⟩ dX10_account_181 hM (fun σ17 r18 H locs hG hM => ?_)
      exact e_iret X hG dX10_account_184 hM
    have hM := b_else hM c16
    by_cases c19 : p0.toInt = 9
    · have hM := b_if hM c19
      refine lv_tableIn (tgt := 185) hx hb dX10_account_1 (fun h => c1 (Or.inl h)) (fun h => c1 (Or.inr h)) (by rw [c19]; rfl) (by decide) ?_
      refine lv_aload_n hx hb dX10_account_185 rfl (lv_at hl 0 rfl) ?_
      refine gt_10_1 X.1 hG hL mw300 dX10_account_186 ?_
      refine gtN_7_6 X.1 hG (lf_10_1 hL) mw181 dX10_account_189 ?_
      exact e_iret X hG dX10_account_192 hM
    have hM := b_else hM c19
    by_cases c20 : p0.toInt = 10
    · have hM := b_if hM c20
      refine lv_tableIn (tgt := 193) hx hb dX10_account_1 (fun h => c1 (Or.inl h)) (fun h => c1 (Or.inr h)) (by rw [c20]; rfl) (by decide) ?_
      refine lv_aload_n hx hb dX10_account_193 rfl (lv_at hl 0 rfl) ?_
      refine gt_10_1 X.1 hG hL mw300 dX10_account_194 ?_
      refine gtN_7_7 X.1 hG (lf_10_1 hL) mw184 dX10_account_197 ?_
      exact e_iret X hG dX10_account_200 hM
    have hM := b_else hM c20
    by_cases c21 : p0.toInt = 11
    · have hM := b_if hM c21
      refine lv_tableIn (tgt := 201) hx hb dX10_account_1 (fun h => c1 (Or.inl h)) (fun h => c1 (Or.inr h)) (by rw [c21]; rfl) (by decide) ?_
      refine lv_aload_n hx hb dX10_account_201 rfl (lv_at hl 0 rfl) ?_
      refine gt_10_1 X.1 hG hL mw300 dX10_account_202 ?_
      refine gtN_7_1 X.1 hG (lf_10_1 hL) mw167 dX10_account_205 ?_
      refine g_callV_i (nA := 0) (o := M_X9_allLoads σ ((k + 5) + 4)) (As := []) X.1 hG (lf_7_1 (lf_10_1 hL)) rfl rfl (fun _ _ h => C_X9_allLoads l E h (lf_7_1 (lf_10_1 hL))) mw986 mw987 mw988 mw17 (gw_ok mw989 rfl) (by decide +kernel) rfl ⟨Nat.le_of_ble_eq_true rfl, Nat.le_of_ble_eq_true rfl⟩ hl.1 rfl (Nat.le_of_ble_eq_true rfl) ⟨Nat.le_refl _, Nat.le_refl _⟩ dX10_account_208 hM (fun σ22 r23 H locs hG hM => ?_)
      exact e_iret X hG dX10_account_211 hM
    have hM := b_else hM c21
    by_cases c24 : p0.toInt = 12
    · have hM := b_if hM c24
      refine lv_tableIn (tgt := 212) hx hb dX10_account_1 (fun h => c1 (Or.inl h)) (fun h => c1 (Or.inr h)) (by rw [c24]; rfl) (by decide) ?_
      refine lv_aload_n hx hb dX10_account_212 rfl (lv_at hl 0 rfl) ?_
      refine gt_10_1 X.1 hG hL mw300 dX10_account_213 ?_
      refine gtN_7_3 X.1 hG (lf_10_1 hL) mw173 dX10_account_216 ?_
      refine gtN_3_2 X.1 hG (lf_7_3 (lf_10_1 hL)) mw154 dX10_account_219 ?_
      exact e_iret X hG dX10_account_222 hM
    have hM := b_else hM c24
    by_cases c25 : p0.toInt = 13
    · have hM := b_if hM c25
      refine lv_tableIn (tgt := 223) hx hb dX10_account_1 (fun h => c1 (Or.inl h)) (fun h => c1 (Or.inr h)) (by rw [c25]; rfl) (by decide) ?_
      refine lv_aload_n hx hb dX10_account_223 rfl (lv_at hl 0 rfl) ?_
      refine gt_10_1 X.1 hG hL mw300 dX10_account_224 ?_
      refine gtN_7_8 X.1 hG (lf_10_1 hL) mw187 dX10_account_227 ?_
      exact e_iret X hG dX10_account_230 hM
    have hM := b_else hM c25
    by_cases c26 : p0.toInt = 14
    · have hM := b_if hM c26
      refine lv_tableIn (tgt := 231) hx hb dX10_account_1 (fun h => c1 (Or.inl h)) (fun h => c1 (Or.inr h)) (by rw [c26]; rfl) (by decide) ?_
      refine lv_aload_n hx hb dX10_account_231 rfl (lv_at hl 0 rfl) ?_
      refine gt_10_1 X.1 hG hL mw300 dX10_account_232 ?_
      refine gtN_7_10 X.1 hG (lf_10_1 hL) mw192 dX10_account_235 ?_
      exact e_iret X hG dX10_account_238 hM
    have hM := b_else hM c26
    by_cases c27 : p0.toInt = 15
    · have hM := b_if hM c27
      refine lv_tableIn (tgt := 239) hx hb dX10_account_1 (fun h => c1 (Or.inl h)) (fun h => c1 (Or.inr h)) (by rw [c27]; rfl) (by decide) ?_
      refine lv_aload_n hx hb dX10_account_239 rfl (lv_at hl 0 rfl) ?_
      refine gt_10_1 X.1 hG hL mw300 dX10_account_240 ?_
      refine gtN_7_12 X.1 hG (lf_10_1 hL) mw197 dX10_account_243 ?_
      exact e_iret X hG dX10_account_246 hM
    have hM := b_else hM c27
    by_cases c28 : p0.toInt = 16
    · have hM := b_if hM c28
      refine lv_tableIn (tgt := 247) hx hb dX10_account_1 (fun h => c1 (Or.inl h)) (fun h => c1 (Or.inr h)) (by rw [c28]; rfl) (by decide) ?_
      refine lv_aload_n hx hb dX10_account_247 rfl (lv_at hl 0 rfl) ?_
      refine gt_10_1 X.1 hG hL mw300 dX10_account_248 ?_
      refine gtN_7_13 X.1 hG (lf_10_1 hL) mw199 dX10_account_251 ?_
      exact e_iret X hG dX10_account_254 hM
    have hM := b_else hM c28
    by_cases c29 : p0.toInt = 17
    · have hM := b_if hM c29
      refine lv_tableIn (tgt := 255) hx hb dX10_account_1 (fun h => c1 (Or.inl h)) (fun h => c1 (Or.inr h)) (by rw [c29]; rfl) (by decide) ?_
      refine lv_aload_n hx hb dX10_account_255 rfl (lv_at hl 0 rfl) ?_
      refine gt_10_5 X.1 hG hL mw304 dX10_account_256 ?_
      refine gtN_4_1 X.1 hG (lf_10_5 hL) mw272 dX10_account_259 ?_
      exact e_iret X hG dX10_account_262 hM
    have hM := b_else hM c29
    by_cases c30 : p0.toInt = 18
    · have hM := b_if hM c30
      refine lv_tableIn (tgt := 263) hx hb dX10_account_1 (fun h => c1 (Or.inl h)) (fun h => c1 (Or.inr h)) (by rw [c30]; rfl) (by decide) ?_
      refine lv_aload_n hx hb dX10_account_263 rfl (lv_at hl 0 rfl) ?_
      refine gt_10_4 X.1 hG hL mw303 dX10_account_264 ?_
      refine gtN_2_3 X.1 hG (lf_10_4 hL) mw253 dX10_account_267 ?_
      exact e_iret X hG dX10_account_270 hM
    have hM := b_else hM c30
    cases hM
def B_X10_writeStorey_90  : Nat → St → Nat → Int32 → Int32 → Int32 → Option (St × Int32)
  | 0, _, _, _, _, _ => none
  | n + 1, σ, k, x1, x3, x4 => if x3 ≤ x4 then (bcall (M_X9_hoursOf σ ((k + 5) + 4) x1) fun σ19 r20 => if r20 ≤ 0 then some (σ19, 0) else (bcall (M_X4_put σ19 (k + 243) (119 : Int32)) fun σ21 r22 => bcall (M_X9_hoursOf σ21 ((k + 5) + 4) x1) fun σ23 r24 => bcall (M_X4_putNumber σ23 (k + 243) r24) fun σ25 r26 => some (σ25, 0))) else (bcall (M_X4_put σ (k + 243) (42 : Int32)) fun σ28 r29 => blet (x4 + (1 : Int32)) fun v30 => B_X10_writeStorey_90 n σ28 k x1 x3 v30)
def B_X10_writeStorey_75 (σ : St) (k : Nat) (x1 : Int32) : Option (St × Int32) := bcall (M_X1_howManyOn σ ((k + 5) + 11) x1) fun σ17 r18 => B_X10_writeStorey_90 FU σ17 k x1 r18 (0 : Int32)
def M_X10_writeStorey (σ : St) (k : Nat) (p0 : Int32) : Option (St × Int32) := bcall (M_X4_putNumber σ (k + 243) p0) fun σ1 r2 => bcall (M_X4_put σ1 (k + 243) (58 : Int32)) fun σ3 r4 => bcall (M_X9_polesOf σ3 ((k + 5) + 4) p0) fun σ5 r6 => bcall (M_X4_putNumber σ5 (k + 243) r6) fun σ7 r8 => bcall (M_X4_put σ7 (k + 243) (112 : Int32)) fun σ9 r10 => bcall (M_X9_tieOf σ9 ((k + 5) + 4) p0) fun σ11 r12 => bcall (M_X4_putNumber σ11 (k + 243) r12) fun σ13 r14 => bcall (M_X9_isShut σ13 ((k + 5) + 4) p0) fun σ15 r16 => if r16 = 0 then (B_X10_writeStorey_75 σ15 k p0) else (bcall (M_X4_put σ15 (k + 243) (35 : Int32)) fun σ32 r33 => B_X10_writeStorey_75 σ32 k p0)
set_option maxRecDepth 20000 in
set_option maxHeartbeats 4000000 in
theorem w_X10_writeStorey_90 {p : Program} {l : Launch} {e : Env} {s : State} {m : MethodId} {below : List Frame} {meth : Method} {c : Code} {args : Array Value} {E : Ev} {k : Nat} (X : Bx E p m meth c cX10_writeStorey 5 none s args RX10) (hL : lay 10 k) : ∀ (n : Nat) (σ : St) (x1 x3 x4 : Int32) (H : Heap) (locs : List Loc) (ls : Array Slot) (z : St × Int32), GS E σ s.heap H locs → lv_has ls 5 [(0, .ref (E.1 k)), (1, .int x1), (2, .ref (E.1 ((k + 5) + 4))), (3, .int x3), (4, .int x4)] → B_X10_writeStorey_90 n σ k x1 x3 x4 = some z → W p l e (rmd 5) s m args below meth c H locs 0 0 (QV E z below args s) (F0 m 90 ls []) := by
  have hx := X.1.1.1
  have hb := X.1.1.2.1
  intro n
  induction n with
  | zero => intro σ x1 x3 x4 H locs ls z  hG hl hM; cases hM
  | succ n ih =>
    intro σ x1 x3 x4 H locs ls z  hG hl hM
    unfold B_X10_writeStorey_90 at hM
    refine lv_iload hx hb dX10_writeStorey_90 (lv_at hl 4 rfl) ?_
    refine lv_iload_n hx hb dX10_writeStorey_92 rfl (lv_at hl 3 rfl) ?_
    refine lv_icmp_ge (tgt := 111) hx hb dX10_writeStorey_93 (by decide) (fun c31 => ?_) (fun c31 => ?_)
    · have hM := b_if hM c31
      refine lv_aload_n hx hb dX10_writeStorey_111 rfl (lv_at hl 2 rfl) ?_
      refine lv_iload_n hx hb dX10_writeStorey_112 rfl (lv_at hl 1 rfl) ?_
      refine g_callV_i (nA := 1) (o := M_X9_hoursOf σ ((k + 5) + 4) x1) (As := [.int x1]) X.1 hG (lf_7_1 (lf_10_1 hL)) rfl rfl (fun _ _ h => C_X9_hoursOf l E h (lf_7_1 (lf_10_1 hL))) mw876 mw681 mw682 mw17 (gw_ok mw683 rfl) (by decide +kernel) rfl ⟨Nat.le_of_ble_eq_true rfl, Nat.le_of_ble_eq_true rfl⟩ hl.1 rfl (Nat.le_of_ble_eq_true rfl) ⟨Nat.le_refl _, Nat.le_refl _⟩ dX10_writeStorey_113 hM (fun σ19 r20 H locs hG hM => ?_)
      refine lv_if_le (tgt := 140) hx hb dX10_writeStorey_116 (by decide) (fun c27 => ?_) (fun c27 => ?_)
      · have hM := b_if hM c27
        exact e_vret X hG dX10_writeStorey_140 hM
      · have hM := b_else hM c27
        refine lv_aload_n hx hb dX10_writeStorey_119 rfl (lv_at hl 0 rfl) ?_
        refine gt_10_6 X.1 hG hL mw305 dX10_writeStorey_120 ?_
        refine lv_bipush (v := (119 : Int32)) hx hb dX10_writeStorey_123 (by decide) ?_
        refine g_callV_v (nA := 1) (o := M_X4_put σ19 (k + 243) (119 : Int32)) (As := [.int (119 : Int32)]) X.1 hG (lf_10_6 hL) rfl rfl (fun _ _ h => C_X4_put l E h (lf_10_6 hL)) mw371 mw372 mw373 mw21 (gw_ok mw374 rfl) (by decide +kernel) rfl ⟨Nat.le_of_ble_eq_true rfl, Nat.le_of_ble_eq_true rfl⟩ hl.1 rfl (Nat.le_of_ble_eq_true rfl) ⟨Nat.le_refl _, Nat.le_refl _⟩ dX10_writeStorey_125 hM (fun σ21 r22 H locs hG hM => ?_)
        refine lv_aload_n hx hb dX10_writeStorey_128 rfl (lv_at hl 0 rfl) ?_
        refine gt_10_6 X.1 hG hL mw305 dX10_writeStorey_129 ?_
        refine lv_aload_n hx hb dX10_writeStorey_132 rfl (lv_at hl 2 rfl) ?_
        refine lv_iload_n hx hb dX10_writeStorey_133 rfl (lv_at hl 1 rfl) ?_
        refine g_callV_i (nA := 1) (o := M_X9_hoursOf σ21 ((k + 5) + 4) x1) (As := [.int x1]) X.1 hG (lf_7_1 (lf_10_1 hL)) rfl rfl (fun _ _ h => C_X9_hoursOf l E h (lf_7_1 (lf_10_1 hL))) mw876 mw681 mw682 mw17 (gw_ok mw683 rfl) (by decide +kernel) rfl ⟨Nat.le_of_ble_eq_true rfl, Nat.le_of_ble_eq_true rfl⟩ hl.1 rfl (Nat.le_of_ble_eq_true rfl) ⟨Nat.le_refl _, Nat.le_refl _⟩ dX10_writeStorey_134 hM (fun σ23 r24 H locs hG hM => ?_)
        refine g_callV_v (nA := 1) (o := M_X4_putNumber σ23 (k + 243) r24) (As := [.int r24]) X.1 hG (lf_10_6 hL) rfl rfl (fun _ _ h => C_X4_putNumber l E h (lf_10_6 hL)) mw1034 mw1035 mw1036 mw21 (gw_ok mw1037 rfl) (by decide +kernel) rfl ⟨Nat.le_of_ble_eq_true rfl, Nat.le_of_ble_eq_true rfl⟩ hl.1 rfl (Nat.le_of_ble_eq_true rfl) ⟨Nat.le_refl _, Nat.le_refl _⟩ dX10_writeStorey_137 hM (fun σ25 r26 H locs hG hM => ?_)
        exact e_vret X hG dX10_writeStorey_140 hM
    · have hM := b_else hM c31
      refine lv_aload_n hx hb dX10_writeStorey_96 rfl (lv_at hl 0 rfl) ?_
      refine gt_10_6 X.1 hG hL mw305 dX10_writeStorey_97 ?_
      refine lv_bipush (v := (42 : Int32)) hx hb dX10_writeStorey_100 (by decide) ?_
      refine g_callV_v (nA := 1) (o := M_X4_put σ (k + 243) (42 : Int32)) (As := [.int (42 : Int32)]) X.1 hG (lf_10_6 hL) rfl rfl (fun _ _ h => C_X4_put l E h (lf_10_6 hL)) mw371 mw372 mw373 mw21 (gw_ok mw374 rfl) (by decide +kernel) rfl ⟨Nat.le_of_ble_eq_true rfl, Nat.le_of_ble_eq_true rfl⟩ hl.1 rfl (Nat.le_of_ble_eq_true rfl) ⟨Nat.le_refl _, Nat.le_refl _⟩ dX10_writeStorey_102 hM (fun σ28 r29 H locs hG hM => ?_)
      obtain ⟨v30, ev30, hM⟩ := g_nm hM
      refine lv_iinc (v := v30) (lv' := [(4, .int v30), (0, .ref (E.1 k)), (1, .int x1), (2, .ref (E.1 ((k + 5) + 4))), (3, .int x3)]) hx hb dX10_writeStorey_105 hl (k := 4) rfl (by rw [ev30]; rfl) (by decide) rfl (fun ls hl => ?_)
      refine lv_goto (tgt := 90) hx hb dX10_writeStorey_108 (by decide) ?_
      exact ih σ28 x1 x3 v30 _ _ _ z hG (lv_sub hl [1, 2, 3, 4, 0] rfl) hM
set_option maxRecDepth 20000 in
set_option maxHeartbeats 4000000 in
theorem w_X10_writeStorey_75 {p : Program} {l : Launch} {e : Env} {s : State} {m : MethodId} {below : List Frame} {meth : Method} {c : Code} {args : Array Value} {E : Ev} {k : Nat} (X : Bx E p m meth c cX10_writeStorey 5 none s args RX10) (hL : lay 10 k) : ∀ (σ : St) (x1 : Int32) (H : Heap) (locs : List Loc) (ls : Array Slot) (z : St × Int32), GS E σ s.heap H locs → lv_has ls 5 [(0, .ref (E.1 k)), (1, .int x1), (2, .ref (E.1 ((k + 5) + 4)))] → B_X10_writeStorey_75 σ k x1 = some z → W p l e (rmd 5) s m args below meth c H locs 0 0 (QV E z below args s) (F0 m 75 ls []) := by
  have hx := X.1.1.1
  have hb := X.1.1.2.1
  intro σ x1 H locs ls z  hG hl hM
  unfold B_X10_writeStorey_75 at hM
  refine lv_aload_n hx hb dX10_writeStorey_75 rfl (lv_at hl 0 rfl) ?_
  refine gt_10_1 X.1 hG hL mw300 dX10_writeStorey_76 ?_
  refine gtN_7_2 X.1 hG (lf_10_1 hL) mw170 dX10_writeStorey_79 ?_
  refine lv_iload_n hx hb dX10_writeStorey_82 rfl (lv_at hl 1 rfl) ?_
  refine g_callV_i (nA := 1) (o := M_X1_howManyOn σ ((k + 5) + 11) x1) (As := [.int x1]) X.1 hG (lf_7_2 (lf_10_1 hL)) rfl rfl (fun _ _ h => C_X1_howManyOn l E h (lf_7_2 (lf_10_1 hL))) mw1039 mw555 mw556 mw18 (gw_ok mw557 rfl) (by decide +kernel) rfl ⟨Nat.le_of_ble_eq_true rfl, Nat.le_of_ble_eq_true rfl⟩ hl.1 rfl (Nat.le_of_ble_eq_true rfl) ⟨Nat.le_refl _, Nat.le_refl _⟩ dX10_writeStorey_83 hM (fun σ17 r18 H locs hG hM => ?_)
  refine lv_istore_n (lv' := [(3, .int r18), (0, .ref (E.1 k)), (1, .int x1), (2, .ref (E.1 ((k + 5) + 4)))]) hx hb dX10_writeStorey_86 rfl hl (by decide) rfl (fun ls hl => ?_)
  refine lv_iconst (v := (0 : Int32)) hx hb dX10_writeStorey_87 (by decide) ?_
  refine lv_istore (lv' := [(4, .int (0 : Int32)), (3, .int r18), (0, .ref (E.1 k)), (1, .int x1), (2, .ref (E.1 ((k + 5) + 4)))]) hx hb dX10_writeStorey_88 hl (by decide) rfl (fun ls hl => ?_)
  exact w_X10_writeStorey_90 X hL FU σ17 x1 r18 (0 : Int32) _ _ _ z hG (lv_sub hl [2, 3, 4, 1, 0] rfl) hM
set_option maxRecDepth 20000 in
set_option maxHeartbeats 4000000 in
theorem C_X10_writeStorey (l : Launch) (E : Ev) {σ σ' : St} {k : Nat} {p0 : Int32} {r : Int32} (h : M_X10_writeStorey σ k p0 = some (σ', r)) (hL : lay 10 k) : Mv l E yX10_writeStorey cX10_writeStorey 5 5 [.ref (E.1 k), .int p0] σ σ' := by
  refine Mv_of (C := RX10) rfl (by decide) (Nat.le_of_ble_eq_true rfl) (z := (σ', r)) (fun p e s m below meth c ls X hG hl => ?_)
  have hx := X.1.1.1
  have hb := X.1.1.2.1
  have hM := h
  unfold M_X10_writeStorey at hM
  generalize (σ', r) = z at hM ⊢
  have hl : lv_has ls 5 [(0, .ref (E.1 k)), (1, .int p0)] := hl
  refine lv_aload_n hx hb dX10_writeStorey_0 rfl (lv_at hl 0 rfl) ?_
  refine gt_10_1 X.1 hG hL mw300 dX10_writeStorey_1 ?_
  refine gtN_7_1 X.1 hG (lf_10_1 hL) mw167 dX10_writeStorey_4 ?_
  refine lv_astore_n (lv' := [(2, .ref (E.1 ((k + 5) + 4))), (0, .ref (E.1 k)), (1, .int p0)]) hx hb dX10_writeStorey_7 rfl hl (by decide) rfl (fun ls hl => ?_)
  refine lv_aload_n hx hb dX10_writeStorey_8 rfl (lv_at hl 1 rfl) ?_
  refine gt_10_6 X.1 hG hL mw305 dX10_writeStorey_9 ?_
  refine lv_iload_n hx hb dX10_writeStorey_12 rfl (lv_at hl 2 rfl) ?_
  refine g_callV_v (nA := 1) (o := M_X4_putNumber σ (k + 243) p0) (As := [.int p0]) X.1 hG (lf_10_6 hL) rfl rfl (fun _ _ h => C_X4_putNumber l E h (lf_10_6 hL)) mw1034 mw1035 mw1036 mw21 (gw_ok mw1037 rfl) (by decide +kernel) rfl ⟨Nat.le_of_ble_eq_true rfl, Nat.le_of_ble_eq_true rfl⟩ hl.1 rfl (Nat.le_of_ble_eq_true rfl) ⟨Nat.le_refl _, Nat.le_refl _⟩ dX10_writeStorey_13 hM (fun σ1 r2 H locs hG hM => ?_)
  refine lv_aload_n hx hb dX10_writeStorey_16 rfl (lv_at hl 1 rfl) ?_
  refine gt_10_6 X.1 hG hL mw305 dX10_writeStorey_17 ?_
  refine lv_bipush (v := (58 : Int32)) hx hb dX10_writeStorey_20 (by decide) ?_
  refine g_callV_v (nA := 1) (o := M_X4_put σ1 (k + 243) (58 : Int32)) (As := [.int (58 : Int32)]) X.1 hG (lf_10_6 hL) rfl rfl (fun _ _ h => C_X4_put l E h (lf_10_6 hL)) mw371 mw372 mw373 mw21 (gw_ok mw374 rfl) (by decide +kernel) rfl ⟨Nat.le_of_ble_eq_true rfl, Nat.le_of_ble_eq_true rfl⟩ hl.1 rfl (Nat.le_of_ble_eq_true rfl) ⟨Nat.le_refl _, Nat.le_refl _⟩ dX10_writeStorey_22 hM (fun σ3 r4 H locs hG hM => ?_)
  refine lv_aload_n hx hb dX10_writeStorey_25 rfl (lv_at hl 1 rfl) ?_
  refine gt_10_6 X.1 hG hL mw305 dX10_writeStorey_26 ?_
  refine lv_aload_n hx hb dX10_writeStorey_29 rfl (lv_at hl 0 rfl) ?_
  refine lv_iload_n hx hb dX10_writeStorey_30 rfl (lv_at hl 2 rfl) ?_
  refine g_callV_i (nA := 1) (o := M_X9_polesOf σ3 ((k + 5) + 4) p0) (As := [.int p0]) X.1 hG (lf_7_1 (lf_10_1 hL)) rfl rfl (fun _ _ h => C_X9_polesOf l E h (lf_7_1 (lf_10_1 hL))) mw870 mw724 mw725 mw17 (gw_ok mw726 rfl) (by decide +kernel) rfl ⟨Nat.le_of_ble_eq_true rfl, Nat.le_of_ble_eq_true rfl⟩ hl.1 rfl (Nat.le_of_ble_eq_true rfl) ⟨Nat.le_refl _, Nat.le_refl _⟩ dX10_writeStorey_31 hM (fun σ5 r6 H locs hG hM => ?_)
  refine g_callV_v (nA := 1) (o := M_X4_putNumber σ5 (k + 243) r6) (As := [.int r6]) X.1 hG (lf_10_6 hL) rfl rfl (fun _ _ h => C_X4_putNumber l E h (lf_10_6 hL)) mw1034 mw1035 mw1036 mw21 (gw_ok mw1037 rfl) (by decide +kernel) rfl ⟨Nat.le_of_ble_eq_true rfl, Nat.le_of_ble_eq_true rfl⟩ hl.1 rfl (Nat.le_of_ble_eq_true rfl) ⟨Nat.le_refl _, Nat.le_refl _⟩ dX10_writeStorey_34 hM (fun σ7 r8 H locs hG hM => ?_)
  refine lv_aload_n hx hb dX10_writeStorey_37 rfl (lv_at hl 1 rfl) ?_
  refine gt_10_6 X.1 hG hL mw305 dX10_writeStorey_38 ?_
  refine lv_bipush (v := (112 : Int32)) hx hb dX10_writeStorey_41 (by decide) ?_
  refine g_callV_v (nA := 1) (o := M_X4_put σ7 (k + 243) (112 : Int32)) (As := [.int (112 : Int32)]) X.1 hG (lf_10_6 hL) rfl rfl (fun _ _ h => C_X4_put l E h (lf_10_6 hL)) mw371 mw372 mw373 mw21 (gw_ok mw374 rfl) (by decide +kernel) rfl ⟨Nat.le_of_ble_eq_true rfl, Nat.le_of_ble_eq_true rfl⟩ hl.1 rfl (Nat.le_of_ble_eq_true rfl) ⟨Nat.le_refl _, Nat.le_refl _⟩ dX10_writeStorey_43 hM (fun σ9 r10 H locs hG hM => ?_)
  refine lv_aload_n hx hb dX10_writeStorey_46 rfl (lv_at hl 1 rfl) ?_
  refine gt_10_6 X.1 hG hL mw305 dX10_writeStorey_47 ?_
  refine lv_aload_n hx hb dX10_writeStorey_50 rfl (lv_at hl 0 rfl) ?_
  refine lv_iload_n hx hb dX10_writeStorey_51 rfl (lv_at hl 2 rfl) ?_
  refine g_callV_i (nA := 1) (o := M_X9_tieOf σ9 ((k + 5) + 4) p0) (As := [.int p0]) X.1 hG (lf_7_1 (lf_10_1 hL)) rfl rfl (fun _ _ h => C_X9_tieOf l E h (lf_7_1 (lf_10_1 hL))) mw875 mw642 mw643 mw17 (gw_ok mw644 rfl) (by decide +kernel) rfl ⟨Nat.le_of_ble_eq_true rfl, Nat.le_of_ble_eq_true rfl⟩ hl.1 rfl (Nat.le_of_ble_eq_true rfl) ⟨Nat.le_refl _, Nat.le_refl _⟩ dX10_writeStorey_52 hM (fun σ11 r12 H locs hG hM => ?_)
  refine g_callV_v (nA := 1) (o := M_X4_putNumber σ11 (k + 243) r12) (As := [.int r12]) X.1 hG (lf_10_6 hL) rfl rfl (fun _ _ h => C_X4_putNumber l E h (lf_10_6 hL)) mw1034 mw1035 mw1036 mw21 (gw_ok mw1037 rfl) (by decide +kernel) rfl ⟨Nat.le_of_ble_eq_true rfl, Nat.le_of_ble_eq_true rfl⟩ hl.1 rfl (Nat.le_of_ble_eq_true rfl) ⟨Nat.le_refl _, Nat.le_refl _⟩ dX10_writeStorey_55 hM (fun σ13 r14 H locs hG hM => ?_)
  refine lv_aload_n hx hb dX10_writeStorey_58 rfl (lv_at hl 0 rfl) ?_
  refine lv_iload_n hx hb dX10_writeStorey_59 rfl (lv_at hl 2 rfl) ?_
  refine g_callV_i (nA := 1) (o := M_X9_isShut σ13 ((k + 5) + 4) p0) (As := [.int p0]) X.1 hG (lf_7_1 (lf_10_1 hL)) rfl rfl (fun _ _ h => C_X9_isShut l E h (lf_7_1 (lf_10_1 hL))) mw878 mw537 mw538 mw17 (gw_ok mw539 rfl) (by decide +kernel) rfl ⟨Nat.le_of_ble_eq_true rfl, Nat.le_of_ble_eq_true rfl⟩ hl.1 rfl (Nat.le_of_ble_eq_true rfl) ⟨Nat.le_refl _, Nat.le_refl _⟩ dX10_writeStorey_60 hM (fun σ15 r16 H locs hG hM => ?_)
  refine lv_if_eq (tgt := 75) hx hb dX10_writeStorey_63 (by decide) (fun c34 => ?_) (fun c34 => ?_)
  · have hM := b_if hM c34
    exact w_X10_writeStorey_75 X hL σ15 p0 _ _ _ z hG (lv_sub hl [1, 2, 0] rfl) hM
  · have hM := b_else hM c34
    refine lv_aload_n hx hb dX10_writeStorey_66 rfl (lv_at hl 1 rfl) ?_
    refine gt_10_6 X.1 hG hL mw305 dX10_writeStorey_67 ?_
    refine lv_bipush (v := (35 : Int32)) hx hb dX10_writeStorey_70 (by decide) ?_
    refine g_callV_v (nA := 1) (o := M_X4_put σ15 (k + 243) (35 : Int32)) (As := [.int (35 : Int32)]) X.1 hG (lf_10_6 hL) rfl rfl (fun _ _ h => C_X4_put l E h (lf_10_6 hL)) mw371 mw372 mw373 mw21 (gw_ok mw374 rfl) (by decide +kernel) rfl ⟨Nat.le_of_ble_eq_true rfl, Nat.le_of_ble_eq_true rfl⟩ hl.1 rfl (Nat.le_of_ble_eq_true rfl) ⟨Nat.le_refl _, Nat.le_refl _⟩ dX10_writeStorey_72 hM (fun σ32 r33 H locs hG hM => ?_)
    exact w_X10_writeStorey_75 X hL σ32 p0 _ _ _ z hG (lv_sub hl [1, 2, 0] rfl) hM
def M_J0_length_8abf5 (σ : St) (k : Nat)  : Option (St × Int32) := bcall (M_J0_coder_7d493 σ k) fun σ1 r2 => some (σ1, (Int32.ofNat (lnS k)) >>> (r2 &&& 31))
set_option maxRecDepth 20000 in
set_option maxHeartbeats 4000000 in
theorem C_J0_length_8abf5 (l : Launch) (E : Ev) {σ σ' : St} {k : Nat} {r : Int32} (h : M_J0_length_8abf5 σ k = some (σ', r)) (hL : okS E k) : Mi l E yJ0_length_8abf5 cJ0_length_8abf5 1 (some .int) 2 [.ref (eK E k)] σ σ' r := by
  refine Mi_of (C := RJ0) rfl (by decide) (Nat.le_of_ble_eq_true rfl) (z := (σ', r)) (fun p e s m below meth c ls X hG hl => ?_)
  have hx := X.1.1.1
  have hb := X.1.1.2.1
  have hM := h
  unfold M_J0_length_8abf5 at hM
  generalize (σ', r) = z at hM ⊢
  have hl : lv_has ls 1 [(0, .ref (eK E k))] := hl
  refine lv_aload_n hx hb dJ0_length_8abf5_0 rfl (lv_at hl 0 rfl) ?_
  refine g_sval X.1 hG hL mw1317 dJ0_length_8abf5_1 ?_
  refine g_slen X.1 hG hL dJ0_length_8abf5_4 ?_
  refine lv_aload_n hx hb dJ0_length_8abf5_5 rfl (lv_at hl 0 rfl) ?_
  refine g_callT_i (nA := 0) (o := M_J0_coder_7d493 σ k) (As := []) X.1 hG hL rfl (fun _ _ h => C_J0_coder_7d493 l E h hL) mw770 mw771 mw772 mw25 (gw_ok mw773 rfl) (by decide +kernel) rfl ⟨Nat.le_of_ble_eq_true rfl, Nat.le_of_ble_eq_true rfl⟩ hl.1 rfl (Nat.le_of_ble_eq_true rfl) ⟨Nat.le_refl _, Nat.le_refl _⟩ dJ0_length_8abf5_6 hM (fun σ1 r2 H locs hG hM => ?_)
  refine lv_ishr hx hb dJ0_length_8abf5_9 ?_
  exact e_iret X hG dJ0_length_8abf5_10 hM
