def FU : Nat := 1000
def M_X0_has (σ : St) (k : Nat) (p0 : Int32) : Option (St × Int32) := if p0 < 0 then some (σ, (0 : Int32)) else (if (σ k 2) ≤ p0 then some (σ, (0 : Int32)) else some (σ, (1 : Int32)))
set_option maxRecDepth 20000 in
set_option maxHeartbeats 4000000 in
theorem C_X0_has (l : Launch) (E : Ev) {σ σ' : St} {k : Nat} {p0 : Int32} {r : Int32} (h : M_X0_has σ k p0 = some (σ', r)) (hL : lay 0 k) : Mi l E yX0_has cX0_has 2 (some .boolean) 1 [.ref (E.1 k), .int p0] σ σ' r := by
  refine Mi_of (C := RX0) rfl (by decide) (Nat.le_of_ble_eq_true rfl) (z := (σ', r)) (fun p e s m below meth c ls X hG hl => ?_)
  have hx := X.1.1.1
  have hb := X.1.1.2.1
  have hM := h
  unfold M_X0_has at hM
  generalize (σ', r) = z at hM ⊢
  have hl : lv_has ls 2 [(0, .ref (E.1 k)), (1, .int p0)] := hl
  refine lv_iload_n hx hb dX0_has_0 rfl (lv_at hl 1 rfl) ?_
  refine lv_if_lt (tgt := 16) hx hb dX0_has_1 (by decide) (fun c2 => ?_) (fun c2 => ?_)
  · have hM := b_if hM c2
    refine lv_iconst (v := (0 : Int32)) hx hb dX0_has_16 (by decide) ?_
    exact e_zret X hG (by decide) dX0_has_17 hM
  · have hM := b_else hM c2
    refine lv_iload_n hx hb dX0_has_4 rfl (lv_at hl 1 rfl) ?_
    refine lv_aload_n hx hb dX0_has_5 rfl (lv_at hl 0 rfl) ?_
    refine gt_0_2 X.1 hG hL mw81 dX0_has_6 ?_
    refine lv_icmp_ge (tgt := 16) hx hb dX0_has_9 (by decide) (fun c1 => ?_) (fun c1 => ?_)
    · have hM := b_if hM c1
      refine lv_iconst (v := (0 : Int32)) hx hb dX0_has_16 (by decide) ?_
      exact e_zret X hG (by decide) dX0_has_17 hM
    · have hM := b_else hM c1
      refine lv_iconst (v := (1 : Int32)) hx hb dX0_has_12 (by decide) ?_
      refine lv_goto (tgt := 17) hx hb dX0_has_13 (by decide) ?_
      exact e_zret X hG (by decide) dX0_has_17 hM
def M_X0_makeNone (σ : St) (k : Nat)  : Option (St × Int32) := bput σ k 2 (0 : Int32) fun σ1 => some (σ1, 0)
set_option maxRecDepth 20000 in
set_option maxHeartbeats 4000000 in
theorem C_X0_makeNone (l : Launch) (E : Ev) {σ σ' : St} {k : Nat} {r : Int32} (h : M_X0_makeNone σ k = some (σ', r)) (hL : lay 0 k) : Mv l E yX0_makeNone cX0_makeNone 1 1 [.ref (E.1 k)] σ σ' := by
  refine Mv_of (C := RX0) rfl (by decide) (Nat.le_of_ble_eq_true rfl) (z := (σ', r)) (fun p e s m below meth c ls X hG hl => ?_)
  have hx := X.1.1.1
  have hb := X.1.1.2.1
  have hM := h
  unfold M_X0_makeNone at hM
  generalize (σ', r) = z at hM ⊢
  have hl : lv_has ls 1 [(0, .ref (E.1 k))] := hl
  refine lv_aload_n hx hb dX0_makeNone_0 rfl (lv_at hl 0 rfl) ?_
  refine lv_iconst (v := (0 : Int32)) hx hb dX0_makeNone_1 (by decide) ?_
  refine pt_0_2 X.1 hG hL mw81 dX0_makeNone_2 hM (fun σ1 H locs hG hM => ?_)
  exact e_vret X hG dX0_makeNone_5 hM
def M_X1_has (σ : St) (k : Nat) (p0 : Int32) : Option (St × Int32) := if p0 < 0 then some (σ, (0 : Int32)) else (if (σ k 3) ≤ p0 then some (σ, (0 : Int32)) else some (σ, (1 : Int32)))
set_option maxRecDepth 20000 in
set_option maxHeartbeats 4000000 in
theorem C_X1_has (l : Launch) (E : Ev) {σ σ' : St} {k : Nat} {p0 : Int32} {r : Int32} (h : M_X1_has σ k p0 = some (σ', r)) (hL : lay 1 k) : Mi l E yX1_has cX1_has 2 (some .boolean) 1 [.ref (E.1 k), .int p0] σ σ' r := by
  refine Mi_of (C := RX1) rfl (by decide) (Nat.le_of_ble_eq_true rfl) (z := (σ', r)) (fun p e s m below meth c ls X hG hl => ?_)
  have hx := X.1.1.1
  have hb := X.1.1.2.1
  have hM := h
  unfold M_X1_has at hM
  generalize (σ', r) = z at hM ⊢
  have hl : lv_has ls 2 [(0, .ref (E.1 k)), (1, .int p0)] := hl
  refine lv_iload_n hx hb dX1_has_0 rfl (lv_at hl 1 rfl) ?_
  refine lv_if_lt (tgt := 16) hx hb dX1_has_1 (by decide) (fun c2 => ?_) (fun c2 => ?_)
  · have hM := b_if hM c2
    refine lv_iconst (v := (0 : Int32)) hx hb dX1_has_16 (by decide) ?_
    exact e_zret X hG (by decide) dX1_has_17 hM
  · have hM := b_else hM c2
    refine lv_iload_n hx hb dX1_has_4 rfl (lv_at hl 1 rfl) ?_
    refine lv_aload_n hx hb dX1_has_5 rfl (lv_at hl 0 rfl) ?_
    refine gt_1_3 X.1 hG hL mw131 dX1_has_6 ?_
    refine lv_icmp_ge (tgt := 16) hx hb dX1_has_9 (by decide) (fun c1 => ?_) (fun c1 => ?_)
    · have hM := b_if hM c1
      refine lv_iconst (v := (0 : Int32)) hx hb dX1_has_16 (by decide) ?_
      exact e_zret X hG (by decide) dX1_has_17 hM
    · have hM := b_else hM c1
      refine lv_iconst (v := (1 : Int32)) hx hb dX1_has_12 (by decide) ?_
      refine lv_goto (tgt := 17) hx hb dX1_has_13 (by decide) ?_
      exact e_zret X hG (by decide) dX1_has_17 hM
def M_X1_makeNone (σ : St) (k : Nat)  : Option (St × Int32) := bput σ k 3 (0 : Int32) fun σ1 => some (σ1, 0)
set_option maxRecDepth 20000 in
set_option maxHeartbeats 4000000 in
theorem C_X1_makeNone (l : Launch) (E : Ev) {σ σ' : St} {k : Nat} {r : Int32} (h : M_X1_makeNone σ k = some (σ', r)) (hL : lay 1 k) : Mv l E yX1_makeNone cX1_makeNone 1 1 [.ref (E.1 k)] σ σ' := by
  refine Mv_of (C := RX1) rfl (by decide) (Nat.le_of_ble_eq_true rfl) (z := (σ', r)) (fun p e s m below meth c ls X hG hl => ?_)
  have hx := X.1.1.1
  have hb := X.1.1.2.1
  have hM := h
  unfold M_X1_makeNone at hM
  generalize (σ', r) = z at hM ⊢
  have hl : lv_has ls 1 [(0, .ref (E.1 k))] := hl
  refine lv_aload_n hx hb dX1_makeNone_0 rfl (lv_at hl 0 rfl) ?_
  refine lv_iconst (v := (0 : Int32)) hx hb dX1_makeNone_1 (by decide) ?_
  refine pt_1_3 X.1 hG hL mw131 dX1_makeNone_2 hM (fun σ1 H locs hG hM => ?_)
  exact e_vret X hG dX1_makeNone_5 hM
def M_X2_noted (σ : St) (k : Nat)  : Option (St × Nat) := if (σ k 2) < 0 then some (σ, (k + 2)) else (if (Int32.ofNat (ln (k + 1))) ≤ (σ k 2) then some (σ, (k + 2)) else (baldS (k + 1) (σ k 2) fun q1 => some (σ, q1)))
set_option maxRecDepth 20000 in
set_option maxHeartbeats 4000000 in
theorem C_X2_noted (l : Launch) (E : Ev) {σ σ' : St} {k : Nat} {r : Nat} (h : M_X2_noted σ k = some (σ', r)) (hL : lay 2 k) : Mr l E yX2_noted cX2_noted 2 (some (.object "BambooTower$Scaffold")) 1 [.ref (E.1 k)] σ σ' r := by
  refine Mr_of (C := RX2) rfl (by decide) (Nat.le_of_ble_eq_true rfl) (z := (σ', r)) (fun p e s m below meth c ls X hG hl => ?_)
  have hx := X.1.1.1
  have hb := X.1.1.2.1
  have hM := h
  unfold M_X2_noted at hM
  generalize (σ', r) = z at hM ⊢
  have hl : lv_has ls 2 [(0, .ref (E.1 k))] := hl
  refine lv_aload_n hx hb dX2_noted_0 rfl (lv_at hl 0 rfl) ?_
  refine gt_2_2 X.1 hG hL mw251 dX2_noted_1 ?_
  refine lv_if_lt (tgt := 31) hx hb dX2_noted_4 (by decide) (fun c3 => ?_) (fun c3 => ?_)
  · have hM := b_if hM c3
    refine lv_null hx hb dX2_noted_31 ?_
    refine lv_astore_nN (lv' := [(1, .null), (0, .ref (E.1 k))]) hx hb dX2_noted_32 rfl hl (by decide) rfl (fun ls hl => ?_)
    refine lv_aload_nN hx hb dX2_noted_33 rfl (lv_at hl 0 rfl) ?_
    refine lv_ifnonnullN hx hb dX2_noted_34 ?_
    refine lv_aload_n hx hb dX2_noted_37 rfl (lv_at hl 1 rfl) ?_
    refine gt_2_1 X.1 hG hL mw250 dX2_noted_38 ?_
    refine lv_goto (tgt := 45) hx hb dX2_noted_41 (by decide) ?_
    exact e_aret X hG dX2_noted_45 hM
  · have hM := b_else hM c3
    refine lv_aload_n hx hb dX2_noted_7 rfl (lv_at hl 0 rfl) ?_
    refine gt_2_2 X.1 hG hL mw251 dX2_noted_8 ?_
    refine lv_aload_n hx hb dX2_noted_11 rfl (lv_at hl 0 rfl) ?_
    refine gt_2_0 X.1 hG hL mw249 dX2_noted_12 ?_
    refine g_lenS X.1 hG (lf_2_0 hL) dX2_noted_15 ?_
    refine lv_icmp_ge (tgt := 31) hx hb dX2_noted_16 (by decide) (fun c2 => ?_) (fun c2 => ?_)
    · have hM := b_if hM c2
      refine lv_null hx hb dX2_noted_31 ?_
      refine lv_astore_nN (lv' := [(1, .null), (0, .ref (E.1 k))]) hx hb dX2_noted_32 rfl hl (by decide) rfl (fun ls hl => ?_)
      refine lv_aload_nN hx hb dX2_noted_33 rfl (lv_at hl 0 rfl) ?_
      refine lv_ifnonnullN hx hb dX2_noted_34 ?_
      refine lv_aload_n hx hb dX2_noted_37 rfl (lv_at hl 1 rfl) ?_
      refine gt_2_1 X.1 hG hL mw250 dX2_noted_38 ?_
      refine lv_goto (tgt := 45) hx hb dX2_noted_41 (by decide) ?_
      exact e_aret X hG dX2_noted_45 hM
    · have hM := b_else hM c2
      refine lv_aload_n hx hb dX2_noted_19 rfl (lv_at hl 0 rfl) ?_
      refine gt_2_0 X.1 hG hL mw249 dX2_noted_20 ?_
      refine lv_aload_n hx hb dX2_noted_23 rfl (lv_at hl 0 rfl) ?_
      refine gt_2_2 X.1 hG hL mw251 dX2_noted_24 ?_
      refine g_aldS X.1 hG (lf_2_0 hL) dX2_noted_27 hM (fun q1 _ hM => ?_)
      refine lv_goto (tgt := 32) hx hb dX2_noted_28 (by decide) ?_
      refine lv_astore_n (lv' := [(1, .ref (E.1 q1)), (0, .ref (E.1 k))]) hx hb dX2_noted_32 rfl hl (by decide) rfl (fun ls hl => ?_)
      refine lv_aload_n hx hb dX2_noted_33 rfl (lv_at hl 0 rfl) ?_
      refine lv_ifnonnull (tgt := 44) hx hb dX2_noted_34 (by decide) ?_
      refine lv_aload_n hx hb dX2_noted_44 rfl (lv_at hl 0 rfl) ?_
      exact e_aret X hG dX2_noted_45 hM
theorem lay2_59 : ∀ k, k < 248 → kd k = 2 → k = 59 := by decide +kernel
theorem lay_place : ∀ j, j < 9 → 79 + 18 * j + szc 7 ≤ 248 ∧ ∀ r, r < szc 7 → kd (79 + 18 * j + r) = kd (repc 7 + r) := by decide +kernel
theorem lay7_place {j : Nat} (h : j < 9) : lay 7 (79 + 18 * j) := ⟨by decide, (lay_place j h).1, (lay_place j h).2⟩
theorem toNatC {i : Int32} {n : Nat} (h : 0 ≤ i.toInt ∧ i.toInt < n) : i.toNatClampNeg < n ∧ (i.toNatClampNeg : Int) = i.toInt := by
  have h1 : (i.toNatClampNeg : Int) = i.toInt := by
    show ((i.toInt.toNat : Nat) : Int) = i.toInt
    omega
  omega
theorem L_X2_noted {k : Nat} (hL : lay 2 k) {σ σ' : St} {r : Nat} (h : M_X2_noted σ k = some (σ', r)) : lay 7 r := by
  unfold M_X2_noted at h
  by_cases h1 : σ k 2 < 0
  · rw [if_pos h1] at h; cases h; exact lf_2_1 hL
  · rw [if_neg h1] at h
    by_cases h2 : Int32.ofNat (ln (k + 1)) ≤ σ k 2
    · rw [if_pos h2] at h; cases h; exact lf_2_1 hL
    · rw [if_neg h2] at h
      unfold baldS at h
      by_cases h3 : 0 ≤ (σ k 2).toInt ∧ (σ k 2).toInt < ln (k + 1)
      · rw [if_pos h3] at h
        cases h
        have hk := lay2_59 k (lay_lt hL) (lay_kd hL)
        subst hk
        have h4 := (toNatC h3).1
        exact lay7_place h4
      · rw [if_neg h3] at h; cases h
def M_X2_keepNoted (σ : St) (k : Nat)  : Option (St × Int32) := bput σ k 2 (((σ k 2) + (1 : Int32)) - ((σ k 2) + (1 : Int32)) / (9 : Int32) * (9 : Int32)) fun σ1 => blet (imin ((σ1 k 3) + (1 : Int32)) (8 : Int32)) fun v2 => bput σ1 k 3 v2 fun σ3 => some (σ3, 0)
set_option maxRecDepth 20000 in
set_option maxHeartbeats 4000000 in
theorem C_X2_keepNoted (l : Launch) (E : Ev) {σ σ' : St} {k : Nat} {r : Int32} (h : M_X2_keepNoted σ k = some (σ', r)) (hL : lay 2 k) : Mv l E yX2_keepNoted cX2_keepNoted 1 1 [.ref (E.1 k)] σ σ' := by
  refine Mv_of (C := RX2) rfl (by decide) (Nat.le_of_ble_eq_true rfl) (z := (σ', r)) (fun p e s m below meth c ls X hG hl => ?_)
  have hx := X.1.1.1
  have hb := X.1.1.2.1
  have hM := h
  unfold M_X2_keepNoted at hM
  generalize (σ', r) = z at hM ⊢
  have hl : lv_has ls 1 [(0, .ref (E.1 k))] := hl
  refine lv_aload_n hx hb dX2_keepNoted_0 rfl (lv_at hl 0 rfl) ?_
  refine lv_aload_n hx hb dX2_keepNoted_1 rfl (lv_at hl 0 rfl) ?_
  refine gt_2_2 X.1 hG hL mw251 dX2_keepNoted_2 ?_
  refine lv_iconst (v := (1 : Int32)) hx hb dX2_keepNoted_5 (by decide) ?_
  refine lv_iadd hx hb dX2_keepNoted_6 ?_
  refine lv_bipush (v := (9 : Int32)) hx hb dX2_keepNoted_7 (by decide) ?_
  refine lv_irem hx hb dX2_keepNoted_9 (by decide) ?_
  refine pt_2_2 X.1 hG hL mw251 dX2_keepNoted_10 hM (fun σ1 H locs hG hM => ?_)
  refine lv_aload_n hx hb dX2_keepNoted_13 rfl (lv_at hl 0 rfl) ?_
  refine lv_aload_n hx hb dX2_keepNoted_14 rfl (lv_at hl 0 rfl) ?_
  refine gt_2_3 X.1 hG hL mw252 dX2_keepNoted_15 ?_
  refine lv_iconst (v := (1 : Int32)) hx hb dX2_keepNoted_18 (by decide) ?_
  refine lv_iadd hx hb dX2_keepNoted_19 ?_
  refine lv_bipush (v := (8 : Int32)) hx hb dX2_keepNoted_20 (by decide) ?_
  refine g_min X.1 hl.1 mw446 (Nat.le_of_ble_eq_true rfl) (Nat.le_of_ble_eq_true rfl) (Nat.le_of_ble_eq_true rfl) (Nat.le_of_ble_eq_true rfl) dX2_keepNoted_22 hM (fun v2 hM => ?_)
  refine pt_2_3 X.1 hG hL mw252 dX2_keepNoted_25 hM (fun σ3 H locs hG hM => ?_)
  exact e_vret X hG dX2_keepNoted_28 hM
def M_X2_stepBack (σ : St) (k : Nat)  : Option (St × Nat) := bput σ k 2 ((((σ k 2) + (9 : Int32)) - (1 : Int32)) - (((σ k 2) + (9 : Int32)) - (1 : Int32)) / (9 : Int32) * (9 : Int32)) fun σ1 => bput σ1 k 3 ((σ1 k 3) - (1 : Int32)) fun σ2 => bcall (M_X2_noted σ2 k) fun σ3 r4 => some (σ3, r4)
set_option maxRecDepth 20000 in
set_option maxHeartbeats 4000000 in
theorem C_X2_stepBack (l : Launch) (E : Ev) {σ σ' : St} {k : Nat} {r : Nat} (h : M_X2_stepBack σ k = some (σ', r)) (hL : lay 2 k) : Mr l E yX2_stepBack cX2_stepBack 1 (some (.object "BambooTower$Scaffold")) 2 [.ref (E.1 k)] σ σ' r := by
  refine Mr_of (C := RX2) rfl (by decide) (Nat.le_of_ble_eq_true rfl) (z := (σ', r)) (fun p e s m below meth c ls X hG hl => ?_)
  have hx := X.1.1.1
  have hb := X.1.1.2.1
  have hM := h
  unfold M_X2_stepBack at hM
  generalize (σ', r) = z at hM ⊢
  have hl : lv_has ls 1 [(0, .ref (E.1 k))] := hl
  refine lv_aload_n hx hb dX2_stepBack_0 rfl (lv_at hl 0 rfl) ?_
  refine lv_aload_n hx hb dX2_stepBack_1 rfl (lv_at hl 0 rfl) ?_
  refine gt_2_2 X.1 hG hL mw251 dX2_stepBack_2 ?_
  refine lv_bipush (v := (9 : Int32)) hx hb dX2_stepBack_5 (by decide) ?_
  refine lv_iadd hx hb dX2_stepBack_7 ?_
  refine lv_iconst (v := (1 : Int32)) hx hb dX2_stepBack_8 (by decide) ?_
  refine lv_isub hx hb dX2_stepBack_9 ?_
  refine lv_bipush (v := (9 : Int32)) hx hb dX2_stepBack_10 (by decide) ?_
  refine lv_irem hx hb dX2_stepBack_12 (by decide) ?_
  refine pt_2_2 X.1 hG hL mw251 dX2_stepBack_13 hM (fun σ1 H locs hG hM => ?_)
  refine lv_aload_n hx hb dX2_stepBack_16 rfl (lv_at hl 0 rfl) ?_
  refine lv_dup hx hb dX2_stepBack_17 rfl ?_
  refine gt_2_3 X.1 hG hL mw252 dX2_stepBack_18 ?_
  refine lv_iconst (v := (1 : Int32)) hx hb dX2_stepBack_21 (by decide) ?_
  refine lv_isub hx hb dX2_stepBack_22 ?_
  refine pt_2_3 X.1 hG hL mw252 dX2_stepBack_23 hM (fun σ2 H locs hG hM => ?_)
  refine lv_aload_n hx hb dX2_stepBack_26 rfl (lv_at hl 0 rfl) ?_
  refine g_callV_r (nA := 0) (o := M_X2_noted σ2 k) (As := []) X.1 hG hL rfl rfl (fun _ _ h => C_X2_noted l E h hL) mw383 mw384 mw385 mw20 (gw_ok mw386 rfl) (by decide +kernel) rfl ⟨Nat.le_of_ble_eq_true rfl, Nat.le_of_ble_eq_true rfl⟩ hl.1 rfl (Nat.le_of_ble_eq_true rfl) ⟨Nat.le_refl _, Nat.le_refl _⟩ dX2_stepBack_27 hM (fun σ3 r4 H locs hG hEr4 hM => ?_)
  have hNr4 := L_X2_noted (hL) hEr4
  exact e_aret X hG dX2_stepBack_30 hM
theorem b_call {α β : Type} {o : Option (St × β)} {K : St → β → Option α} {z : α} (h : bcall o K = some z) : ∃ σ1 r, o = some (σ1, r) ∧ K σ1 r = some z := by
  cases ho : o with
  | none => rw [ho] at h; cases h
  | some q => rw [ho] at h; exact ⟨q.1, q.2, rfl, h⟩
theorem L_X2_stepBack {k : Nat} (hL : lay 2 k) {σ σ' : St} {r : Nat} (h : M_X2_stepBack σ k = some (σ', r)) : lay 7 r := by
  unfold M_X2_stepBack bput at h
  obtain ⟨σ1, r1, h1, h2⟩ := b_call h
  cases h2
  exact L_X2_noted hL h1
def M_X2_forget (σ : St) (k : Nat)  : Option (St × Int32) := bput σ k 3 (0 : Int32) fun σ1 => some (σ1, 0)
set_option maxRecDepth 20000 in
set_option maxHeartbeats 4000000 in
theorem C_X2_forget (l : Launch) (E : Ev) {σ σ' : St} {k : Nat} {r : Int32} (h : M_X2_forget σ k = some (σ', r)) (hL : lay 2 k) : Mv l E yX2_forget cX2_forget 1 1 [.ref (E.1 k)] σ σ' := by
  refine Mv_of (C := RX2) rfl (by decide) (Nat.le_of_ble_eq_true rfl) (z := (σ', r)) (fun p e s m below meth c ls X hG hl => ?_)
  have hx := X.1.1.1
  have hb := X.1.1.2.1
  have hM := h
  unfold M_X2_forget at hM
  generalize (σ', r) = z at hM ⊢
  have hl : lv_has ls 1 [(0, .ref (E.1 k))] := hl
  refine lv_aload_n hx hb dX2_forget_0 rfl (lv_at hl 0 rfl) ?_
  refine lv_iconst (v := (0 : Int32)) hx hb dX2_forget_1 (by decide) ?_
  refine pt_2_3 X.1 hG hL mw252 dX2_forget_2 hM (fun σ1 H locs hG hM => ?_)
  exact e_vret X hG dX2_forget_5 hM
def M_X3_has (σ : St) (k : Nat) (p0 : Int32) : Option (St × Int32) := if p0 < 0 then some (σ, (0 : Int32)) else (if (σ k 2) ≤ p0 then some (σ, (0 : Int32)) else some (σ, (1 : Int32)))
set_option maxRecDepth 20000 in
set_option maxHeartbeats 4000000 in
theorem C_X3_has (l : Launch) (E : Ev) {σ σ' : St} {k : Nat} {p0 : Int32} {r : Int32} (h : M_X3_has σ k p0 = some (σ', r)) (hL : lay 3 k) : Mi l E yX3_has cX3_has 2 (some .boolean) 1 [.ref (E.1 k), .int p0] σ σ' r := by
  refine Mi_of (C := RX3) rfl (by decide) (Nat.le_of_ble_eq_true rfl) (z := (σ', r)) (fun p e s m below meth c ls X hG hl => ?_)
  have hx := X.1.1.1
  have hb := X.1.1.2.1
  have hM := h
  unfold M_X3_has at hM
  generalize (σ', r) = z at hM ⊢
  have hl : lv_has ls 2 [(0, .ref (E.1 k)), (1, .int p0)] := hl
  refine lv_iload_n hx hb dX3_has_0 rfl (lv_at hl 1 rfl) ?_
  refine lv_if_lt (tgt := 16) hx hb dX3_has_1 (by decide) (fun c2 => ?_) (fun c2 => ?_)
  · have hM := b_if hM c2
    refine lv_iconst (v := (0 : Int32)) hx hb dX3_has_16 (by decide) ?_
    exact e_zret X hG (by decide) dX3_has_17 hM
  · have hM := b_else hM c2
    refine lv_iload_n hx hb dX3_has_4 rfl (lv_at hl 1 rfl) ?_
    refine lv_aload_n hx hb dX3_has_5 rfl (lv_at hl 0 rfl) ?_
    refine gt_3_2 X.1 hG hL mw152 dX3_has_6 ?_
    refine lv_icmp_ge (tgt := 16) hx hb dX3_has_9 (by decide) (fun c1 => ?_) (fun c1 => ?_)
    · have hM := b_if hM c1
      refine lv_iconst (v := (0 : Int32)) hx hb dX3_has_16 (by decide) ?_
      exact e_zret X hG (by decide) dX3_has_17 hM
    · have hM := b_else hM c1
      refine lv_iconst (v := (1 : Int32)) hx hb dX3_has_12 (by decide) ?_
      refine lv_goto (tgt := 17) hx hb dX3_has_13 (by decide) ?_
      exact e_zret X hG (by decide) dX3_has_17 hM
def M_X3_makeNone (σ : St) (k : Nat)  : Option (St × Int32) := bput σ k 2 (0 : Int32) fun σ1 => some (σ1, 0)
set_option maxRecDepth 20000 in
set_option maxHeartbeats 4000000 in
theorem C_X3_makeNone (l : Launch) (E : Ev) {σ σ' : St} {k : Nat} {r : Int32} (h : M_X3_makeNone σ k = some (σ', r)) (hL : lay 3 k) : Mv l E yX3_makeNone cX3_makeNone 1 1 [.ref (E.1 k)] σ σ' := by
  refine Mv_of (C := RX3) rfl (by decide) (Nat.le_of_ble_eq_true rfl) (z := (σ', r)) (fun p e s m below meth c ls X hG hl => ?_)
  have hx := X.1.1.1
  have hb := X.1.1.2.1
  have hM := h
  unfold M_X3_makeNone at hM
  generalize (σ', r) = z at hM ⊢
  have hl : lv_has ls 1 [(0, .ref (E.1 k))] := hl
  refine lv_aload_n hx hb dX3_makeNone_0 rfl (lv_at hl 0 rfl) ?_
  refine lv_iconst (v := (0 : Int32)) hx hb dX3_makeNone_1 (by decide) ?_
  refine pt_3_2 X.1 hG hL mw152 dX3_makeNone_2 hM (fun σ1 H locs hG hM => ?_)
  exact e_vret X hG dX3_makeNone_5 hM
def M_X4_makeEmpty (σ : St) (k : Nat)  : Option (St × Int32) := bput σ k 1 (0 : Int32) fun σ1 => some (σ1, 0)
set_option maxRecDepth 20000 in
set_option maxHeartbeats 4000000 in
theorem C_X4_makeEmpty (l : Launch) (E : Ev) {σ σ' : St} {k : Nat} {r : Int32} (h : M_X4_makeEmpty σ k = some (σ', r)) (hL : lay 4 k) : Mv l E yX4_makeEmpty cX4_makeEmpty 1 1 [.ref (E.1 k)] σ σ' := by
  refine Mv_of (C := RX4) rfl (by decide) (Nat.le_of_ble_eq_true rfl) (z := (σ', r)) (fun p e s m below meth c ls X hG hl => ?_)
  have hx := X.1.1.1
  have hb := X.1.1.2.1
  have hM := h
  unfold M_X4_makeEmpty at hM
  generalize (σ', r) = z at hM ⊢
  have hl : lv_has ls 1 [(0, .ref (E.1 k))] := hl
  refine lv_aload_n hx hb dX4_makeEmpty_0 rfl (lv_at hl 0 rfl) ?_
  refine lv_iconst (v := (0 : Int32)) hx hb dX4_makeEmpty_1 (by decide) ?_
  refine pt_4_1 X.1 hG hL mw270 dX4_makeEmpty_2 hM (fun σ1 H locs hG hM => ?_)
  exact e_vret X hG dX4_makeEmpty_5 hM
def M_X4_put (σ : St) (k : Nat) (p0 : Int32) : Option (St × Int32) := if (σ k 1) < 0 then some (σ, 0) else (if (Int32.ofNat (ln (k + 1))) ≤ (σ k 1) then some (σ, 0) else (bcast σ (k + 1) (σ k 1) p0 fun σ1 => bput σ1 k 1 ((σ1 k 1) + (1 : Int32)) fun σ2 => some (σ2, 0)))
set_option maxRecDepth 20000 in
set_option maxHeartbeats 4000000 in
theorem C_X4_put (l : Launch) (E : Ev) {σ σ' : St} {k : Nat} {p0 : Int32} {r : Int32} (h : M_X4_put σ k p0 = some (σ', r)) (hL : lay 4 k) : Mv l E yX4_put cX4_put 2 1 [.ref (E.1 k), .int p0] σ σ' := by
  refine Mv_of (C := RX4) rfl (by decide) (Nat.le_of_ble_eq_true rfl) (z := (σ', r)) (fun p e s m below meth c ls X hG hl => ?_)
  have hx := X.1.1.1
  have hb := X.1.1.2.1
  have hM := h
  unfold M_X4_put at hM
  generalize (σ', r) = z at hM ⊢
  have hl : lv_has ls 2 [(0, .ref (E.1 k)), (1, .int p0)] := hl
  refine lv_aload_n hx hb dX4_put_0 rfl (lv_at hl 0 rfl) ?_
  refine gt_4_1 X.1 hG hL mw270 dX4_put_1 ?_
  refine lv_if_lt (tgt := 39) hx hb dX4_put_4 (by decide) (fun c4 => ?_) (fun c4 => ?_)
  · have hM := b_if hM c4
    exact e_vret X hG dX4_put_39 hM
  · have hM := b_else hM c4
    refine lv_aload_n hx hb dX4_put_7 rfl (lv_at hl 0 rfl) ?_
    refine gt_4_1 X.1 hG hL mw270 dX4_put_8 ?_
    refine lv_aload_n hx hb dX4_put_11 rfl (lv_at hl 0 rfl) ?_
    refine gt_4_0 X.1 hG hL mw269 dX4_put_12 ?_
    refine g_lenC X.1 hG (lf_4_0 hL) dX4_put_15 ?_
    refine lv_icmp_ge (tgt := 39) hx hb dX4_put_16 (by decide) (fun c3 => ?_) (fun c3 => ?_)
    · have hM := b_if hM c3
      exact e_vret X hG dX4_put_39 hM
    · have hM := b_else hM c3
      refine lv_aload_n hx hb dX4_put_19 rfl (lv_at hl 0 rfl) ?_
      refine gt_4_0 X.1 hG hL mw269 dX4_put_20 ?_
      refine lv_aload_n hx hb dX4_put_23 rfl (lv_at hl 0 rfl) ?_
      refine gt_4_1 X.1 hG hL mw270 dX4_put_24 ?_
      refine lv_iload_n hx hb dX4_put_27 rfl (lv_at hl 1 rfl) ?_
      refine g_cast X.1 hG (lf_4_0 hL) dX4_put_28 hM (fun σ1 H locs hG hM => ?_)
      refine lv_aload_n hx hb dX4_put_29 rfl (lv_at hl 0 rfl) ?_
      refine lv_dup hx hb dX4_put_30 rfl ?_
      refine gt_4_1 X.1 hG hL mw270 dX4_put_31 ?_
      refine lv_iconst (v := (1 : Int32)) hx hb dX4_put_34 (by decide) ?_
      refine lv_iadd hx hb dX4_put_35 ?_
      refine pt_4_1 X.1 hG hL mw270 dX4_put_36 hM (fun σ2 H locs hG hM => ?_)
      exact e_vret X hG dX4_put_39 hM
def M_X4_putNumber (σ : St) (k : Nat) (p0 : Int32) : Option (St × Int32) := if p0 ≤ (9 : Int32) then (blet ((((48 : Int32) + (p0 - p0 / (10 : Int32) * (10 : Int32))).toUInt32 % 65536).toInt32) fun v1 => bcall (M_X4_put σ k v1) fun σ2 r3 => some (σ2, 0)) else (blet ((((48 : Int32) + ((p0 / (10 : Int32)) - (p0 / (10 : Int32)) / (10 : Int32) * (10 : Int32))).toUInt32 % 65536).toInt32) fun v4 => bcall (M_X4_put σ k v4) fun σ5 r6 => blet ((((48 : Int32) + (p0 - p0 / (10 : Int32) * (10 : Int32))).toUInt32 % 65536).toInt32) fun v7 => bcall (M_X4_put σ5 k v7) fun σ8 r9 => some (σ8, 0))
set_option maxRecDepth 20000 in
set_option maxHeartbeats 4000000 in
theorem C_X4_putNumber (l : Launch) (E : Ev) {σ σ' : St} {k : Nat} {p0 : Int32} {r : Int32} (h : M_X4_putNumber σ k p0 = some (σ', r)) (hL : lay 4 k) : Mv l E yX4_putNumber cX4_putNumber 2 2 [.ref (E.1 k), .int p0] σ σ' := by
  refine Mv_of (C := RX4) rfl (by decide) (Nat.le_of_ble_eq_true rfl) (z := (σ', r)) (fun p e s m below meth c ls X hG hl => ?_)
  have hx := X.1.1.1
  have hb := X.1.1.2.1
  have hM := h
  unfold M_X4_putNumber at hM
  generalize (σ', r) = z at hM ⊢
  have hl : lv_has ls 2 [(0, .ref (E.1 k)), (1, .int p0)] := hl
  refine lv_iload_n hx hb dX4_putNumber_0 rfl (lv_at hl 1 rfl) ?_
  refine lv_bipush (v := (9 : Int32)) hx hb dX4_putNumber_1 (by decide) ?_
  refine lv_icmp_le (tgt := 21) hx hb dX4_putNumber_3 (by decide) (fun c10 => ?_) (fun c10 => ?_)
  · have hM := b_if hM c10
    refine lv_aload_n hx hb dX4_putNumber_21 rfl (lv_at hl 0 rfl) ?_
    refine lv_bipush (v := (48 : Int32)) hx hb dX4_putNumber_22 (by decide) ?_
    refine lv_iload_n hx hb dX4_putNumber_24 rfl (lv_at hl 1 rfl) ?_
    refine lv_bipush (v := (10 : Int32)) hx hb dX4_putNumber_25 (by decide) ?_
    refine lv_irem hx hb dX4_putNumber_27 (by decide) ?_
    refine lv_iadd hx hb dX4_putNumber_28 ?_
    refine lv_i2c hx hb dX4_putNumber_29 rfl ?_
    refine g_name hM (fun v1 hM => ?_)
    refine g_callV_v (nA := 1) (o := M_X4_put σ k v1) (As := [.int v1]) X.1 hG hL rfl rfl (fun _ _ h => C_X4_put l E h hL) mw1038 mw372 mw373 mw21 (gw_ok mw374 rfl) (by decide +kernel) rfl ⟨Nat.le_of_ble_eq_true rfl, Nat.le_of_ble_eq_true rfl⟩ hl.1 rfl (Nat.le_of_ble_eq_true rfl) ⟨Nat.le_refl _, Nat.le_refl _⟩ dX4_putNumber_30 hM (fun σ2 r3 H locs hG hM => ?_)
    exact e_vret X hG dX4_putNumber_33 hM
  · have hM := b_else hM c10
    refine lv_aload_n hx hb dX4_putNumber_6 rfl (lv_at hl 0 rfl) ?_
    refine lv_bipush (v := (48 : Int32)) hx hb dX4_putNumber_7 (by decide) ?_
    refine lv_iload_n hx hb dX4_putNumber_9 rfl (lv_at hl 1 rfl) ?_
    refine lv_bipush (v := (10 : Int32)) hx hb dX4_putNumber_10 (by decide) ?_
    refine lv_idiv hx hb dX4_putNumber_12 (by decide) ?_
    refine lv_bipush (v := (10 : Int32)) hx hb dX4_putNumber_13 (by decide) ?_
    refine lv_irem hx hb dX4_putNumber_15 (by decide) ?_
    refine lv_iadd hx hb dX4_putNumber_16 ?_
    refine lv_i2c hx hb dX4_putNumber_17 rfl ?_
    refine g_name hM (fun v4 hM => ?_)
    refine g_callV_v (nA := 1) (o := M_X4_put σ k v4) (As := [.int v4]) X.1 hG hL rfl rfl (fun _ _ h => C_X4_put l E h hL) mw1038 mw372 mw373 mw21 (gw_ok mw374 rfl) (by decide +kernel) rfl ⟨Nat.le_of_ble_eq_true rfl, Nat.le_of_ble_eq_true rfl⟩ hl.1 rfl (Nat.le_of_ble_eq_true rfl) ⟨Nat.le_refl _, Nat.le_refl _⟩ dX4_putNumber_18 hM (fun σ5 r6 H locs hG hM => ?_)
    refine lv_aload_n hx hb dX4_putNumber_21 rfl (lv_at hl 0 rfl) ?_
    refine lv_bipush (v := (48 : Int32)) hx hb dX4_putNumber_22 (by decide) ?_
    refine lv_iload_n hx hb dX4_putNumber_24 rfl (lv_at hl 1 rfl) ?_
    refine lv_bipush (v := (10 : Int32)) hx hb dX4_putNumber_25 (by decide) ?_
    refine lv_irem hx hb dX4_putNumber_27 (by decide) ?_
    refine lv_iadd hx hb dX4_putNumber_28 ?_
    refine lv_i2c hx hb dX4_putNumber_29 rfl ?_
    refine g_name hM (fun v7 hM => ?_)
    refine g_callV_v (nA := 1) (o := M_X4_put σ5 k v7) (As := [.int v7]) X.1 hG hL rfl rfl (fun _ _ h => C_X4_put l E h hL) mw1038 mw372 mw373 mw21 (gw_ok mw374 rfl) (by decide +kernel) rfl ⟨Nat.le_of_ble_eq_true rfl, Nat.le_of_ble_eq_true rfl⟩ hl.1 rfl (Nat.le_of_ble_eq_true rfl) ⟨Nat.le_refl _, Nat.le_refl _⟩ dX4_putNumber_30 hM (fun σ8 r9 H locs hG hM => ?_)
    exact e_vret X hG dX4_putNumber_33 hM
def M_X4_signAt (σ : St) (k : Nat) (p0 : Int32) : Option (St × Int32) := if p0 < 0 then some (σ, (0 : Int32)) else (if (σ k 1) ≤ p0 then some (σ, (0 : Int32)) else (if (Int32.ofNat (ln (k + 1))) ≤ p0 then some (σ, (0 : Int32)) else (bald σ (k + 1) p0 fun q1 => bchk (okC q1) (some (σ, q1)))))
set_option maxRecDepth 20000 in
set_option maxHeartbeats 4000000 in
theorem C_X4_signAt (l : Launch) (E : Ev) {σ σ' : St} {k : Nat} {p0 : Int32} {r : Int32} (h : M_X4_signAt σ k p0 = some (σ', r)) (hL : lay 4 k) : Mi l E yX4_signAt cX4_signAt 2 (some .char) 1 [.ref (E.1 k), .int p0] σ σ' r := by
  refine Mi_of (C := RX4) rfl (by decide) (Nat.le_of_ble_eq_true rfl) (z := (σ', r)) (fun p e s m below meth c ls X hG hl => ?_)
  have hx := X.1.1.1
  have hb := X.1.1.2.1
  have hM := h
  unfold M_X4_signAt at hM
  generalize (σ', r) = z at hM ⊢
  have hl : lv_has ls 2 [(0, .ref (E.1 k)), (1, .int p0)] := hl
  refine lv_iload_n hx hb dX4_signAt_0 rfl (lv_at hl 1 rfl) ?_
  refine lv_if_lt (tgt := 30) hx hb dX4_signAt_1 (by decide) (fun c5 => ?_) (fun c5 => ?_)
  · have hM := b_if hM c5
    refine lv_iconst (v := (0 : Int32)) hx hb dX4_signAt_30 (by decide) ?_
    exact e_zret X hG (by decide) dX4_signAt_31 hM
  · have hM := b_else hM c5
    refine lv_iload_n hx hb dX4_signAt_4 rfl (lv_at hl 1 rfl) ?_
    refine lv_aload_n hx hb dX4_signAt_5 rfl (lv_at hl 0 rfl) ?_
    refine gt_4_1 X.1 hG hL mw270 dX4_signAt_6 ?_
    refine lv_icmp_ge (tgt := 30) hx hb dX4_signAt_9 (by decide) (fun c4 => ?_) (fun c4 => ?_)
    · have hM := b_if hM c4
      refine lv_iconst (v := (0 : Int32)) hx hb dX4_signAt_30 (by decide) ?_
      exact e_zret X hG (by decide) dX4_signAt_31 hM
    · have hM := b_else hM c4
      refine lv_iload_n hx hb dX4_signAt_12 rfl (lv_at hl 1 rfl) ?_
      refine lv_aload_n hx hb dX4_signAt_13 rfl (lv_at hl 0 rfl) ?_
      refine gt_4_0 X.1 hG hL mw269 dX4_signAt_14 ?_
      refine g_lenC X.1 hG (lf_4_0 hL) dX4_signAt_17 ?_
      refine lv_icmp_ge (tgt := 30) hx hb dX4_signAt_18 (by decide) (fun c3 => ?_) (fun c3 => ?_)
      · have hM := b_if hM c3
        refine lv_iconst (v := (0 : Int32)) hx hb dX4_signAt_30 (by decide) ?_
        exact e_zret X hG (by decide) dX4_signAt_31 hM
      · have hM := b_else hM c3
        refine lv_aload_n hx hb dX4_signAt_21 rfl (lv_at hl 0 rfl) ?_
        refine gt_4_0 X.1 hG hL mw269 dX4_signAt_22 ?_
        refine lv_iload_n hx hb dX4_signAt_25 rfl (lv_at hl 1 rfl) ?_
        refine g_cald X.1 hG (lf_4_0 hL) dX4_signAt_26 hM (fun q1 hM => ?_)
        refine lv_goto (tgt := 31) hx hb dX4_signAt_27 (by decide) ?_
        obtain ⟨c2, hM⟩ := b_chk hM
        exact e_zret X hG (okC_n c2).1 dX4_signAt_31 hM
def M_X5_formOf (σ : St)  (p0 : Int32) : Option (St × Nat) := if p0.toInt < 98 ∨ 117 < p0.toInt then some (σ, 5) else if p0.toInt = 98 then some (σ, 0) else if p0.toInt = 99 then some (σ, 5) else if p0.toInt = 100 then some (σ, 1) else if p0.toInt = 101 then some (σ, 5) else if p0.toInt = 102 then some (σ, 5) else if p0.toInt = 103 then some (σ, 4) else if p0.toInt = 104 then some (σ, 5) else if p0.toInt = 105 then some (σ, 2) else if p0.toInt = 106 then some (σ, 5) else if p0.toInt = 107 then some (σ, 5) else if p0.toInt = 108 then some (σ, 3) else if p0.toInt = 109 then some (σ, 5) else if p0.toInt = 110 then some (σ, 4) else if p0.toInt = 111 then some (σ, 5) else if p0.toInt = 112 then some (σ, 5) else if p0.toInt = 113 then some (σ, 5) else if p0.toInt = 114 then some (σ, 5) else if p0.toInt = 115 then some (σ, 5) else if p0.toInt = 116 then some (σ, 1) else if p0.toInt = 117 then some (σ, 2) else none
set_option maxRecDepth 20000 in
set_option maxHeartbeats 4000000 in
theorem C_X5_formOf (l : Launch) (E : Ev) {σ σ' : St} {p0 : Int32} {r : Nat} (h : M_X5_formOf σ p0 = some (σ', r)) : Ms l E yX5_formOf cX5_formOf 1 (some (.object "java/lang/String")) 1 [.int p0] σ σ' r := by
  refine Ms_of (C := RX5) rfl (by decide) (Nat.le_of_ble_eq_true rfl) (z := (σ', r)) (fun p e s m below meth c ls X hG hl => ?_)
  have hx := X.1.1.1
  have hb := X.1.1.2.1
  have hM := h
  unfold M_X5_formOf at hM
  generalize (σ', r) = z at hM ⊢
  have hl : lv_has ls 1 [(0, .int p0)] := hl
  refine lv_iload_n hx hb dX5_formOf_0 rfl (lv_at hl 0 rfl) ?_
  by_cases c1 : p0.toInt < 98 ∨ 117 < p0.toInt
  · have hM := b_if hM c1
    refine lv_tableOut (tgt := 111) hx hb dX5_formOf_1 c1 (by decide) ?_
    refine g_ldcS X.1 (i := 5) (by decide) rfl rfl dX5_formOf_111 ?_
    exact e_sret X hG dX5_formOf_113 hM
  · have hM := b_else hM c1
    by_cases c2 : p0.toInt = 98
    · have hM := b_if hM c2
      refine lv_tableIn (tgt := 96) hx hb dX5_formOf_1 (fun h => c1 (Or.inl h)) (fun h => c1 (Or.inr h)) (by rw [c2]; rfl) (by decide) ?_
      refine g_ldcS X.1 (i := 0) (by decide) rfl rfl dX5_formOf_96 ?_
      exact e_sret X hG dX5_formOf_98 hM
    have hM := b_else hM c2
    by_cases c3 : p0.toInt = 99
    · have hM := b_if hM c3
      refine lv_tableIn (tgt := 111) hx hb dX5_formOf_1 (fun h => c1 (Or.inl h)) (fun h => c1 (Or.inr h)) (by rw [c3]; rfl) (by decide) ?_
      refine g_ldcS X.1 (i := 5) (by decide) rfl rfl dX5_formOf_111 ?_
      exact e_sret X hG dX5_formOf_113 hM
    have hM := b_else hM c3
    by_cases c4 : p0.toInt = 100
    · have hM := b_if hM c4
      refine lv_tableIn (tgt := 99) hx hb dX5_formOf_1 (fun h => c1 (Or.inl h)) (fun h => c1 (Or.inr h)) (by rw [c4]; rfl) (by decide) ?_
      refine g_ldcS X.1 (i := 1) (by decide) rfl rfl dX5_formOf_99 ?_
      exact e_sret X hG dX5_formOf_101 hM
    have hM := b_else hM c4
    by_cases c5 : p0.toInt = 101
    · have hM := b_if hM c5
      refine lv_tableIn (tgt := 111) hx hb dX5_formOf_1 (fun h => c1 (Or.inl h)) (fun h => c1 (Or.inr h)) (by rw [c5]; rfl) (by decide) ?_
      refine g_ldcS X.1 (i := 5) (by decide) rfl rfl dX5_formOf_111 ?_
      exact e_sret X hG dX5_formOf_113 hM
    have hM := b_else hM c5
    by_cases c6 : p0.toInt = 102
    · have hM := b_if hM c6
      refine lv_tableIn (tgt := 111) hx hb dX5_formOf_1 (fun h => c1 (Or.inl h)) (fun h => c1 (Or.inr h)) (by rw [c6]; rfl) (by decide) ?_
      refine g_ldcS X.1 (i := 5) (by decide) rfl rfl dX5_formOf_111 ?_
      exact e_sret X hG dX5_formOf_113 hM
    have hM := b_else hM c6
    by_cases c7 : p0.toInt = 103
    · have hM := b_if hM c7
      refine lv_tableIn (tgt := 108) hx hb dX5_formOf_1 (fun h => c1 (Or.inl h)) (fun h => c1 (Or.inr h)) (by rw [c7]; rfl) (by decide) ?_
      refine g_ldcS X.1 (i := 4) (by decide) rfl rfl dX5_formOf_108 ?_
      exact e_sret X hG dX5_formOf_110 hM
    have hM := b_else hM c7
    by_cases c8 : p0.toInt = 104
    · have hM := b_if hM c8
      refine lv_tableIn (tgt := 111) hx hb dX5_formOf_1 (fun h => c1 (Or.inl h)) (fun h => c1 (Or.inr h)) (by rw [c8]; rfl) (by decide) ?_
      refine g_ldcS X.1 (i := 5) (by decide) rfl rfl dX5_formOf_111 ?_
      exact e_sret X hG dX5_formOf_113 hM
    have hM := b_else hM c8
    by_cases c9 : p0.toInt = 105
    · have hM := b_if hM c9
      refine lv_tableIn (tgt := 102) hx hb dX5_formOf_1 (fun h => c1 (Or.inl h)) (fun h => c1 (Or.inr h)) (by rw [c9]; rfl) (by decide) ?_
      refine g_ldcS X.1 (i := 2) (by decide) rfl rfl dX5_formOf_102 ?_
      exact e_sret X hG dX5_formOf_104 hM
    have hM := b_else hM c9
    by_cases c10 : p0.toInt = 106
    · have hM := b_if hM c10
      refine lv_tableIn (tgt := 111) hx hb dX5_formOf_1 (fun h => c1 (Or.inl h)) (fun h => c1 (Or.inr h)) (by rw [c10]; rfl) (by decide) ?_
      refine g_ldcS X.1 (i := 5) (by decide) rfl rfl dX5_formOf_111 ?_
      exact e_sret X hG dX5_formOf_113 hM
    have hM := b_else hM c10
    by_cases c11 : p0.toInt = 107
    · have hM := b_if hM c11
      refine lv_tableIn (tgt := 111) hx hb dX5_formOf_1 (fun h => c1 (Or.inl h)) (fun h => c1 (Or.inr h)) (by rw [c11]; rfl) (by decide) ?_
      refine g_ldcS X.1 (i := 5) (by decide) rfl rfl dX5_formOf_111 ?_
      exact e_sret X hG dX5_formOf_113 hM
    have hM := b_else hM c11
    by_cases c12 : p0.toInt = 108
    · have hM := b_if hM c12
      refine lv_tableIn (tgt := 105) hx hb dX5_formOf_1 (fun h => c1 (Or.inl h)) (fun h => c1 (Or.inr h)) (by rw [c12]; rfl) (by decide) ?_
      refine g_ldcS X.1 (i := 3) (by decide) rfl rfl dX5_formOf_105 ?_
      exact e_sret X hG dX5_formOf_107 hM
    have hM := b_else hM c12
    by_cases c13 : p0.toInt = 109
    · have hM := b_if hM c13
      refine lv_tableIn (tgt := 111) hx hb dX5_formOf_1 (fun h => c1 (Or.inl h)) (fun h => c1 (Or.inr h)) (by rw [c13]; rfl) (by decide) ?_
      refine g_ldcS X.1 (i := 5) (by decide) rfl rfl dX5_formOf_111 ?_
      exact e_sret X hG dX5_formOf_113 hM
    have hM := b_else hM c13
    by_cases c14 : p0.toInt = 110
    · have hM := b_if hM c14
      refine lv_tableIn (tgt := 108) hx hb dX5_formOf_1 (fun h => c1 (Or.inl h)) (fun h => c1 (Or.inr h)) (by rw [c14]; rfl) (by decide) ?_
      refine g_ldcS X.1 (i := 4) (by decide) rfl rfl dX5_formOf_108 ?_
      exact e_sret X hG dX5_formOf_110 hM
    have hM := b_else hM c14
    by_cases c15 : p0.toInt = 111
    · have hM := b_if hM c15
      refine lv_tableIn (tgt := 111) hx hb dX5_formOf_1 (fun h => c1 (Or.inl h)) (fun h => c1 (Or.inr h)) (by rw [c15]; rfl) (by decide) ?_
      refine g_ldcS X.1 (i := 5) (by decide) rfl rfl dX5_formOf_111 ?_
      exact e_sret X hG dX5_formOf_113 hM
    have hM := b_else hM c15
    by_cases c16 : p0.toInt = 112
    · have hM := b_if hM c16
      refine lv_tableIn (tgt := 111) hx hb dX5_formOf_1 (fun h => c1 (Or.inl h)) (fun h => c1 (Or.inr h)) (by rw [c16]; rfl) (by decide) ?_
      refine g_ldcS X.1 (i := 5) (by decide) rfl rfl dX5_formOf_111 ?_
      exact e_sret X hG dX5_formOf_113 hM
    have hM := b_else hM c16
    by_cases c17 : p0.toInt = 113
    · have hM := b_if hM c17
      refine lv_tableIn (tgt := 111) hx hb dX5_formOf_1 (fun h => c1 (Or.inl h)) (fun h => c1 (Or.inr h)) (by rw [c17]; rfl) (by decide) ?_
      refine g_ldcS X.1 (i := 5) (by decide) rfl rfl dX5_formOf_111 ?_
      exact e_sret X hG dX5_formOf_113 hM
    have hM := b_else hM c17
    by_cases c18 : p0.toInt = 114
    · have hM := b_if hM c18
      refine lv_tableIn (tgt := 111) hx hb dX5_formOf_1 (fun h => c1 (Or.inl h)) (fun h => c1 (Or.inr h)) (by rw [c18]; rfl) (by decide) ?_
      refine g_ldcS X.1 (i := 5) (by decide) rfl rfl dX5_formOf_111 ?_
      exact e_sret X hG dX5_formOf_113 hM
    have hM := b_else hM c18
    by_cases c19 : p0.toInt = 115
    · have hM := b_if hM c19
      refine lv_tableIn (tgt := 111) hx hb dX5_formOf_1 (fun h => c1 (Or.inl h)) (fun h => c1 (Or.inr h)) (by rw [c19]; rfl) (by decide) ?_
      refine g_ldcS X.1 (i := 5) (by decide) rfl rfl dX5_formOf_111 ?_
      exact e_sret X hG dX5_formOf_113 hM
    have hM := b_else hM c19
    by_cases c20 : p0.toInt = 116
    · have hM := b_if hM c20
      refine lv_tableIn (tgt := 99) hx hb dX5_formOf_1 (fun h => c1 (Or.inl h)) (fun h => c1 (Or.inr h)) (by rw [c20]; rfl) (by decide) ?_
      refine g_ldcS X.1 (i := 1) (by decide) rfl rfl dX5_formOf_99 ?_
      exact e_sret X hG dX5_formOf_101 hM
    have hM := b_else hM c20
    by_cases c21 : p0.toInt = 117
    · have hM := b_if hM c21
      refine lv_tableIn (tgt := 102) hx hb dX5_formOf_1 (fun h => c1 (Or.inl h)) (fun h => c1 (Or.inr h)) (by rw [c21]; rfl) (by decide) ?_
      refine g_ldcS X.1 (i := 2) (by decide) rfl rfl dX5_formOf_102 ?_
      exact e_sret X hG dX5_formOf_104 hM
    have hM := b_else hM c21
    cases hM
theorem fo_if {P : Prop} {dP : Decidable P} {A B : Option (St × Nat)} {z : St × Nat} (h : (if P then A else B) = some z) (ha : A = some z → z.2 < 7) (hb : B = some z → z.2 < 7) : z.2 < 7 := by
  by_cases hP : P
  · rw [if_pos hP] at h; exact ha h
  · rw [if_neg hP] at h; exact hb h
theorem L7_X5_formOf {σ σ' : St} {p0 : Int32} {r : Nat} (h : M_X5_formOf σ p0 = some (σ', r)) : r < 7 := by
  suffices hz : ((σ', r) : St × Nat).2 < 7 from hz
  unfold M_X5_formOf at h
  generalize ((σ', r) : St × Nat) = z at h ⊢
  repeat (refine fo_if h (fun h => by cases h; exact Nat.le_of_ble_eq_true rfl) (fun h => ?_))
  cases h
theorem L_X5_formOf {E : Ev} {σ σ' : St} {p0 : Int32} {r : Nat} (h : M_X5_formOf σ p0 = some (σ', r)) : okS E r := okS_of (Nat.lt_of_lt_of_le (L7_X5_formOf h) (by decide))
def M_X5_readSign (σ : St) (k a0 : Nat) (p1 : Int32) : Option (St × Int32) := bcall (M_X4_signAt σ a0 (σ k 3)) fun σ1 r2 => if r2 = p1 then (bput σ1 k 3 ((σ1 k 3) + (1 : Int32)) fun σ3 => some (σ3, (1 : Int32))) else some (σ1, (0 : Int32))
set_option maxRecDepth 20000 in
set_option maxHeartbeats 4000000 in
theorem C_X5_readSign (l : Launch) (E : Ev) {σ σ' : St} {k : Nat} {a0 : Nat} {p1 : Int32} {r : Int32} (h : M_X5_readSign σ k a0 p1 = some (σ', r)) (hL : lay 5 k) (hA0 : lay 4 a0) : Mi l E yX5_readSign cX5_readSign 3 (some .boolean) 2 [.ref (E.1 k), .ref (E.1 a0), .int p1] σ σ' r := by
  refine Mi_of (C := RX5) rfl (by decide) (Nat.le_of_ble_eq_true rfl) (z := (σ', r)) (fun p e s m below meth c ls X hG hl => ?_)
  have hx := X.1.1.1
  have hb := X.1.1.2.1
  have hM := h
  unfold M_X5_readSign at hM
  generalize (σ', r) = z at hM ⊢
  have hl : lv_has ls 3 [(0, .ref (E.1 k)), (1, .ref (E.1 a0)), (2, .int p1)] := hl
  refine lv_aload_n hx hb dX5_readSign_0 rfl (lv_at hl 1 rfl) ?_
  refine lv_aload_n hx hb dX5_readSign_1 rfl (lv_at hl 0 rfl) ?_
  refine gt_5_3 X.1 hG hL mw289 dX5_readSign_2 ?_
  refine g_callV_i (nA := 1) (o := M_X4_signAt σ a0 (σ k 3)) (As := [.int (σ k 3)]) X.1 hG hA0 rfl rfl (fun _ _ h => C_X4_signAt l E h hA0) mw748 mw749 mw750 mw21 (gw_ok mw751 rfl) (by decide +kernel) rfl ⟨Nat.le_of_ble_eq_true rfl, Nat.le_of_ble_eq_true rfl⟩ hl.1 rfl (Nat.le_of_ble_eq_true rfl) ⟨Nat.le_refl _, Nat.le_refl _⟩ dX5_readSign_5 hM (fun σ1 r2 H locs hG hM => ?_)
  refine lv_iload_n hx hb dX5_readSign_8 rfl (lv_at hl 2 rfl) ?_
  refine lv_icmp_eq (tgt := 14) hx hb dX5_readSign_9 (by decide) (fun c4 => ?_) (fun c4 => ?_)
  · have hM := b_if hM c4
    refine lv_aload_n hx hb dX5_readSign_14 rfl (lv_at hl 0 rfl) ?_
    refine lv_dup hx hb dX5_readSign_15 rfl ?_
    refine gt_5_3 X.1 hG hL mw289 dX5_readSign_16 ?_
    refine lv_iconst (v := (1 : Int32)) hx hb dX5_readSign_19 (by decide) ?_
    refine lv_iadd hx hb dX5_readSign_20 ?_
    refine pt_5_3 X.1 hG hL mw289 dX5_readSign_21 hM (fun σ3 H locs hG hM => ?_)
    refine lv_iconst (v := (1 : Int32)) hx hb dX5_readSign_24 (by decide) ?_
    exact e_zret X hG (by decide) dX5_readSign_25 hM
  · have hM := b_else hM c4
    refine lv_iconst (v := (0 : Int32)) hx hb dX5_readSign_12 (by decide) ?_
    exact e_zret X hG (by decide) dX5_readSign_13 hM
def M_X5_isDigit (σ : St)  (p0 : Int32) : Option (St × Int32) := if p0 < (48 : Int32) then some (σ, (0 : Int32)) else (if (57 : Int32) < p0 then some (σ, (0 : Int32)) else some (σ, (1 : Int32)))
set_option maxRecDepth 20000 in
set_option maxHeartbeats 4000000 in
theorem C_X5_isDigit (l : Launch) (E : Ev) {σ σ' : St} {p0 : Int32} {r : Int32} (h : M_X5_isDigit σ p0 = some (σ', r)) : Mi l E yX5_isDigit cX5_isDigit 1 (some .boolean) 1 [.int p0] σ σ' r := by
  refine Mi_of (C := RX5) rfl (by decide) (Nat.le_of_ble_eq_true rfl) (z := (σ', r)) (fun p e s m below meth c ls X hG hl => ?_)
  have hx := X.1.1.1
  have hb := X.1.1.2.1
  have hM := h
  unfold M_X5_isDigit at hM
  generalize (σ', r) = z at hM ⊢
  have hl : lv_has ls 1 [(0, .int p0)] := hl
  refine lv_iload_n hx hb dX5_isDigit_0 rfl (lv_at hl 0 rfl) ?_
  refine lv_bipush (v := (48 : Int32)) hx hb dX5_isDigit_1 (by decide) ?_
  refine lv_icmp_lt (tgt := 16) hx hb dX5_isDigit_3 (by decide) (fun c2 => ?_) (fun c2 => ?_)
  · have hM := b_if hM c2
    refine lv_iconst (v := (0 : Int32)) hx hb dX5_isDigit_16 (by decide) ?_
    exact e_zret X hG (by decide) dX5_isDigit_17 hM
  · have hM := b_else hM c2
    refine lv_iload_n hx hb dX5_isDigit_6 rfl (lv_at hl 0 rfl) ?_
    refine lv_bipush (v := (57 : Int32)) hx hb dX5_isDigit_7 (by decide) ?_
    refine lv_icmp_gt (tgt := 16) hx hb dX5_isDigit_9 (by decide) (fun c1 => ?_) (fun c1 => ?_)
    · have hM := b_if hM c1
      refine lv_iconst (v := (0 : Int32)) hx hb dX5_isDigit_16 (by decide) ?_
      exact e_zret X hG (by decide) dX5_isDigit_17 hM
    · have hM := b_else hM c1
      refine lv_iconst (v := (1 : Int32)) hx hb dX5_isDigit_12 (by decide) ?_
      refine lv_goto (tgt := 17) hx hb dX5_isDigit_13 (by decide) ?_
      exact e_zret X hG (by decide) dX5_isDigit_17 hM
def M_X7_isWarned (σ : St) (k : Nat)  : Option (St × Int32) := if (σ k 5) < (3 : Int32) then some (σ, (0 : Int32)) else some (σ, (1 : Int32))
set_option maxRecDepth 20000 in
set_option maxHeartbeats 4000000 in
theorem C_X7_isWarned (l : Launch) (E : Ev) {σ σ' : St} {k : Nat} {r : Int32} (h : M_X7_isWarned σ k = some (σ', r)) (hL : lay 7 k) : Mi l E yX7_isWarned cX7_isWarned 1 (some .boolean) 1 [.ref (E.1 k)] σ σ' r := by
  refine Mi_of (C := RX7) rfl (by decide) (Nat.le_of_ble_eq_true rfl) (z := (σ', r)) (fun p e s m below meth c ls X hG hl => ?_)
  have hx := X.1.1.1
  have hb := X.1.1.2.1
  have hM := h
  unfold M_X7_isWarned at hM
  generalize (σ', r) = z at hM ⊢
  have hl : lv_has ls 1 [(0, .ref (E.1 k))] := hl
  refine lv_aload_n hx hb dX7_isWarned_0 rfl (lv_at hl 0 rfl) ?_
  refine gt_7_5 X.1 hG hL mw176 dX7_isWarned_1 ?_
  refine lv_iconst (v := (3 : Int32)) hx hb dX7_isWarned_4 (by decide) ?_
  refine lv_icmp_lt (tgt := 12) hx hb dX7_isWarned_5 (by decide) (fun c1 => ?_) (fun c1 => ?_)
  · have hM := b_if hM c1
    refine lv_iconst (v := (0 : Int32)) hx hb dX7_isWarned_12 (by decide) ?_
    exact e_zret X hG (by decide) dX7_isWarned_13 hM
  · have hM := b_else hM c1
    refine lv_iconst (v := (1 : Int32)) hx hb dX7_isWarned_8 (by decide) ?_
    refine lv_goto (tgt := 13) hx hb dX7_isWarned_9 (by decide) ?_
    exact e_zret X hG (by decide) dX7_isWarned_13 hM
def M_X9_has (σ : St) (k : Nat) (p0 : Int32) : Option (St × Int32) := if p0 < 0 then some (σ, (0 : Int32)) else (if (σ k 6) ≤ p0 then some (σ, (0 : Int32)) else some (σ, (1 : Int32)))
set_option maxRecDepth 20000 in
set_option maxHeartbeats 4000000 in
theorem C_X9_has (l : Launch) (E : Ev) {σ σ' : St} {k : Nat} {p0 : Int32} {r : Int32} (h : M_X9_has σ k p0 = some (σ', r)) (hL : lay 9 k) : Mi l E yX9_has cX9_has 2 (some .boolean) 1 [.ref (E.1 k), .int p0] σ σ' r := by
  refine Mi_of (C := RX9) rfl (by decide) (Nat.le_of_ble_eq_true rfl) (z := (σ', r)) (fun p e s m below meth c ls X hG hl => ?_)
  have hx := X.1.1.1
  have hb := X.1.1.2.1
  have hM := h
  unfold M_X9_has at hM
  generalize (σ', r) = z at hM ⊢
  have hl : lv_has ls 2 [(0, .ref (E.1 k)), (1, .int p0)] := hl
  refine lv_iload_n hx hb dX9_has_0 rfl (lv_at hl 1 rfl) ?_
  refine lv_if_lt (tgt := 16) hx hb dX9_has_1 (by decide) (fun c2 => ?_) (fun c2 => ?_)
  · have hM := b_if hM c2
    refine lv_iconst (v := (0 : Int32)) hx hb dX9_has_16 (by decide) ?_
    exact e_zret X hG (by decide) dX9_has_17 hM
  · have hM := b_else hM c2
    refine lv_iload_n hx hb dX9_has_4 rfl (lv_at hl 1 rfl) ?_
    refine lv_aload_n hx hb dX9_has_5 rfl (lv_at hl 0 rfl) ?_
    refine gt_9_6 X.1 hG hL mw103 dX9_has_6 ?_
    refine lv_icmp_ge (tgt := 16) hx hb dX9_has_9 (by decide) (fun c1 => ?_) (fun c1 => ?_)
    · have hM := b_if hM c1
      refine lv_iconst (v := (0 : Int32)) hx hb dX9_has_16 (by decide) ?_
      exact e_zret X hG (by decide) dX9_has_17 hM
    · have hM := b_else hM c1
      refine lv_iconst (v := (1 : Int32)) hx hb dX9_has_12 (by decide) ?_
      refine lv_goto (tgt := 17) hx hb dX9_has_13 (by decide) ?_
      exact e_zret X hG (by decide) dX9_has_17 hM
def M_X9_cutTo (σ : St) (k : Nat) (p0 : Int32) : Option (St × Int32) := blet (imin (σ k 6) p0) fun v1 => blet (imax v1 (0 : Int32)) fun v2 => bput σ k 6 v2 fun σ3 => some (σ3, 0)
set_option maxRecDepth 20000 in
set_option maxHeartbeats 4000000 in
theorem C_X9_cutTo (l : Launch) (E : Ev) {σ σ' : St} {k : Nat} {p0 : Int32} {r : Int32} (h : M_X9_cutTo σ k p0 = some (σ', r)) (hL : lay 9 k) : Mv l E yX9_cutTo cX9_cutTo 2 1 [.ref (E.1 k), .int p0] σ σ' := by
  refine Mv_of (C := RX9) rfl (by decide) (Nat.le_of_ble_eq_true rfl) (z := (σ', r)) (fun p e s m below meth c ls X hG hl => ?_)
  have hx := X.1.1.1
  have hb := X.1.1.2.1
  have hM := h
  unfold M_X9_cutTo at hM
  generalize (σ', r) = z at hM ⊢
  have hl : lv_has ls 2 [(0, .ref (E.1 k)), (1, .int p0)] := hl
  refine lv_aload_n hx hb dX9_cutTo_0 rfl (lv_at hl 0 rfl) ?_
  refine lv_aload_n hx hb dX9_cutTo_1 rfl (lv_at hl 0 rfl) ?_
  refine gt_9_6 X.1 hG hL mw103 dX9_cutTo_2 ?_
  refine lv_iload_n hx hb dX9_cutTo_5 rfl (lv_at hl 1 rfl) ?_
  refine g_min X.1 hl.1 mw346 (Nat.le_of_ble_eq_true rfl) (Nat.le_of_ble_eq_true rfl) (Nat.le_of_ble_eq_true rfl) (Nat.le_of_ble_eq_true rfl) dX9_cutTo_6 hM (fun v1 hM => ?_)
  refine lv_iconst (v := (0 : Int32)) hx hb dX9_cutTo_9 (by decide) ?_
  refine g_max X.1 hl.1 mw349 (Nat.le_of_ble_eq_true rfl) (Nat.le_of_ble_eq_true rfl) (Nat.le_of_ble_eq_true rfl) (Nat.le_of_ble_eq_true rfl) dX9_cutTo_10 hM (fun v2 hM => ?_)
  refine pt_9_6 X.1 hG hL mw103 dX9_cutTo_13 hM (fun σ3 H locs hG hM => ?_)
  exact e_vret X hG dX9_cutTo_16 hM
def M_X10_fault (σ : St) (k : Nat)  : Option (St × Int32) := some (σ, σ k 9)
set_option maxRecDepth 20000 in
set_option maxHeartbeats 4000000 in
theorem C_X10_fault (l : Launch) (E : Ev) {σ σ' : St} {k : Nat} {r : Int32} (h : M_X10_fault σ k = some (σ', r)) (hL : lay 10 k) : Mi l E yX10_fault cX10_fault 1 (some .int) 1 [.ref (E.1 k)] σ σ' r := by
  refine Mi_of (C := RX10) rfl (by decide) (Nat.le_of_ble_eq_true rfl) (z := (σ', r)) (fun p e s m below meth c ls X hG hl => ?_)
  have hx := X.1.1.1
  have hb := X.1.1.2.1
  have hM := h
  unfold M_X10_fault at hM
  generalize (σ', r) = z at hM ⊢
  have hl : lv_has ls 1 [(0, .ref (E.1 k))] := hl
  refine lv_aload_n hx hb dX10_fault_0 rfl (lv_at hl 0 rfl) ?_
  refine gt_10_9 X.1 hG hL mw308 dX10_fault_1 ?_
  exact e_iret X hG dX10_fault_4 hM
def M_X10_written (σ : St) (k : Nat) (p0 : Int32) : Option (St × Int32) := if p0 < 0 then some (σ, (-1 : Int32)) else (if p0 < (σ (k + 243) 1) then (bcall (M_X4_signAt σ (k + 243) p0) fun σ1 r2 => some (σ1, r2)) else some (σ, (-1 : Int32)))
set_option maxRecDepth 20000 in
set_option maxHeartbeats 4000000 in
theorem C_X10_written (l : Launch) (E : Ev) {σ σ' : St} {k : Nat} {p0 : Int32} {r : Int32} (h : M_X10_written σ k p0 = some (σ', r)) (hL : lay 10 k) : Mi l E yX10_written cX10_written 2 (some .int) 2 [.ref (E.1 k), .int p0] σ σ' r := by
  refine Mi_of (C := RX10) rfl (by decide) (Nat.le_of_ble_eq_true rfl) (z := (σ', r)) (fun p e s m below meth c ls X hG hl => ?_)
  have hx := X.1.1.1
  have hb := X.1.1.2.1
  have hM := h
  unfold M_X10_written at hM
  generalize (σ', r) = z at hM ⊢
  have hl : lv_has ls 2 [(0, .ref (E.1 k)), (1, .int p0)] := hl
  refine lv_iload_n hx hb dX10_written_0 rfl (lv_at hl 1 rfl) ?_
  refine lv_if_lt (tgt := 15) hx hb dX10_written_1 (by decide) (fun c4 => ?_) (fun c4 => ?_)
  · have hM := b_if hM c4
    refine lv_iconst (v := (-1 : Int32)) hx hb dX10_written_15 (by decide) ?_
    refine lv_goto (tgt := 27) hx hb dX10_written_16 (by decide) ?_
    exact e_iret X hG dX10_written_27 hM
  · have hM := b_else hM c4
    refine lv_iload_n hx hb dX10_written_4 rfl (lv_at hl 1 rfl) ?_
    refine lv_aload_n hx hb dX10_written_5 rfl (lv_at hl 0 rfl) ?_
    refine gt_10_6 X.1 hG hL mw305 dX10_written_6 ?_
    refine gtN_4_1 X.1 hG (lf_10_6 hL) mw272 dX10_written_9 ?_
    refine lv_icmp_lt (tgt := 19) hx hb dX10_written_12 (by decide) (fun c3 => ?_) (fun c3 => ?_)
    · have hM := b_if hM c3
      refine lv_aload_n hx hb dX10_written_19 rfl (lv_at hl 0 rfl) ?_
      refine gt_10_6 X.1 hG hL mw305 dX10_written_20 ?_
      refine lv_iload_n hx hb dX10_written_23 rfl (lv_at hl 1 rfl) ?_
      refine g_callV_i (nA := 1) (o := M_X4_signAt σ (k + 243) p0) (As := [.int p0]) X.1 hG (lf_10_6 hL) rfl rfl (fun _ _ h => C_X4_signAt l E h (lf_10_6 hL)) mw1049 mw749 mw750 mw21 (gw_ok mw751 rfl) (by decide +kernel) rfl ⟨Nat.le_of_ble_eq_true rfl, Nat.le_of_ble_eq_true rfl⟩ hl.1 rfl (Nat.le_of_ble_eq_true rfl) ⟨Nat.le_refl _, Nat.le_refl _⟩ dX10_written_24 hM (fun σ1 r2 H locs hG hM => ?_)
      exact e_iret X hG dX10_written_27 hM
    · have hM := b_else hM c3
      refine lv_iconst (v := (-1 : Int32)) hx hb dX10_written_15 (by decide) ?_
      refine lv_goto (tgt := 27) hx hb dX10_written_16 (by decide) ?_
      exact e_iret X hG dX10_written_27 hM
def M_X10_doneShare (σ : St) (k : Nat)  : Option (St × UInt64) := if (σ (k + 5) 9) = 0 then some (σ, FP.dconst0) else some (σ, FP.ddiv (FP.i2d (σ (k + 5) 10)) (FP.i2d (σ (k + 5) 9)))
set_option maxRecDepth 20000 in
set_option maxHeartbeats 4000000 in
theorem C_X10_doneShare (l : Launch) (E : Ev) {σ σ' : St} {k : Nat} {r : UInt64} (h : M_X10_doneShare σ k = some (σ', r)) (hL : lay 10 k) : Md l E yX10_doneShare cX10_doneShare 1 1 [.ref (E.1 k)] σ σ' r := by
  refine Md_of (C := RX10) rfl (by decide) (Nat.le_of_ble_eq_true rfl) (z := (σ', r)) (fun p e s m below meth c ls X hG hl => ?_)
  have hx := X.1.1.1
  have hb := X.1.1.2.1
  have hM := h
  unfold M_X10_doneShare at hM
  generalize (σ', r) = z at hM ⊢
  have hl : lv_has ls 1 [(0, .ref (E.1 k))] := hl
  refine lv_aload_n hx hb dX10_doneShare_0 rfl (lv_at hl 0 rfl) ?_
  refine gt_10_1 X.1 hG hL mw300 dX10_doneShare_1 ?_
  refine gtN_7_9 X.1 hG (lf_10_1 hL) mw190 dX10_doneShare_4 ?_
  refine lv_if_ne (tgt := 14) hx hb dX10_doneShare_7 (by decide) (fun c1 => ?_) (fun c1 => ?_)
  · have hM := b_else hM c1
    refine lv_aload_n hx hb dX10_doneShare_14 rfl (lv_at hl 0 rfl) ?_
    refine gt_10_1 X.1 hG hL mw300 dX10_doneShare_15 ?_
    refine gtN_7_10 X.1 hG (lf_10_1 hL) mw192 dX10_doneShare_18 ?_
    refine lv_i2d hx hb dX10_doneShare_21 ?_
    refine lv_aload_n hx hb dX10_doneShare_22 rfl (lv_at hl 0 rfl) ?_
    refine gt_10_1 X.1 hG hL mw300 dX10_doneShare_23 ?_
    refine gtN_7_9 X.1 hG (lf_10_1 hL) mw190 dX10_doneShare_26 ?_
    refine lv_i2d hx hb dX10_doneShare_29 ?_
    exact e_ddiv X hG dX10_doneShare_30 dX10_doneShare_31 hM
  · have hM := b_if hM c1
    refine lv_dconst0 hx hb dX10_doneShare_10 ?_
    refine lv_goto (tgt := 31) hx hb dX10_doneShare_11 (by decide) ?_
    exact e_dret X hG dX10_doneShare_31 hM
def M_X10_kept (σ : St) (k : Nat) (p0 : Int32) : Option (St × Int32) := if p0 < 0 then some (σ, p0) else (bcall (M_X2_keepNoted σ (k + 59)) fun σ1 r2 => some (σ1, p0))
set_option maxRecDepth 20000 in
set_option maxHeartbeats 4000000 in
theorem C_X10_kept (l : Launch) (E : Ev) {σ σ' : St} {k : Nat} {p0 : Int32} {r : Int32} (h : M_X10_kept σ k p0 = some (σ', r)) (hL : lay 10 k) : Mi l E yX10_kept cX10_kept 2 (some .int) 2 [.ref (E.1 k), .int p0] σ σ' r := by
  refine Mi_of (C := RX10) rfl (by decide) (Nat.le_of_ble_eq_true rfl) (z := (σ', r)) (fun p e s m below meth c ls X hG hl => ?_)
  have hx := X.1.1.1
  have hb := X.1.1.2.1
  have hM := h
  unfold M_X10_kept at hM
  generalize (σ', r) = z at hM ⊢
  have hl : lv_has ls 2 [(0, .ref (E.1 k)), (1, .int p0)] := hl
  refine lv_iload_n hx hb dX10_kept_0 rfl (lv_at hl 1 rfl) ?_
  refine lv_if_lt (tgt := 11) hx hb dX10_kept_1 (by decide) (fun c3 => ?_) (fun c3 => ?_)
  · have hM := b_if hM c3
    refine lv_iload_n hx hb dX10_kept_11 rfl (lv_at hl 1 rfl) ?_
    exact e_iret X hG dX10_kept_12 hM
  · have hM := b_else hM c3
    refine lv_aload_n hx hb dX10_kept_4 rfl (lv_at hl 0 rfl) ?_
    refine gt_10_4 X.1 hG hL mw303 dX10_kept_5 ?_
    refine g_callV_v (nA := 0) (o := M_X2_keepNoted σ (k + 59)) (As := []) X.1 hG (lf_10_4 hL) rfl rfl (fun _ _ h => C_X2_keepNoted l E h (lf_10_4 hL)) mw442 mw443 mw444 mw20 (gw_ok mw445 rfl) (by decide +kernel) rfl ⟨Nat.le_of_ble_eq_true rfl, Nat.le_of_ble_eq_true rfl⟩ hl.1 rfl (Nat.le_of_ble_eq_true rfl) ⟨Nat.le_refl _, Nat.le_refl _⟩ dX10_kept_8 hM (fun σ1 r2 H locs hG hM => ?_)
    refine lv_iload_n hx hb dX10_kept_11 rfl (lv_at hl 1 rfl) ?_
    exact e_iret X hG dX10_kept_12 hM
def M_X10_writeBare (σ : St) (k : Nat)  : Option (St × Int32) := bcall (M_X4_put σ (k + 243) (98 : Int32)) fun σ1 r2 => bcall (M_X4_put σ1 (k + 243) (97 : Int32)) fun σ3 r4 => bcall (M_X4_put σ3 (k + 243) (114 : Int32)) fun σ5 r6 => bcall (M_X4_put σ5 (k + 243) (101 : Int32)) fun σ7 r8 => some (σ7, 0)
set_option maxRecDepth 20000 in
set_option maxHeartbeats 4000000 in
theorem C_X10_writeBare (l : Launch) (E : Ev) {σ σ' : St} {k : Nat} {r : Int32} (h : M_X10_writeBare σ k = some (σ', r)) (hL : lay 10 k) : Mv l E yX10_writeBare cX10_writeBare 1 2 [.ref (E.1 k)] σ σ' := by
  refine Mv_of (C := RX10) rfl (by decide) (Nat.le_of_ble_eq_true rfl) (z := (σ', r)) (fun p e s m below meth c ls X hG hl => ?_)
  have hx := X.1.1.1
  have hb := X.1.1.2.1
  have hM := h
  unfold M_X10_writeBare at hM
  generalize (σ', r) = z at hM ⊢
  have hl : lv_has ls 1 [(0, .ref (E.1 k))] := hl
  refine lv_aload_n hx hb dX10_writeBare_0 rfl (lv_at hl 0 rfl) ?_
  refine gt_10_6 X.1 hG hL mw305 dX10_writeBare_1 ?_
  refine lv_bipush (v := (98 : Int32)) hx hb dX10_writeBare_4 (by decide) ?_
  refine g_callV_v (nA := 1) (o := M_X4_put σ (k + 243) (98 : Int32)) (As := [.int (98 : Int32)]) X.1 hG (lf_10_6 hL) rfl rfl (fun _ _ h => C_X4_put l E h (lf_10_6 hL)) mw371 mw372 mw373 mw21 (gw_ok mw374 rfl) (by decide +kernel) rfl ⟨Nat.le_of_ble_eq_true rfl, Nat.le_of_ble_eq_true rfl⟩ hl.1 rfl (Nat.le_of_ble_eq_true rfl) ⟨Nat.le_refl _, Nat.le_refl _⟩ dX10_writeBare_6 hM (fun σ1 r2 H locs hG hM => ?_)
  refine lv_aload_n hx hb dX10_writeBare_9 rfl (lv_at hl 0 rfl) ?_
  refine gt_10_6 X.1 hG hL mw305 dX10_writeBare_10 ?_
  refine lv_bipush (v := (97 : Int32)) hx hb dX10_writeBare_13 (by decide) ?_
  refine g_callV_v (nA := 1) (o := M_X4_put σ1 (k + 243) (97 : Int32)) (As := [.int (97 : Int32)]) X.1 hG (lf_10_6 hL) rfl rfl (fun _ _ h => C_X4_put l E h (lf_10_6 hL)) mw371 mw372 mw373 mw21 (gw_ok mw374 rfl) (by decide +kernel) rfl ⟨Nat.le_of_ble_eq_true rfl, Nat.le_of_ble_eq_true rfl⟩ hl.1 rfl (Nat.le_of_ble_eq_true rfl) ⟨Nat.le_refl _, Nat.le_refl _⟩ dX10_writeBare_15 hM (fun σ3 r4 H locs hG hM => ?_)
  refine lv_aload_n hx hb dX10_writeBare_18 rfl (lv_at hl 0 rfl) ?_
  refine gt_10_6 X.1 hG hL mw305 dX10_writeBare_19 ?_
  refine lv_bipush (v := (114 : Int32)) hx hb dX10_writeBare_22 (by decide) ?_
  refine g_callV_v (nA := 1) (o := M_X4_put σ3 (k + 243) (114 : Int32)) (As := [.int (114 : Int32)]) X.1 hG (lf_10_6 hL) rfl rfl (fun _ _ h => C_X4_put l E h (lf_10_6 hL)) mw371 mw372 mw373 mw21 (gw_ok mw374 rfl) (by decide +kernel) rfl ⟨Nat.le_of_ble_eq_true rfl, Nat.le_of_ble_eq_true rfl⟩ hl.1 rfl (Nat.le_of_ble_eq_true rfl) ⟨Nat.le_refl _, Nat.le_refl _⟩ dX10_writeBare_24 hM (fun σ5 r6 H locs hG hM => ?_)
  refine lv_aload_n hx hb dX10_writeBare_27 rfl (lv_at hl 0 rfl) ?_
  refine gt_10_6 X.1 hG hL mw305 dX10_writeBare_28 ?_
  refine lv_bipush (v := (101 : Int32)) hx hb dX10_writeBare_31 (by decide) ?_
  refine g_callV_v (nA := 1) (o := M_X4_put σ5 (k + 243) (101 : Int32)) (As := [.int (101 : Int32)]) X.1 hG (lf_10_6 hL) rfl rfl (fun _ _ h => C_X4_put l E h (lf_10_6 hL)) mw371 mw372 mw373 mw21 (gw_ok mw374 rfl) (by decide +kernel) rfl ⟨Nat.le_of_ble_eq_true rfl, Nat.le_of_ble_eq_true rfl⟩ hl.1 rfl (Nat.le_of_ble_eq_true rfl) ⟨Nat.le_refl _, Nat.le_refl _⟩ dX10_writeBare_33 hM (fun σ7 r8 H locs hG hM => ?_)
  exact e_vret X hG dX10_writeBare_36 hM
def M_X10_isWithin (σ : St)  (p0 p1 p2 : Int32) : Option (St × Int32) := if p0 < p1 then some (σ, (0 : Int32)) else (if p2 < p0 then some (σ, (0 : Int32)) else some (σ, (1 : Int32)))
set_option maxRecDepth 20000 in
set_option maxHeartbeats 4000000 in
theorem C_X10_isWithin (l : Launch) (E : Ev) {σ σ' : St} {p0 : Int32} {p1 : Int32} {p2 : Int32} {r : Int32} (h : M_X10_isWithin σ p0 p1 p2 = some (σ', r)) : Mi l E yX10_isWithin cX10_isWithin 3 (some .boolean) 1 [.int p0, .int p1, .int p2] σ σ' r := by
  refine Mi_of (C := RX10) rfl (by decide) (Nat.le_of_ble_eq_true rfl) (z := (σ', r)) (fun p e s m below meth c ls X hG hl => ?_)
  have hx := X.1.1.1
  have hb := X.1.1.2.1
  have hM := h
  unfold M_X10_isWithin at hM
  generalize (σ', r) = z at hM ⊢
  have hl : lv_has ls 3 [(0, .int p0), (1, .int p1), (2, .int p2)] := hl
  refine lv_iload_n hx hb dX10_isWithin_0 rfl (lv_at hl 0 rfl) ?_
  refine lv_iload_n hx hb dX10_isWithin_1 rfl (lv_at hl 1 rfl) ?_
  refine lv_icmp_lt (tgt := 14) hx hb dX10_isWithin_2 (by decide) (fun c2 => ?_) (fun c2 => ?_)
  · have hM := b_if hM c2
    refine lv_iconst (v := (0 : Int32)) hx hb dX10_isWithin_14 (by decide) ?_
    exact e_zret X hG (by decide) dX10_isWithin_15 hM
  · have hM := b_else hM c2
    refine lv_iload_n hx hb dX10_isWithin_5 rfl (lv_at hl 0 rfl) ?_
    refine lv_iload_n hx hb dX10_isWithin_6 rfl (lv_at hl 2 rfl) ?_
    refine lv_icmp_gt (tgt := 14) hx hb dX10_isWithin_7 (by decide) (fun c1 => ?_) (fun c1 => ?_)
    · have hM := b_if hM c1
      refine lv_iconst (v := (0 : Int32)) hx hb dX10_isWithin_14 (by decide) ?_
      exact e_zret X hG (by decide) dX10_isWithin_15 hM
    · have hM := b_else hM c1
      refine lv_iconst (v := (1 : Int32)) hx hb dX10_isWithin_10 (by decide) ?_
      refine lv_goto (tgt := 15) hx hb dX10_isWithin_11 (by decide) ?_
      exact e_zret X hG (by decide) dX10_isWithin_15 hM
def M_X10_at (σ : St) (a0 : Nat) (p1 : Int32) : Option (St × Int32) := if p1 < 0 then some (σ, (0 : Int32)) else (if (Int32.ofNat (ln a0)) ≤ p1 then some (σ, (0 : Int32)) else (bald σ a0 p1 fun q1 => some (σ, q1)))
set_option maxRecDepth 20000 in
set_option maxHeartbeats 4000000 in
theorem C_X10_at (l : Launch) (E : Ev) {σ σ' : St} {a0 : Nat} {p1 : Int32} {r : Int32} (h : M_X10_at σ a0 p1 = some (σ', r)) (hA0 : arr 13 a0) : Mi l E yX10_at cX10_at 2 (some .int) 1 [.ref (E.1 a0), .int p1] σ σ' r := by
  refine Mi_of (C := RX10) rfl (by decide) (Nat.le_of_ble_eq_true rfl) (z := (σ', r)) (fun p e s m below meth c ls X hG hl => ?_)
  have hx := X.1.1.1
  have hb := X.1.1.2.1
  have hM := h
  unfold M_X10_at at hM
  generalize (σ', r) = z at hM ⊢
  have hl : lv_has ls 2 [(0, .ref (E.1 a0)), (1, .int p1)] := hl
  refine lv_iload_n hx hb dX10_at_0 rfl (lv_at hl 1 rfl) ?_
  refine lv_if_lt (tgt := 16) hx hb dX10_at_1 (by decide) (fun c3 => ?_) (fun c3 => ?_)
  · have hM := b_if hM c3
    refine lv_iconst (v := (0 : Int32)) hx hb dX10_at_16 (by decide) ?_
    exact e_iret X hG dX10_at_17 hM
  · have hM := b_else hM c3
    refine lv_iload_n hx hb dX10_at_4 rfl (lv_at hl 1 rfl) ?_
    refine lv_aload_n hx hb dX10_at_5 rfl (lv_at hl 0 rfl) ?_
    refine g_len X.1 hG hA0 dX10_at_6 ?_
    refine lv_icmp_ge (tgt := 16) hx hb dX10_at_7 (by decide) (fun c2 => ?_) (fun c2 => ?_)
    · have hM := b_if hM c2
      refine lv_iconst (v := (0 : Int32)) hx hb dX10_at_16 (by decide) ?_
      exact e_iret X hG dX10_at_17 hM
    · have hM := b_else hM c2
      refine lv_aload_n hx hb dX10_at_10 rfl (lv_at hl 0 rfl) ?_
      refine lv_iload_n hx hb dX10_at_11 rfl (lv_at hl 1 rfl) ?_
      refine g_ald X.1 hG hA0 dX10_at_12 hM (fun q1 hM => ?_)
      refine lv_goto (tgt := 17) hx hb dX10_at_13 (by decide) ?_
      exact e_iret X hG dX10_at_17 hM
