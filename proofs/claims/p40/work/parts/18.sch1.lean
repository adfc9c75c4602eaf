
def cdA (x : Int32) : Nat := 4 * smN (x >>> ((3 : Int32) &&& 31)) 9 + smN (x >>> ((5 : Int32) &&& 31)) 4
def cdB (x : Int32) : Nat := 36 + 200 * smN (x >>> ((3 : Int32) &&& 31)) 4 + 20 * smN (x >>> ((5 : Int32) &&& 31)) 10 + 4 * smN (x >>> ((4 : Int32) &&& 31)) 5 + smN (x >>> ((5 : Int32) &&& 31)) 4
def dfl (x : Int32) : Nat := if (x >>> ((6 : Int32) &&& 31)) &&& 1 = 0 then cdA x else cdB x
def D_L_changes (σ : St) (k : Nat) (x : Int32) : Option (St × Int32) := bcall (M_L_reads σ k (16 + dfl x)) fun σ1 r => if r < 0 then some (σ1, (0 : Int32)) else some (σ1, (1 : Int32))
theorem dA_len {code : Nat} (h : code < 36) : lnS (16 + code) = 5 := by
  unfold lnS lnD
  rw [if_neg (by omega), Nat.add_sub_cancel_left, if_pos h]
theorem dB_len {code : Nat} (h : 36 ≤ code) : lnS (16 + code) = 9 := by
  unfold lnS lnD
  rw [if_neg (by omega), Nat.add_sub_cancel_left, if_neg (by omega)]
theorem d_by (code : Nat) : byS (16 + code) = dynS code := by
  unfold byS
  rw [if_neg (by omega), Nat.add_sub_cancel_left]
set_option maxRecDepth 20000 in
set_option maxHeartbeats 4000000 in
theorem w_dT {p : Program} {l : Launch} {e : Env} {s : State} {m : MethodId} {below : List Frame} {meth : Method} {c : Code} {args : Array Value} {E : Ev} {a0 : Nat} (X : Bx E p m meth c cL_changes 4 (some .boolean) s args RL) (hAn : ∀ q, s.heap.size ≤ q → AE E q) (hPV : PV s) (hT0 : eT E = 0) (hA0 : lay 10 a0) {x : Int32} (σ : St) (r : Int32) (H : Heap) (locs : List Loc) (ls : Array Slot) (z : St × Int32) (hG : GS E σ s.heap H locs) (hM : (if r < 0 then some (σ, (0 : Int32)) else some (σ, (1 : Int32))) = some z) (hl : lv_has ls 4 [(0, .ref (E.1 a0)), (1, .int x)]) : W p l e (rmA 9 4 40) s m args below meth c H locs (4) (40) (QIm E z below args s 4 40) (F0 m 502 ls [.int r]) := by
  have hx := X.1.1.1
  have hb := X.1.1.2.1
  refine lv_if_lt (tgt := 509) hx hb dL_changes_502 (by decide) (fun c1 => ?_) (fun c1 => ?_)
  · rw [if_pos c1] at hM
    refine lv_iconst (v := (0 : Int32)) hx hb dL_changes_509 (by decide) ?_
    exact e_zretM X hG (by decide) dL_changes_510 hM (Nat.le_of_ble_eq_true rfl) (Nat.le_of_ble_eq_true rfl)
  · rw [if_neg c1] at hM
    refine lv_iconst (v := (1 : Int32)) hx hb dL_changes_505 (by decide) ?_
    refine lv_goto (tgt := 510) hx hb dL_changes_506 (by decide) ?_
    exact e_zretM X hG (by decide) dL_changes_510 hM (Nat.le_of_ble_eq_true rfl) (Nat.le_of_ble_eq_true rfl)
set_option maxRecDepth 20000 in
set_option maxHeartbeats 4000000 in
theorem w_dA {p : Program} {l : Launch} {e : Env} {s : State} {m : MethodId} {below : List Frame} {meth : Method} {c : Code} {args : Array Value} {E : Ev} {a0 : Nat} (X : Bx E p m meth c cL_changes 4 (some .boolean) s args RL) (hAn : ∀ q, s.heap.size ≤ q → AE E q) (hPV : PV s) (hT0 : eT E = 0) (hA0 : lay 10 a0) {x : Int32} (σ : St)  (H : Heap) (locs : List Loc) (ls : Array Slot) (z : St × Int32) (hG : GS E σ s.heap H locs) (hM : bcall (M_L_reads σ a0 (16 + cdA x)) (fun σ1 r => if r < 0 then some (σ1, (0 : Int32)) else some (σ1, (1 : Int32))) = some z) (hl : lv_has ls 4 [(0, .ref (E.1 a0)), (1, .int x)]) : W p l e (rmA 9 4 40) s m args below meth c H locs (0) (0) (QIm E z below args s 4 40) (F0 m 384 ls [.ref (E.1 a0)]) := by
  have hx := X.1.1.1
  have hb := X.1.1.2.1
  have hG := XR.of hG
  refine x_newO (fs := [.null, .int 0, .int 0, .int 0]) X.1 hAn hG fnJ4 tyJ4 tyJ4_ok mw1119 mw1120 mw33 (ci := 12) rfl (by decide +kernel) (Nat.le_of_ble_eq_true rfl) (Nat.le_of_ble_eq_true rfl) dL_changes_384 (fun q H hG => ?_)
  refine lv_dup hx hb dL_changes_387 rfl ?_
  refine x_endv (va_runI X.1.1 (X_ini4 l E) (cwI 0 X.1.1.2.2.2.2 (gw_ok mw1123 rfl) rfl rfl rfl (X.1.1.2.2.2.2 _ (gw_in mw33 rfl)) (X.1.1.2.2.2.2 _ (gw_in mw1121 rfl)) (X.1.1.2.2.2.2 _ (gw_in mw1122 rfl)) rfl (by decide +kernel) ⟨Nat.le_of_ble_eq_true rfl, Nat.le_of_ble_eq_true rfl⟩) ⟨XN_blind, XN_pre X.1.2.1 X.1.2.2.1 X.1.2.2.2 hAn hPV hG _⟩ rfl rfl hl.1 rfl (lv_room (Nat.le_of_ble_eq_true rfl)) dL_changes_388 ⟨Nat.le_of_ble_eq_true rfl, Nat.le_of_ble_eq_true rfl⟩) hG (fun u H locs hu hG => ?_)
  obtain ⟨v, rfl⟩ := hu
  have hG : XR E σ [(q, sbC v (Int32.ofNat 0)), (v, arB E (fun _ => 0))] s.heap H locs := hG
  refine g_ldcS X.1 (i := 7) (by decide) rfl rfl dL_changes_391 ?_
  refine x_endr (va_runV X.1.1 (X_ap4 l E (q := q) (v := v) (n := 0) (f := (fun _ => 0)) (okS_of (by decide : 7 < 16)) (by decide) (ln_fit 7 (by decide) (by decide) (by decide))) (cwV 1 X.1.1.2.2.2.2 (gw_v mw1150 mw1151 mw1152 mw33 (gw_ok mw1153 rfl)) rfl rfl rfl ⟨rfl, by decide +kernel⟩ ⟨Nat.le_of_ble_eq_true rfl, Nat.le_of_ble_eq_true rfl⟩) ⟨XN_blind, x_recv X.1 hG (i := 0) rfl rfl, XN_pre X.1.2.1 X.1.2.2.1 X.1.2.2.2 hAn hPV hG _⟩ rfl rfl hl.1 rfl (lv_room (Nat.le_of_ble_eq_true rfl)) dL_changes_393 ⟨Nat.le_of_ble_eq_true rfl, Nat.le_of_ble_eq_true rfl⟩) hG (fun r u H locs hu hG => ?_)
  obtain ⟨e91, rfl⟩ := hu
  rw [e91]
  refine lv_iload_n hx hb dL_changes_396 rfl (lv_at hl 1 rfl) ?_
  refine lv_iconst (v := (3 : Int32)) hx hb dL_changes_397 (by decide) ?_
  refine lv_ishr hx hb dL_changes_398 ?_
  refine lv_bipush (v := (9 : Int32)) hx hb dL_changes_399 (by decide) ?_
  refine x_cutS (nA := 2) (As := [.int (x >>> ((3 : Int32) &&& 31)), .int (9 : Int32)]) X.1 hG (C_L_some l (eN E _) (some_eq σ _ (n := 9) (by decide) (by decide))) mw1009 mw1010 mw11 (gw_ok mw1011 rfl) (by decide +kernel) rfl ⟨Nat.le_of_ble_eq_true rfl, Nat.le_of_ble_eq_true rfl⟩ hl.1 rfl (Nat.le_of_ble_eq_true rfl) ⟨Nat.le_of_ble_eq_true rfl, Nat.le_of_ble_eq_true rfl⟩ dL_changes_401 (fun H locs hG => ?_)
  have b1 := smN_lt (x >>> ((3 : Int32) &&& 31)) (n := 9) (by decide)
  refine x_endr (va_runV X.1.1 (X_ai4 l E (q := q) (v := v) (n := 0 + lnS 7) (f := (cpT 7 (fun _ => 0) 0)) (by omega) (by decide)) (cwV 1 X.1.1.2.2.2.2 (gw_v mw1245 mw1246 mw1247 mw33 (gw_ok mw1248 rfl)) rfl rfl rfl ⟨rfl, by decide +kernel⟩ ⟨Nat.le_of_ble_eq_true rfl, Nat.le_of_ble_eq_true rfl⟩) ⟨XN_blind, x_recv X.1 hG (i := 0) rfl rfl, XN_pre X.1.2.1 X.1.2.2.1 X.1.2.2.2 hAn hPV hG _⟩ rfl rfl hl.1 rfl (lv_room (Nat.le_of_ble_eq_true rfl)) dL_changes_404 ⟨Nat.le_of_ble_eq_true rfl, Nat.le_of_ble_eq_true rfl⟩) hG (fun r u H locs hu hG => ?_)
  obtain ⟨e91, rfl⟩ := hu
  rw [e91]
  refine g_ldcS X.1 (i := 8) (by decide) rfl rfl dL_changes_407 ?_
  refine x_endr (va_runV X.1.1 (X_ap4 l E (q := q) (v := v) (n := 0 + lnS 7 + 1) (f := (upd (cpT 7 (fun _ => 0) 0) (0 + lnS 7) (vp_nar .byte (Int32.ofNat (48 + smN (x >>> ((3 : Int32) &&& 31)) 9))))) (okS_of (by decide : 8 < 16)) (by decide) (ln_fit 8 (by decide) (by decide) (by decide))) (cwV 1 X.1.1.2.2.2.2 (gw_v mw1150 mw1151 mw1152 mw33 (gw_ok mw1153 rfl)) rfl rfl rfl ⟨rfl, by decide +kernel⟩ ⟨Nat.le_of_ble_eq_true rfl, Nat.le_of_ble_eq_true rfl⟩) ⟨XN_blind, x_recv X.1 hG (i := 0) rfl rfl, XN_pre X.1.2.1 X.1.2.2.1 X.1.2.2.2 hAn hPV hG _⟩ rfl rfl hl.1 rfl (lv_room (Nat.le_of_ble_eq_true rfl)) dL_changes_409 ⟨Nat.le_of_ble_eq_true rfl, Nat.le_of_ble_eq_true rfl⟩) hG (fun r u H locs hu hG => ?_)
  obtain ⟨e91, rfl⟩ := hu
  rw [e91]
  refine lv_iload_n hx hb dL_changes_412 rfl (lv_at hl 1 rfl) ?_
  refine lv_iconst (v := (5 : Int32)) hx hb dL_changes_413 (by decide) ?_
  refine lv_ishr hx hb dL_changes_414 ?_
  refine lv_iconst (v := (4 : Int32)) hx hb dL_changes_415 (by decide) ?_
  refine x_cutS (nA := 2) (As := [.int (x >>> ((5 : Int32) &&& 31)), .int (4 : Int32)]) X.1 hG (C_L_some l (eN E _) (some_eq σ _ (n := 4) (by decide) (by decide))) mw1009 mw1010 mw11 (gw_ok mw1011 rfl) (by decide +kernel) rfl ⟨Nat.le_of_ble_eq_true rfl, Nat.le_of_ble_eq_true rfl⟩ hl.1 rfl (Nat.le_of_ble_eq_true rfl) ⟨Nat.le_of_ble_eq_true rfl, Nat.le_of_ble_eq_true rfl⟩ dL_changes_416 (fun H locs hG => ?_)
  have b2 := smN_lt (x >>> ((5 : Int32) &&& 31)) (n := 4) (by decide)
  refine x_endr (va_runV X.1.1 (X_ai4 l E (q := q) (v := v) (n := 0 + lnS 7 + 1 + lnS 8) (f := (cpT 8 (upd (cpT 7 (fun _ => 0) 0) (0 + lnS 7) (vp_nar .byte (Int32.ofNat (48 + smN (x >>> ((3 : Int32) &&& 31)) 9)))) (0 + lnS 7 + 1))) (by omega) (by decide)) (cwV 1 X.1.1.2.2.2.2 (gw_v mw1245 mw1246 mw1247 mw33 (gw_ok mw1248 rfl)) rfl rfl rfl ⟨rfl, by decide +kernel⟩ ⟨Nat.le_of_ble_eq_true rfl, Nat.le_of_ble_eq_true rfl⟩) ⟨XN_blind, x_recv X.1 hG (i := 0) rfl rfl, XN_pre X.1.2.1 X.1.2.2.1 X.1.2.2.2 hAn hPV hG _⟩ rfl rfl hl.1 rfl (lv_room (Nat.le_of_ble_eq_true rfl)) dL_changes_419 ⟨Nat.le_of_ble_eq_true rfl, Nat.le_of_ble_eq_true rfl⟩) hG (fun r u H locs hu hG => ?_)
  obtain ⟨e91, rfl⟩ := hu
  rw [e91]
  have hfe : ∀ j, j < 5 → (upd (cpT 8 (upd (cpT 7 (fun _ => 0) 0) (0 + lnS 7) (vp_nar .byte (Int32.ofNat (48 + smN (x >>> ((3 : Int32) &&& 31)) 9)))) (0 + lnS 7 + 1)) (0 + lnS 7 + 1 + lnS 8) (vp_nar .byte (Int32.ofNat (48 + smN (x >>> ((5 : Int32) &&& 31)) 4)))) j = (dynS (cdA x)).getD j 0 := fun j hj => fA_eq _ b1 _ b2 j hj
  have hfi : ∀ j, j < 5 → fits .byte (.int ((upd (cpT 8 (upd (cpT 7 (fun _ => 0) 0) (0 + lnS 7) (vp_nar .byte (Int32.ofNat (48 + smN (x >>> ((3 : Int32) &&& 31)) 9)))) (0 + lnS 7 + 1)) (0 + lnS 7 + 1 + lnS 8) (vp_nar .byte (Int32.ofNat (48 + smN (x >>> ((5 : Int32) &&& 31)) 4)))) j)) = true := fun j hj => by rw [hfe j hj]; exact fA_fit _ b1 _ b2 j hj
  refine x_endr (va_runV X.1.1 (X_tos l E (q := q) (v := v) (n := 0 + lnS 7 + 1 + lnS 8 + 1) (f := (upd (cpT 8 (upd (cpT 7 (fun _ => 0) 0) (0 + lnS 7) (vp_nar .byte (Int32.ofNat (48 + smN (x >>> ((3 : Int32) &&& 31)) 9)))) (0 + lnS 7 + 1)) (0 + lnS 7 + 1 + lnS 8) (vp_nar .byte (Int32.ofNat (48 + smN (x >>> ((5 : Int32) &&& 31)) 4))))) (by decide) (fun j hj => hfi j hj)) (cwV 0 X.1.1.2.2.2.2 (gw_v mw1271 mw1272 mw1273 mw33 (gw_ok mw1274 rfl)) rfl rfl rfl ⟨rfl, by decide +kernel⟩ ⟨Nat.le_of_ble_eq_true rfl, Nat.le_of_ble_eq_true rfl⟩) ⟨XN_blind, x_recv X.1 hG (i := 0) rfl rfl, XN_pre X.1.2.1 X.1.2.2.1 X.1.2.2.2 hAn hPV hG _⟩ rfl rfl hl.1 rfl (lv_room (Nat.le_of_ble_eq_true rfl)) dL_changes_422 ⟨Nat.le_of_ble_eq_true rfl, Nat.le_of_ble_eq_true rfl⟩) hG (fun sa u H locs hu hG => ?_)
  obtain ⟨ra, rfl⟩ := hu
  refine lv_goto (tgt := 499) hx hb dL_changes_425 (by decide) ?_
  refine x_reads X.1 hT0 hG (dA_len (by unfold cdA; omega)).symm (fun j hj => ?_) hA0 mw1332 ⟨Nat.le_of_ble_eq_true rfl, Nat.le_of_ble_eq_true rfl⟩ hl.1 (Nat.le_of_ble_eq_true rfl) ⟨Nat.le_of_ble_eq_true rfl, Nat.le_of_ble_eq_true rfl⟩ dL_changes_499 hM (fun σ1 r1 H locs hG hM => ?_)
  · rw [d_by]
    have hj : j < 5 := hj
    rw [← hfe j hj]
    show va_cpy _ _ 0 0 5 j = _
    unfold va_cpy
    rw [if_pos ⟨Nat.zero_le _, by omega⟩]
    show (upd (cpT 8 (upd (cpT 7 (fun _ => 0) 0) (0 + lnS 7) (vp_nar .byte (Int32.ofNat (48 + smN (x >>> ((3 : Int32) &&& 31)) 9)))) (0 + lnS 7 + 1)) (0 + lnS 7 + 1 + lnS 8) (vp_nar .byte (Int32.ofNat (48 + smN (x >>> ((5 : Int32) &&& 31)) 4)))) (0 + (j - 0)) = (upd (cpT 8 (upd (cpT 7 (fun _ => 0) 0) (0 + lnS 7) (vp_nar .byte (Int32.ofNat (48 + smN (x >>> ((3 : Int32) &&& 31)) 9)))) (0 + lnS 7 + 1)) (0 + lnS 7 + 1 + lnS 8) (vp_nar .byte (Int32.ofNat (48 + smN (x >>> ((5 : Int32) &&& 31)) 4)))) j
    rw [Nat.sub_zero, show 0 + j = j from Nat.zero_add j]
  · exact w_dT X hAn hPV hT0 hA0 σ1 r1 H locs ls z hG hM hl
set_option maxRecDepth 20000 in
set_option maxHeartbeats 4000000 in
theorem w_dB {p : Program} {l : Launch} {e : Env} {s : State} {m : MethodId} {below : List Frame} {meth : Method} {c : Code} {args : Array Value} {E : Ev} {a0 : Nat} (X : Bx E p m meth c cL_changes 4 (some .boolean) s args RL) (hAn : ∀ q, s.heap.size ≤ q → AE E q) (hPV : PV s) (hT0 : eT E = 0) (hA0 : lay 10 a0) {x : Int32} (σ : St)  (H : Heap) (locs : List Loc) (ls : Array Slot) (z : St × Int32) (hG : GS E σ s.heap H locs) (hM : bcall (M_L_reads σ a0 (16 + cdB x)) (fun σ1 r => if r < 0 then some (σ1, (0 : Int32)) else some (σ1, (1 : Int32))) = some z) (hl : lv_has ls 4 [(0, .ref (E.1 a0)), (1, .int x)]) : W p l e (rmA 9 4 40) s m args below meth c H locs (0) (0) (QIm E z below args s 4 40) (F0 m 428 ls [.ref (E.1 a0)]) := by
  have hx := X.1.1.1
  have hb := X.1.1.2.1
  have hG := XR.of hG
  refine x_newO (fs := [.null, .int 0, .int 0, .int 0]) X.1 hAn hG fnJ4 tyJ4 tyJ4_ok mw1119 mw1120 mw33 (ci := 12) rfl (by decide +kernel) (Nat.le_of_ble_eq_true rfl) (Nat.le_of_ble_eq_true rfl) dL_changes_428 (fun q H hG => ?_)
  refine lv_dup hx hb dL_changes_431 rfl ?_
  refine x_endv (va_runI X.1.1 (X_ini4 l E) (cwI 0 X.1.1.2.2.2.2 (gw_ok mw1123 rfl) rfl rfl rfl (X.1.1.2.2.2.2 _ (gw_in mw33 rfl)) (X.1.1.2.2.2.2 _ (gw_in mw1121 rfl)) (X.1.1.2.2.2.2 _ (gw_in mw1122 rfl)) rfl (by decide +kernel) ⟨Nat.le_of_ble_eq_true rfl, Nat.le_of_ble_eq_true rfl⟩) ⟨XN_blind, XN_pre X.1.2.1 X.1.2.2.1 X.1.2.2.2 hAn hPV hG _⟩ rfl rfl hl.1 rfl (lv_room (Nat.le_of_ble_eq_true rfl)) dL_changes_432 ⟨Nat.le_of_ble_eq_true rfl, Nat.le_of_ble_eq_true rfl⟩) hG (fun u H locs hu hG => ?_)
  obtain ⟨v, rfl⟩ := hu
  have hG : XR E σ [(q, sbC v (Int32.ofNat 0)), (v, arB E (fun _ => 0))] s.heap H locs := hG
  refine g_ldcS X.1 (i := 9) (by decide) rfl rfl dL_changes_435 ?_
  refine x_endr (va_runV X.1.1 (X_ap4 l E (q := q) (v := v) (n := 0) (f := (fun _ => 0)) (okS_of (by decide : 9 < 16)) (by decide) (ln_fit 9 (by decide) (by decide) (by decide))) (cwV 1 X.1.1.2.2.2.2 (gw_v mw1150 mw1151 mw1152 mw33 (gw_ok mw1153 rfl)) rfl rfl rfl ⟨rfl, by decide +kernel⟩ ⟨Nat.le_of_ble_eq_true rfl, Nat.le_of_ble_eq_true rfl⟩) ⟨XN_blind, x_recv X.1 hG (i := 0) rfl rfl, XN_pre X.1.2.1 X.1.2.2.1 X.1.2.2.2 hAn hPV hG _⟩ rfl rfl hl.1 rfl (lv_room (Nat.le_of_ble_eq_true rfl)) dL_changes_437 ⟨Nat.le_of_ble_eq_true rfl, Nat.le_of_ble_eq_true rfl⟩) hG (fun r u H locs hu hG => ?_)
  obtain ⟨e91, rfl⟩ := hu
  rw [e91]
  refine lv_iload_n hx hb dL_changes_440 rfl (lv_at hl 1 rfl) ?_
  refine lv_iconst (v := (3 : Int32)) hx hb dL_changes_441 (by decide) ?_
  refine lv_ishr hx hb dL_changes_442 ?_
  refine lv_iconst (v := (4 : Int32)) hx hb dL_changes_443 (by decide) ?_
  refine x_cutS (nA := 2) (As := [.int (x >>> ((3 : Int32) &&& 31)), .int (4 : Int32)]) X.1 hG (C_L_some l (eN E _) (some_eq σ _ (n := 4) (by decide) (by decide))) mw1009 mw1010 mw11 (gw_ok mw1011 rfl) (by decide +kernel) rfl ⟨Nat.le_of_ble_eq_true rfl, Nat.le_of_ble_eq_true rfl⟩ hl.1 rfl (Nat.le_of_ble_eq_true rfl) ⟨Nat.le_of_ble_eq_true rfl, Nat.le_of_ble_eq_true rfl⟩ dL_changes_444 (fun H locs hG => ?_)
  have b1 := smN_lt (x >>> ((3 : Int32) &&& 31)) (n := 4) (by decide)
  refine x_endr (va_runV X.1.1 (X_ai4 l E (q := q) (v := v) (n := 0 + lnS 9) (f := (cpT 9 (fun _ => 0) 0)) (by omega) (by decide)) (cwV 1 X.1.1.2.2.2.2 (gw_v mw1245 mw1246 mw1247 mw33 (gw_ok mw1248 rfl)) rfl rfl rfl ⟨rfl, by decide +kernel⟩ ⟨Nat.le_of_ble_eq_true rfl, Nat.le_of_ble_eq_true rfl⟩) ⟨XN_blind, x_recv X.1 hG (i := 0) rfl rfl, XN_pre X.1.2.1 X.1.2.2.1 X.1.2.2.2 hAn hPV hG _⟩ rfl rfl hl.1 rfl (lv_room (Nat.le_of_ble_eq_true rfl)) dL_changes_447 ⟨Nat.le_of_ble_eq_true rfl, Nat.le_of_ble_eq_true rfl⟩) hG (fun r u H locs hu hG => ?_)
  obtain ⟨e91, rfl⟩ := hu
  rw [e91]
  refine g_ldcS X.1 (i := 10) (by decide) rfl rfl dL_changes_450 ?_
  refine x_endr (va_runV X.1.1 (X_ap4 l E (q := q) (v := v) (n := 0 + lnS 9 + 1) (f := (upd (cpT 9 (fun _ => 0) 0) (0 + lnS 9) (vp_nar .byte (Int32.ofNat (48 + smN (x >>> ((3 : Int32) &&& 31)) 4))))) (okS_of (by decide : 10 < 16)) (by decide) (ln_fit 10 (by decide) (by decide) (by decide))) (cwV 1 X.1.1.2.2.2.2 (gw_v mw1150 mw1151 mw1152 mw33 (gw_ok mw1153 rfl)) rfl rfl rfl ⟨rfl, by decide +kernel⟩ ⟨Nat.le_of_ble_eq_true rfl, Nat.le_of_ble_eq_true rfl⟩) ⟨XN_blind, x_recv X.1 hG (i := 0) rfl rfl, XN_pre X.1.2.1 X.1.2.2.1 X.1.2.2.2 hAn hPV hG _⟩ rfl rfl hl.1 rfl (lv_room (Nat.le_of_ble_eq_true rfl)) dL_changes_452 ⟨Nat.le_of_ble_eq_true rfl, Nat.le_of_ble_eq_true rfl⟩) hG (fun r u H locs hu hG => ?_)
  obtain ⟨e91, rfl⟩ := hu
  rw [e91]
  refine lv_iload_n hx hb dL_changes_455 rfl (lv_at hl 1 rfl) ?_
  refine lv_iconst (v := (5 : Int32)) hx hb dL_changes_456 (by decide) ?_
  refine lv_ishr hx hb dL_changes_457 ?_
  refine lv_bipush (v := (10 : Int32)) hx hb dL_changes_458 (by decide) ?_
  refine x_cutS (nA := 2) (As := [.int (x >>> ((5 : Int32) &&& 31)), .int (10 : Int32)]) X.1 hG (C_L_some l (eN E _) (some_eq σ _ (n := 10) (by decide) (by decide))) mw1009 mw1010 mw11 (gw_ok mw1011 rfl) (by decide +kernel) rfl ⟨Nat.le_of_ble_eq_true rfl, Nat.le_of_ble_eq_true rfl⟩ hl.1 rfl (Nat.le_of_ble_eq_true rfl) ⟨Nat.le_of_ble_eq_true rfl, Nat.le_of_ble_eq_true rfl⟩ dL_changes_460 (fun H locs hG => ?_)
  have b2 := smN_lt (x >>> ((5 : Int32) &&& 31)) (n := 10) (by decide)
  refine x_endr (va_runV X.1.1 (X_ai4 l E (q := q) (v := v) (n := 0 + lnS 9 + 1 + lnS 10) (f := (cpT 10 (upd (cpT 9 (fun _ => 0) 0) (0 + lnS 9) (vp_nar .byte (Int32.ofNat (48 + smN (x >>> ((3 : Int32) &&& 31)) 4)))) (0 + lnS 9 + 1))) (by omega) (by decide)) (cwV 1 X.1.1.2.2.2.2 (gw_v mw1245 mw1246 mw1247 mw33 (gw_ok mw1248 rfl)) rfl rfl rfl ⟨rfl, by decide +kernel⟩ ⟨Nat.le_of_ble_eq_true rfl, Nat.le_of_ble_eq_true rfl⟩) ⟨XN_blind, x_recv X.1 hG (i := 0) rfl rfl, XN_pre X.1.2.1 X.1.2.2.1 X.1.2.2.2 hAn hPV hG _⟩ rfl rfl hl.1 rfl (lv_room (Nat.le_of_ble_eq_true rfl)) dL_changes_463 ⟨Nat.le_of_ble_eq_true rfl, Nat.le_of_ble_eq_true rfl⟩) hG (fun r u H locs hu hG => ?_)
  obtain ⟨e91, rfl⟩ := hu
  rw [e91]
  refine g_ldcS X.1 (i := 11) (by decide) rfl rfl dL_changes_466 ?_
  refine x_endr (va_runV X.1.1 (X_ap4 l E (q := q) (v := v) (n := 0 + lnS 9 + 1 + lnS 10 + 1) (f := (upd (cpT 10 (upd (cpT 9 (fun _ => 0) 0) (0 + lnS 9) (vp_nar .byte (Int32.ofNat (48 + smN (x >>> ((3 : Int32) &&& 31)) 4)))) (0 + lnS 9 + 1)) (0 + lnS 9 + 1 + lnS 10) (vp_nar .byte (Int32.ofNat (48 + smN (x >>> ((5 : Int32) &&& 31)) 10))))) (okS_of (by decide : 11 < 16)) (by decide) (ln_fit 11 (by decide) (by decide) (by decide))) (cwV 1 X.1.1.2.2.2.2 (gw_v mw1150 mw1151 mw1152 mw33 (gw_ok mw1153 rfl)) rfl rfl rfl ⟨rfl, by decide +kernel⟩ ⟨Nat.le_of_ble_eq_true rfl, Nat.le_of_ble_eq_true rfl⟩) ⟨XN_blind, x_recv X.1 hG (i := 0) rfl rfl, XN_pre X.1.2.1 X.1.2.2.1 X.1.2.2.2 hAn hPV hG _⟩ rfl rfl hl.1 rfl (lv_room (Nat.le_of_ble_eq_true rfl)) dL_changes_468 ⟨Nat.le_of_ble_eq_true rfl, Nat.le_of_ble_eq_true rfl⟩) hG (fun r u H locs hu hG => ?_)
  obtain ⟨e91, rfl⟩ := hu
  rw [e91]
  refine lv_iload_n hx hb dL_changes_471 rfl (lv_at hl 1 rfl) ?_
  refine lv_iconst (v := (4 : Int32)) hx hb dL_changes_472 (by decide) ?_
  refine lv_ishr hx hb dL_changes_473 ?_
  refine lv_iconst (v := (5 : Int32)) hx hb dL_changes_474 (by decide) ?_
  refine x_cutS (nA := 2) (As := [.int (x >>> ((4 : Int32) &&& 31)), .int (5 : Int32)]) X.1 hG (C_L_some l (eN E _) (some_eq σ _ (n := 5) (by decide) (by decide))) mw1009 mw1010 mw11 (gw_ok mw1011 rfl) (by decide +kernel) rfl ⟨Nat.le_of_ble_eq_true rfl, Nat.le_of_ble_eq_true rfl⟩ hl.1 rfl (Nat.le_of_ble_eq_true rfl) ⟨Nat.le_of_ble_eq_true rfl, Nat.le_of_ble_eq_true rfl⟩ dL_changes_475 (fun H locs hG => ?_)
  have b3 := smN_lt (x >>> ((4 : Int32) &&& 31)) (n := 5) (by decide)
  refine x_endr (va_runV X.1.1 (X_ai4 l E (q := q) (v := v) (n := 0 + lnS 9 + 1 + lnS 10 + 1 + lnS 11) (f := (cpT 11 (upd (cpT 10 (upd (cpT 9 (fun _ => 0) 0) (0 + lnS 9) (vp_nar .byte (Int32.ofNat (48 + smN (x >>> ((3 : Int32) &&& 31)) 4)))) (0 + lnS 9 + 1)) (0 + lnS 9 + 1 + lnS 10) (vp_nar .byte (Int32.ofNat (48 + smN (x >>> ((5 : Int32) &&& 31)) 10)))) (0 + lnS 9 + 1 + lnS 10 + 1))) (by omega) (by decide)) (cwV 1 X.1.1.2.2.2.2 (gw_v mw1245 mw1246 mw1247 mw33 (gw_ok mw1248 rfl)) rfl rfl rfl ⟨rfl, by decide +kernel⟩ ⟨Nat.le_of_ble_eq_true rfl, Nat.le_of_ble_eq_true rfl⟩) ⟨XN_blind, x_recv X.1 hG (i := 0) rfl rfl, XN_pre X.1.2.1 X.1.2.2.1 X.1.2.2.2 hAn hPV hG _⟩ rfl rfl hl.1 rfl (lv_room (Nat.le_of_ble_eq_true rfl)) dL_changes_478 ⟨Nat.le_of_ble_eq_true rfl, Nat.le_of_ble_eq_true rfl⟩) hG (fun r u H locs hu hG => ?_)
  obtain ⟨e91, rfl⟩ := hu
  rw [e91]
  refine g_ldcS X.1 (i := 12) (by decide) rfl rfl dL_changes_481 ?_
  refine x_endr (va_runV X.1.1 (X_ap4 l E (q := q) (v := v) (n := 0 + lnS 9 + 1 + lnS 10 + 1 + lnS 11 + 1) (f := (upd (cpT 11 (upd (cpT 10 (upd (cpT 9 (fun _ => 0) 0) (0 + lnS 9) (vp_nar .byte (Int32.ofNat (48 + smN (x >>> ((3 : Int32) &&& 31)) 4)))) (0 + lnS 9 + 1)) (0 + lnS 9 + 1 + lnS 10) (vp_nar .byte (Int32.ofNat (48 + smN (x >>> ((5 : Int32) &&& 31)) 10)))) (0 + lnS 9 + 1 + lnS 10 + 1)) (0 + lnS 9 + 1 + lnS 10 + 1 + lnS 11) (vp_nar .byte (Int32.ofNat (48 + smN (x >>> ((4 : Int32) &&& 31)) 5))))) (okS_of (by decide : 12 < 16)) (by decide) (ln_fit 12 (by decide) (by decide) (by decide))) (cwV 1 X.1.1.2.2.2.2 (gw_v mw1150 mw1151 mw1152 mw33 (gw_ok mw1153 rfl)) rfl rfl rfl ⟨rfl, by decide +kernel⟩ ⟨Nat.le_of_ble_eq_true rfl, Nat.le_of_ble_eq_true rfl⟩) ⟨XN_blind, x_recv X.1 hG (i := 0) rfl rfl, XN_pre X.1.2.1 X.1.2.2.1 X.1.2.2.2 hAn hPV hG _⟩ rfl rfl hl.1 rfl (lv_room (Nat.le_of_ble_eq_true rfl)) dL_changes_483 ⟨Nat.le_of_ble_eq_true rfl, Nat.le_of_ble_eq_true rfl⟩) hG (fun r u H locs hu hG => ?_)
  obtain ⟨e91, rfl⟩ := hu
  rw [e91]
  refine lv_iload_n hx hb dL_changes_486 rfl (lv_at hl 1 rfl) ?_
  refine lv_iconst (v := (5 : Int32)) hx hb dL_changes_487 (by decide) ?_
  refine lv_ishr hx hb dL_changes_488 ?_
  refine lv_iconst (v := (4 : Int32)) hx hb dL_changes_489 (by decide) ?_
  refine x_cutS (nA := 2) (As := [.int (x >>> ((5 : Int32) &&& 31)), .int (4 : Int32)]) X.1 hG (C_L_some l (eN E _) (some_eq σ _ (n := 4) (by decide) (by decide))) mw1009 mw1010 mw11 (gw_ok mw1011 rfl) (by decide +kernel) rfl ⟨Nat.le_of_ble_eq_true rfl, Nat.le_of_ble_eq_true rfl⟩ hl.1 rfl (Nat.le_of_ble_eq_true rfl) ⟨Nat.le_of_ble_eq_true rfl, Nat.le_of_ble_eq_true rfl⟩ dL_changes_490 (fun H locs hG => ?_)
  have b4 := smN_lt (x >>> ((5 : Int32) &&& 31)) (n := 4) (by decide)
  refine x_endr (va_runV X.1.1 (X_ai4 l E (q := q) (v := v) (n := 0 + lnS 9 + 1 + lnS 10 + 1 + lnS 11 + 1 + lnS 12) (f := (cpT 12 (upd (cpT 11 (upd (cpT 10 (upd (cpT 9 (fun _ => 0) 0) (0 + lnS 9) (vp_nar .byte (Int32.ofNat (48 + smN (x >>> ((3 : Int32) &&& 31)) 4)))) (0 + lnS 9 + 1)) (0 + lnS 9 + 1 + lnS 10) (vp_nar .byte (Int32.ofNat (48 + smN (x >>> ((5 : Int32) &&& 31)) 10)))) (0 + lnS 9 + 1 + lnS 10 + 1)) (0 + lnS 9 + 1 + lnS 10 + 1 + lnS 11) (vp_nar .byte (Int32.ofNat (48 + smN (x >>> ((4 : Int32) &&& 31)) 5)))) (0 + lnS 9 + 1 + lnS 10 + 1 + lnS 11 + 1))) (by omega) (by decide)) (cwV 1 X.1.1.2.2.2.2 (gw_v mw1245 mw1246 mw1247 mw33 (gw_ok mw1248 rfl)) rfl rfl rfl ⟨rfl, by decide +kernel⟩ ⟨Nat.le_of_ble_eq_true rfl, Nat.le_of_ble_eq_true rfl⟩) ⟨XN_blind, x_recv X.1 hG (i := 0) rfl rfl, XN_pre X.1.2.1 X.1.2.2.1 X.1.2.2.2 hAn hPV hG _⟩ rfl rfl hl.1 rfl (lv_room (Nat.le_of_ble_eq_true rfl)) dL_changes_493 ⟨Nat.le_of_ble_eq_true rfl, Nat.le_of_ble_eq_true rfl⟩) hG (fun r u H locs hu hG => ?_)
  obtain ⟨e91, rfl⟩ := hu
  rw [e91]
  have hfe : ∀ j, j < 9 → (upd (cpT 12 (upd (cpT 11 (upd (cpT 10 (upd (cpT 9 (fun _ => 0) 0) (0 + lnS 9) (vp_nar .byte (Int32.ofNat (48 + smN (x >>> ((3 : Int32) &&& 31)) 4)))) (0 + lnS 9 + 1)) (0 + lnS 9 + 1 + lnS 10) (vp_nar .byte (Int32.ofNat (48 + smN (x >>> ((5 : Int32) &&& 31)) 10)))) (0 + lnS 9 + 1 + lnS 10 + 1)) (0 + lnS 9 + 1 + lnS 10 + 1 + lnS 11) (vp_nar .byte (Int32.ofNat (48 + smN (x >>> ((4 : Int32) &&& 31)) 5)))) (0 + lnS 9 + 1 + lnS 10 + 1 + lnS 11 + 1)) (0 + lnS 9 + 1 + lnS 10 + 1 + lnS 11 + 1 + lnS 12) (vp_nar .byte (Int32.ofNat (48 + smN (x >>> ((5 : Int32) &&& 31)) 4)))) j = (dynS (cdB x)).getD j 0 := fun j hj => fB_eq _ b1 _ b2 _ b3 _ b4 j hj
  have hfi : ∀ j, j < 9 → fits .byte (.int ((upd (cpT 12 (upd (cpT 11 (upd (cpT 10 (upd (cpT 9 (fun _ => 0) 0) (0 + lnS 9) (vp_nar .byte (Int32.ofNat (48 + smN (x >>> ((3 : Int32) &&& 31)) 4)))) (0 + lnS 9 + 1)) (0 + lnS 9 + 1 + lnS 10) (vp_nar .byte (Int32.ofNat (48 + smN (x >>> ((5 : Int32) &&& 31)) 10)))) (0 + lnS 9 + 1 + lnS 10 + 1)) (0 + lnS 9 + 1 + lnS 10 + 1 + lnS 11) (vp_nar .byte (Int32.ofNat (48 + smN (x >>> ((4 : Int32) &&& 31)) 5)))) (0 + lnS 9 + 1 + lnS 10 + 1 + lnS 11 + 1)) (0 + lnS 9 + 1 + lnS 10 + 1 + lnS 11 + 1 + lnS 12) (vp_nar .byte (Int32.ofNat (48 + smN (x >>> ((5 : Int32) &&& 31)) 4)))) j)) = true := fun j hj => by rw [hfe j hj]; exact fB_fit _ b1 _ b2 _ b3 _ b4 j hj
  refine x_endr (va_runV X.1.1 (X_tos l E (q := q) (v := v) (n := 0 + lnS 9 + 1 + lnS 10 + 1 + lnS 11 + 1 + lnS 12 + 1) (f := (upd (cpT 12 (upd (cpT 11 (upd (cpT 10 (upd (cpT 9 (fun _ => 0) 0) (0 + lnS 9) (vp_nar .byte (Int32.ofNat (48 + smN (x >>> ((3 : Int32) &&& 31)) 4)))) (0 + lnS 9 + 1)) (0 + lnS 9 + 1 + lnS 10) (vp_nar .byte (Int32.ofNat (48 + smN (x >>> ((5 : Int32) &&& 31)) 10)))) (0 + lnS 9 + 1 + lnS 10 + 1)) (0 + lnS 9 + 1 + lnS 10 + 1 + lnS 11) (vp_nar .byte (Int32.ofNat (48 + smN (x >>> ((4 : Int32) &&& 31)) 5)))) (0 + lnS 9 + 1 + lnS 10 + 1 + lnS 11 + 1)) (0 + lnS 9 + 1 + lnS 10 + 1 + lnS 11 + 1 + lnS 12) (vp_nar .byte (Int32.ofNat (48 + smN (x >>> ((5 : Int32) &&& 31)) 4))))) (by decide) (fun j hj => hfi j hj)) (cwV 0 X.1.1.2.2.2.2 (gw_v mw1271 mw1272 mw1273 mw33 (gw_ok mw1274 rfl)) rfl rfl rfl ⟨rfl, by decide +kernel⟩ ⟨Nat.le_of_ble_eq_true rfl, Nat.le_of_ble_eq_true rfl⟩) ⟨XN_blind, x_recv X.1 hG (i := 0) rfl rfl, XN_pre X.1.2.1 X.1.2.2.1 X.1.2.2.2 hAn hPV hG _⟩ rfl rfl hl.1 rfl (lv_room (Nat.le_of_ble_eq_true rfl)) dL_changes_496 ⟨Nat.le_of_ble_eq_true rfl, Nat.le_of_ble_eq_true rfl⟩) hG (fun sa u H locs hu hG => ?_)
  obtain ⟨ra, rfl⟩ := hu
  refine x_reads X.1 hT0 hG (dB_len (by unfold cdB; omega)).symm (fun j hj => ?_) hA0 mw1332 ⟨Nat.le_of_ble_eq_true rfl, Nat.le_of_ble_eq_true rfl⟩ hl.1 (Nat.le_of_ble_eq_true rfl) ⟨Nat.le_of_ble_eq_true rfl, Nat.le_of_ble_eq_true rfl⟩ dL_changes_499 hM (fun σ1 r1 H locs hG hM => ?_)
  · rw [d_by]
    have hj : j < 9 := hj
    rw [← hfe j hj]
    show va_cpy _ _ 0 0 9 j = _
    unfold va_cpy
    rw [if_pos ⟨Nat.zero_le _, by omega⟩]
    show (upd (cpT 12 (upd (cpT 11 (upd (cpT 10 (upd (cpT 9 (fun _ => 0) 0) (0 + lnS 9) (vp_nar .byte (Int32.ofNat (48 + smN (x >>> ((3 : Int32) &&& 31)) 4)))) (0 + lnS 9 + 1)) (0 + lnS 9 + 1 + lnS 10) (vp_nar .byte (Int32.ofNat (48 + smN (x >>> ((5 : Int32) &&& 31)) 10)))) (0 + lnS 9 + 1 + lnS 10 + 1)) (0 + lnS 9 + 1 + lnS 10 + 1 + lnS 11) (vp_nar .byte (Int32.ofNat (48 + smN (x >>> ((4 : Int32) &&& 31)) 5)))) (0 + lnS 9 + 1 + lnS 10 + 1 + lnS 11 + 1)) (0 + lnS 9 + 1 + lnS 10 + 1 + lnS 11 + 1 + lnS 12) (vp_nar .byte (Int32.ofNat (48 + smN (x >>> ((5 : Int32) &&& 31)) 4)))) (0 + (j - 0)) = (upd (cpT 12 (upd (cpT 11 (upd (cpT 10 (upd (cpT 9 (fun _ => 0) 0) (0 + lnS 9) (vp_nar .byte (Int32.ofNat (48 + smN (x >>> ((3 : Int32) &&& 31)) 4)))) (0 + lnS 9 + 1)) (0 + lnS 9 + 1 + lnS 10) (vp_nar .byte (Int32.ofNat (48 + smN (x >>> ((5 : Int32) &&& 31)) 10)))) (0 + lnS 9 + 1 + lnS 10 + 1)) (0 + lnS 9 + 1 + lnS 10 + 1 + lnS 11) (vp_nar .byte (Int32.ofNat (48 + smN (x >>> ((4 : Int32) &&& 31)) 5)))) (0 + lnS 9 + 1 + lnS 10 + 1 + lnS 11 + 1)) (0 + lnS 9 + 1 + lnS 10 + 1 + lnS 11 + 1 + lnS 12) (vp_nar .byte (Int32.ofNat (48 + smN (x >>> ((5 : Int32) &&& 31)) 4)))) j
    rw [Nat.sub_zero, show 0 + j = j from Nat.zero_add j]
  · exact w_dT X hAn hPV hT0 hA0 σ1 r1 H locs ls z hG hM hl
set_option maxRecDepth 20000 in
set_option maxHeartbeats 4000000 in
theorem w_dfl {p : Program} {l : Launch} {e : Env} {s : State} {m : MethodId} {below : List Frame} {meth : Method} {c : Code} {args : Array Value} {E : Ev} {a0 : Nat} (X : Bx E p m meth c cL_changes 4 (some .boolean) s args RL) (hAn : ∀ q, s.heap.size ≤ q → AE E q) (hPV : PV s) (hT0 : eT E = 0) (hA0 : lay 10 a0) {x : Int32} (σ : St)  (H : Heap) (locs : List Loc) (ls : Array Slot) (z : St × Int32) (hG : GS E σ s.heap H locs) (hM : D_L_changes σ a0 x = some z) (hl : lv_has ls 4 [(0, .ref (E.1 a0)), (1, .int x)]) : W p l e (rmA 9 4 40) s m args below meth c H locs (0) (0) (QIm E z below args s 4 40) (F0 m 374 ls []) := by
  have hx := X.1.1.1
  have hb := X.1.1.2.1
  unfold D_L_changes dfl at hM
  refine lv_aload_n hx hb dL_changes_374 rfl (lv_at hl 0 rfl) ?_
  refine lv_iload_n hx hb dL_changes_375 rfl (lv_at hl 1 rfl) ?_
  refine lv_bipush (v := (6 : Int32)) hx hb dL_changes_376 (by decide) ?_
  refine lv_ishr hx hb dL_changes_378 ?_
  refine lv_iconst (v := (1 : Int32)) hx hb dL_changes_379 (by decide) ?_
  refine lv_iand hx hb dL_changes_380 ?_
  refine lv_if_ne (tgt := 428) hx hb dL_changes_381 (by decide) (fun c1 => ?_) (fun c1 => ?_)
  · rw [if_neg c1] at hM
    exact w_dB X hAn hPV hT0 hA0 σ H locs ls z hG hM hl
  · rw [if_pos c1] at hM
    exact w_dA X hAn hPV hT0 hA0 σ H locs ls z hG hM hl
def M_L_changes (σ : St) (a0 : Nat) (p1 : Int32) : Option (St × Int32) := bcall (M_X10_account σ a0 (4 : Int32)) fun σ1 r2 => bcall (M_L_some σ1 (p1 >>> ((4 : Int32) &&& 31)) (r2 + (1 : Int32))) fun σ3 r4 => bcall (M_X10_account σ3 a0 (7 : Int32)) fun σ5 r6 => bcall (M_L_some σ5 (p1 >>> ((7 : Int32) &&& 31)) (r6 + (1 : Int32))) fun σ7 r8 => bcall (M_L_some σ7 p1 (16 : Int32)) fun σ9 r10 => if r10.toInt < 0 ∨ 14 < r10.toInt then (D_L_changes σ9 a0 p1) else if r10.toInt = 0 then (bcall (M_L_some σ9 (p1 >>> ((4 : Int32) &&& 31)) (32 : Int32)) fun σ13 r14 => bcall (M_L_some σ13 (p1 >>> ((6 : Int32) &&& 31)) (62 : Int32)) fun σ15 r16 => bcall (M_X10_bundle σ15 a0 r14 r16) fun σ17 r18 => if r18 < 0 then some (σ17, (0 : Int32)) else some (σ17, (1 : Int32))) else if r10.toInt = 1 then (bcall (M_L_some σ9 (p1 >>> ((4 : Int32) &&& 31)) (101 : Int32)) fun σ21 r22 => bcall (M_X10_strips σ21 a0 r22) fun σ23 r24 => if r24 < 0 then some (σ23, (0 : Int32)) else some (σ23, (1 : Int32))) else if r10.toInt = 2 then (bcall (M_L_some σ9 (p1 >>> ((4 : Int32) &&& 31)) (5 : Int32)) fun σ27 r28 => bcall (M_L_some σ27 (p1 >>> ((6 : Int32) &&& 31)) (7 : Int32)) fun σ29 r30 => bcall (M_L_some σ29 (p1 >>> ((5 : Int32) &&& 31)) (42 : Int32)) fun σ31 r32 => bcall (M_X10_build σ31 a0 r28 ((3 : Int32) + r30) r32) fun σ33 r34 => if r34 < 0 then some (σ33, (0 : Int32)) else some (σ33, (1 : Int32))) else if r10.toInt = 3 then (bcall (M_L_some σ9 (p1 >>> ((4 : Int32) &&& 31)) (5 : Int32)) fun σ37 r38 => bcall (M_L_some σ37 (p1 >>> ((6 : Int32) &&& 31)) (7 : Int32)) fun σ39 r40 => bcall (M_L_some σ39 (p1 >>> ((5 : Int32) &&& 31)) (42 : Int32)) fun σ41 r42 => bcall (M_X10_build σ41 a0 r38 ((3 : Int32) + r40) r42) fun σ43 r44 => if r44 < 0 then some (σ43, (0 : Int32)) else some (σ43, (1 : Int32))) else if r10.toInt = 4 then (bcall (M_X10_tie σ9 a0 r4) fun σ47 r48 => if r48 < 0 then some (σ47, (0 : Int32)) else some (σ47, (1 : Int32))) else if r10.toInt = 5 then (bcall (M_L_some σ9 (p1 >>> ((4 : Int32) &&& 31)) (6 : Int32)) fun σ51 r52 => bcall (M_X10_crew σ51 a0 r52) fun σ53 r54 => if r54 < 0 then some (σ53, (0 : Int32)) else some (σ53, (1 : Int32))) else if r10.toInt = 6 then (bcall (M_X10_up σ9 a0 r8 r4) fun σ57 r58 => if r58 < 0 then some (σ57, (0 : Int32)) else some (σ57, (1 : Int32))) else if r10.toInt = 7 then (bcall (M_X10_up σ9 a0 r8 r4) fun σ61 r62 => if r62 < 0 then some (σ61, (0 : Int32)) else some (σ61, (1 : Int32))) else if r10.toInt = 8 then (bcall (M_X10_down σ9 a0 r8) fun σ65 r66 => if r66 < 0 then some (σ65, (0 : Int32)) else some (σ65, (1 : Int32))) else if r10.toInt = 9 then (bcall (M_L_some σ9 (p1 >>> ((8 : Int32) &&& 31)) (11 : Int32)) fun σ69 r70 => bcall (M_X10_lift σ69 a0 r4 r70) fun σ71 r72 => if r72 < 0 then some (σ71, (0 : Int32)) else some (σ71, (1 : Int32))) else if r10.toInt = 10 then (bcall (M_L_some σ9 (p1 >>> ((4 : Int32) &&& 31)) (12 : Int32)) fun σ75 r76 => bcall (M_X10_signal σ75 a0 r76) fun σ77 r78 => if r78 < 0 then some (σ77, (0 : Int32)) else some (σ77, (1 : Int32))) else if r10.toInt = 11 then (bcall (M_L_some σ9 (p1 >>> ((4 : Int32) &&& 31)) (11 : Int32)) fun σ81 r82 => bcall (M_X10_inspector σ81 a0 r82) fun σ83 r84 => if r84 < 0 then some (σ83, (0 : Int32)) else some (σ83, (1 : Int32))) else if r10.toInt = 12 then (bcall (M_L_some σ9 (p1 >>> ((8 : Int32) &&& 31)) (3 : Int32)) fun σ87 r88 => bcall (M_X10_inspect σ87 a0 r88 r4) fun σ89 r90 => if r90 < 0 then some (σ89, (0 : Int32)) else some (σ89, (1 : Int32))) else if r10.toInt = 13 then (bcall (M_L_some σ9 (p1 >>> ((4 : Int32) &&& 31)) (32 : Int32)) fun σ93 r94 => bcall (M_X10_day σ93 a0 r94) fun σ95 r96 => if r96 < 0 then some (σ95, (0 : Int32)) else some (σ95, (1 : Int32))) else if r10.toInt = 14 then (bcall (M_L_some σ9 (p1 >>> ((4 : Int32) &&& 31)) (32 : Int32)) fun σ99 r100 => bcall (M_X10_day σ99 a0 r100) fun σ101 r102 => if r102 < 0 then some (σ101, (0 : Int32)) else some (σ101, (1 : Int32))) else none
set_option maxRecDepth 20000 in
set_option maxHeartbeats 4000000 in
theorem C_L_changes (l : Launch) (E : Ev) (hT0 : eT E = 0) {σ σ' : St} {a0 : Nat} {p1 : Int32} {r : Int32} (h : M_L_changes σ a0 p1 = some (σ', r)) (hA0 : lay 10 a0) : Mip l E yL_changes cL_changes 4 (some .boolean) 9 4 40 [.ref (E.1 a0), .int p1] σ σ' r := by
  refine Mip_of (C := RL) rfl (by decide) (Nat.le_of_ble_eq_true rfl) (z := (σ', r)) (fun p e s m below meth c ls X hAn hPV hG hl => ?_)
  have hx := X.1.1.1
  have hb := X.1.1.2.1
  have hM := h
  unfold M_L_changes at hM
  generalize (σ', r) = z at hM ⊢
  have hl : lv_has ls 4 [(0, .ref (E.1 a0)), (1, .int p1)] := hl
  refine lv_iload_n hx hb dL_changes_0 rfl (lv_at hl 1 rfl) ?_
  refine lv_iconst (v := (4 : Int32)) hx hb dL_changes_1 (by decide) ?_
  refine lv_ishr hx hb dL_changes_2 ?_
  refine lv_aload_n hx hb dL_changes_3 rfl (lv_at hl 0 rfl) ?_
  refine lv_iconst (v := (4 : Int32)) hx hb dL_changes_4 (by decide) ?_
  refine g_callV_i (nA := 1) (o := M_X10_account σ a0 (4 : Int32)) (As := [.int (4 : Int32)]) X.1 hG hA0 rfl rfl (fun _ _ h => C_X10_account l E h hA0) mw959 mw960 mw961 mw12 (gw_ok mw962 rfl) (by decide +kernel) rfl ⟨Nat.le_of_ble_eq_true rfl, Nat.le_of_ble_eq_true rfl⟩ hl.1 rfl (Nat.le_of_ble_eq_true rfl) ⟨Nat.le_of_ble_eq_true rfl, Nat.le_of_ble_eq_true rfl⟩ dL_changes_5 hM (fun σ1 r2 H locs hG hM => ?_)
  refine lv_iconst (v := (1 : Int32)) hx hb dL_changes_8 (by decide) ?_
  refine lv_iadd hx hb dL_changes_9 ?_
  refine g_callS_i (nA := 2) (o := M_L_some σ1 (p1 >>> ((4 : Int32) &&& 31)) (r2 + (1 : Int32))) (As := [.int (p1 >>> ((4 : Int32) &&& 31)), .int (r2 + (1 : Int32))]) X.1 hG (fun _ _ h => C_L_some l E h ) mw1009 mw1010 mw11 (gw_ok mw1011 rfl) (by decide +kernel) rfl ⟨Nat.le_of_ble_eq_true rfl, Nat.le_of_ble_eq_true rfl⟩ hl.1 rfl (Nat.le_of_ble_eq_true rfl) ⟨Nat.le_of_ble_eq_true rfl, Nat.le_of_ble_eq_true rfl⟩ dL_changes_10 hM (fun σ3 r4 H locs hG hM => ?_)
  refine lv_istore_n (lv' := [(2, .int r4), (0, .ref (E.1 a0)), (1, .int p1)]) hx hb dL_changes_13 rfl hl (by decide) rfl (fun ls hl => ?_)
  refine lv_iload_n hx hb dL_changes_14 rfl (lv_at hl 2 rfl) ?_
  refine lv_bipush (v := (7 : Int32)) hx hb dL_changes_15 (by decide) ?_
  refine lv_ishr hx hb dL_changes_17 ?_
  refine lv_aload_n hx hb dL_changes_18 rfl (lv_at hl 1 rfl) ?_
  refine lv_bipush (v := (7 : Int32)) hx hb dL_changes_19 (by decide) ?_
  refine g_callV_i (nA := 1) (o := M_X10_account σ3 a0 (7 : Int32)) (As := [.int (7 : Int32)]) X.1 hG hA0 rfl rfl (fun _ _ h => C_X10_account l E h hA0) mw959 mw960 mw961 mw12 (gw_ok mw962 rfl) (by decide +kernel) rfl ⟨Nat.le_of_ble_eq_true rfl, Nat.le_of_ble_eq_true rfl⟩ hl.1 rfl (Nat.le_of_ble_eq_true rfl) ⟨Nat.le_of_ble_eq_true rfl, Nat.le_of_ble_eq_true rfl⟩ dL_changes_21 hM (fun σ5 r6 H locs hG hM => ?_)
  refine lv_iconst (v := (1 : Int32)) hx hb dL_changes_24 (by decide) ?_
  refine lv_iadd hx hb dL_changes_25 ?_
  refine g_callS_i (nA := 2) (o := M_L_some σ5 (p1 >>> ((7 : Int32) &&& 31)) (r6 + (1 : Int32))) (As := [.int (p1 >>> ((7 : Int32) &&& 31)), .int (r6 + (1 : Int32))]) X.1 hG (fun _ _ h => C_L_some l E h ) mw1009 mw1010 mw11 (gw_ok mw1011 rfl) (by decide +kernel) rfl ⟨Nat.le_of_ble_eq_true rfl, Nat.le_of_ble_eq_true rfl⟩ hl.1 rfl (Nat.le_of_ble_eq_true rfl) ⟨Nat.le_of_ble_eq_true rfl, Nat.le_of_ble_eq_true rfl⟩ dL_changes_26 hM (fun σ7 r8 H locs hG hM => ?_)
  refine lv_istore_n (lv' := [(3, .int r8), (2, .int r4), (0, .ref (E.1 a0)), (1, .int p1)]) hx hb dL_changes_29 rfl hl (by decide) rfl (fun ls hl => ?_)
  refine lv_iload_n hx hb dL_changes_30 rfl (lv_at hl 3 rfl) ?_
  refine lv_bipush (v := (16 : Int32)) hx hb dL_changes_31 (by decide) ?_
  refine g_callS_i (nA := 2) (o := M_L_some σ7 p1 (16 : Int32)) (As := [.int p1, .int (16 : Int32)]) X.1 hG (fun _ _ h => C_L_some l E h ) mw1009 mw1010 mw11 (gw_ok mw1011 rfl) (by decide +kernel) rfl ⟨Nat.le_of_ble_eq_true rfl, Nat.le_of_ble_eq_true rfl⟩ hl.1 rfl (Nat.le_of_ble_eq_true rfl) ⟨Nat.le_of_ble_eq_true rfl, Nat.le_of_ble_eq_true rfl⟩ dL_changes_33 hM (fun σ9 r10 H locs hG hM => ?_)
  by_cases c11 : r10.toInt < 0 ∨ 14 < r10.toInt
  · have hM := b_if hM c11
    refine lv_tableOut (tgt := 374) hx hb dL_changes_36 c11 (by decide) ?_
    exact w_dfl X hAn hPV hT0 hA0 σ9 _ _ _ z hG hM (lv_sub hl [2, 3] rfl)
  · have hM := b_else hM c11
    by_cases c12 : r10.toInt = 0
    · have hM := b_if hM c12
      refine lv_tableIn (tgt := 112) hx hb dL_changes_36 (fun h => c11 (Or.inl h)) (fun h => c11 (Or.inr h)) (by rw [c12]; rfl) (by decide) ?_
      refine lv_aload_n hx hb dL_changes_112 rfl (lv_at hl 2 rfl) ?_
      refine lv_iload_n hx hb dL_changes_113 rfl (lv_at hl 3 rfl) ?_
      refine lv_iconst (v := (4 : Int32)) hx hb dL_changes_114 (by decide) ?_
      refine lv_ishr hx hb dL_changes_115 ?_
      refine lv_bipush (v := (32 : Int32)) hx hb dL_changes_116 (by decide) ?_
      refine g_callS_i (nA := 2) (o := M_L_some σ9 (p1 >>> ((4 : Int32) &&& 31)) (32 : Int32)) (As := [.int (p1 >>> ((4 : Int32) &&& 31)), .int (32 : Int32)]) X.1 hG (fun _ _ h => C_L_some l E h ) mw1009 mw1010 mw11 (gw_ok mw1011 rfl) (by decide +kernel) rfl ⟨Nat.le_of_ble_eq_true rfl, Nat.le_of_ble_eq_true rfl⟩ hl.1 rfl (Nat.le_of_ble_eq_true rfl) ⟨Nat.le_of_ble_eq_true rfl, Nat.le_of_ble_eq_true rfl⟩ dL_changes_118 hM (fun σ13 r14 H locs hG hM => ?_)
      refine lv_iload_n hx hb dL_changes_121 rfl (lv_at hl 3 rfl) ?_
      refine lv_bipush (v := (6 : Int32)) hx hb dL_changes_122 (by decide) ?_
      refine lv_ishr hx hb dL_changes_124 ?_
      refine lv_bipush (v := (62 : Int32)) hx hb dL_changes_125 (by decide) ?_
      refine g_callS_i (nA := 2) (o := M_L_some σ13 (p1 >>> ((6 : Int32) &&& 31)) (62 : Int32)) (As := [.int (p1 >>> ((6 : Int32) &&& 31)), .int (62 : Int32)]) X.1 hG (fun _ _ h => C_L_some l E h ) mw1009 mw1010 mw11 (gw_ok mw1011 rfl) (by decide +kernel) rfl ⟨Nat.le_of_ble_eq_true rfl, Nat.le_of_ble_eq_true rfl⟩ hl.1 rfl (Nat.le_of_ble_eq_true rfl) ⟨Nat.le_of_ble_eq_true rfl, Nat.le_of_ble_eq_true rfl⟩ dL_changes_127 hM (fun σ15 r16 H locs hG hM => ?_)
      refine g_callV_i (nA := 2) (o := M_X10_bundle σ15 a0 r14 r16) (As := [.int r14, .int r16]) X.1 hG hA0 rfl rfl (fun _ _ h => C_X10_bundle l E h hA0) mw375 mw376 mw377 mw12 (gw_ok mw378 rfl) (by decide +kernel) rfl ⟨Nat.le_of_ble_eq_true rfl, Nat.le_of_ble_eq_true rfl⟩ hl.1 rfl (Nat.le_of_ble_eq_true rfl) ⟨Nat.le_of_ble_eq_true rfl, Nat.le_of_ble_eq_true rfl⟩ dL_changes_130 hM (fun σ17 r18 H locs hG hM => ?_)
      refine lv_if_lt (tgt := 140) hx hb dL_changes_133 (by decide) (fun c19 => ?_) (fun c19 => ?_)
      · have hM := b_if hM c19
        refine lv_iconst (v := (0 : Int32)) hx hb dL_changes_140 (by decide) ?_
        exact e_zretM X hG (by decide) dL_changes_141 hM (Nat.le_of_ble_eq_true rfl) (Nat.le_of_ble_eq_true rfl)
      · have hM := b_else hM c19
        refine lv_iconst (v := (1 : Int32)) hx hb dL_changes_136 (by decide) ?_
        refine lv_goto (tgt := 141) hx hb dL_changes_137 (by decide) ?_
        exact e_zretM X hG (by decide) dL_changes_141 hM (Nat.le_of_ble_eq_true rfl) (Nat.le_of_ble_eq_true rfl)
    have hM := b_else hM c12
    by_cases c20 : r10.toInt = 1
    · have hM := b_if hM c20
      refine lv_tableIn (tgt := 142) hx hb dL_changes_36 (fun h => c11 (Or.inl h)) (fun h => c11 (Or.inr h)) (by rw [c20]; rfl) (by decide) ?_
      refine lv_aload_n hx hb dL_changes_142 rfl (lv_at hl 2 rfl) ?_
      refine lv_iload_n hx hb dL_changes_143 rfl (lv_at hl 3 rfl) ?_
      refine lv_iconst (v := (4 : Int32)) hx hb dL_changes_144 (by decide) ?_
      refine lv_ishr hx hb dL_changes_145 ?_
      refine lv_bipush (v := (101 : Int32)) hx hb dL_changes_146 (by decide) ?_
      refine g_callS_i (nA := 2) (o := M_L_some σ9 (p1 >>> ((4 : Int32) &&& 31)) (101 : Int32)) (As := [.int (p1 >>> ((4 : Int32) &&& 31)), .int (101 : Int32)]) X.1 hG (fun _ _ h => C_L_some l E h ) mw1009 mw1010 mw11 (gw_ok mw1011 rfl) (by decide +kernel) rfl ⟨Nat.le_of_ble_eq_true rfl, Nat.le_of_ble_eq_true rfl⟩ hl.1 rfl (Nat.le_of_ble_eq_true rfl) ⟨Nat.le_of_ble_eq_true rfl, Nat.le_of_ble_eq_true rfl⟩ dL_changes_148 hM (fun σ21 r22 H locs hG hM => ?_)
      refine g_callV_i (nA := 1) (o := M_X10_strips σ21 a0 r22) (As := [.int r22]) X.1 hG hA0 rfl rfl (fun _ _ h => C_X10_strips l E h hA0) mw447 mw448 mw449 mw12 (gw_ok mw450 rfl) (by decide +kernel) rfl ⟨Nat.le_of_ble_eq_true rfl, Nat.le_of_ble_eq_true rfl⟩ hl.1 rfl (Nat.le_of_ble_eq_true rfl) ⟨Nat.le_of_ble_eq_true rfl, Nat.le_of_ble_eq_true rfl⟩ dL_changes_151 hM (fun σ23 r24 H locs hG hM => ?_)
      refine lv_if_lt (tgt := 161) hx hb dL_changes_154 (by decide) (fun c25 => ?_) (fun c25 => ?_)
      · have hM := b_if hM c25
        refine lv_iconst (v := (0 : Int32)) hx hb dL_changes_161 (by decide) ?_
        exact e_zretM X hG (by decide) dL_changes_162 hM (Nat.le_of_ble_eq_true rfl) (Nat.le_of_ble_eq_true rfl)
      · have hM := b_else hM c25
        refine lv_iconst (v := (1 : Int32)) hx hb dL_changes_157 (by decide) ?_
        refine lv_goto (tgt := 162) hx hb dL_changes_158 (by decide) ?_
        exact e_zretM X hG (by decide) dL_changes_162 hM (Nat.le_of_ble_eq_true rfl) (Nat.le_of_ble_eq_true rfl)
    have hM := b_else hM c20
    by_cases c26 : r10.toInt = 2
    · have hM := b_if hM c26
      refine lv_tableIn (tgt := 163) hx hb dL_changes_36 (fun h => c11 (Or.inl h)) (fun h => c11 (Or.inr h)) (by rw [c26]; rfl) (by decide) ?_
      refine lv_aload_n hx hb dL_changes_163 rfl (lv_at hl 2 rfl) ?_
      refine lv_iload_n hx hb dL_changes_164 rfl (lv_at hl 3 rfl) ?_
      refine lv_iconst (v := (4 : Int32)) hx hb dL_changes_165 (by decide) ?_
      refine lv_ishr hx hb dL_changes_166 ?_
      refine lv_iconst (v := (5 : Int32)) hx hb dL_changes_167 (by decide) ?_
      refine g_callS_i (nA := 2) (o := M_L_some σ9 (p1 >>> ((4 : Int32) &&& 31)) (5 : Int32)) (As := [.int (p1 >>> ((4 : Int32) &&& 31)), .int (5 : Int32)]) X.1 hG (fun _ _ h => C_L_some l E h ) mw1009 mw1010 mw11 (gw_ok mw1011 rfl) (by decide +kernel) rfl ⟨Nat.le_of_ble_eq_true rfl, Nat.le_of_ble_eq_true rfl⟩ hl.1 rfl (Nat.le_of_ble_eq_true rfl) ⟨Nat.le_of_ble_eq_true rfl, Nat.le_of_ble_eq_true rfl⟩ dL_changes_168 hM (fun σ27 r28 H locs hG hM => ?_)
      refine lv_iconst (v := (3 : Int32)) hx hb dL_changes_171 (by decide) ?_
      refine lv_iload_n hx hb dL_changes_172 rfl (lv_at hl 3 rfl) ?_
      refine lv_bipush (v := (6 : Int32)) hx hb dL_changes_173 (by decide) ?_
      refine lv_ishr hx hb dL_changes_175 ?_
      refine lv_bipush (v := (7 : Int32)) hx hb dL_changes_176 (by decide) ?_
      refine g_callS_i (nA := 2) (o := M_L_some σ27 (p1 >>> ((6 : Int32) &&& 31)) (7 : Int32)) (As := [.int (p1 >>> ((6 : Int32) &&& 31)), .int (7 : Int32)]) X.1 hG (fun _ _ h => C_L_some l E h ) mw1009 mw1010 mw11 (gw_ok mw1011 rfl) (by decide +kernel) rfl ⟨Nat.le_of_ble_eq_true rfl, Nat.le_of_ble_eq_true rfl⟩ hl.1 rfl (Nat.le_of_ble_eq_true rfl) ⟨Nat.le_of_ble_eq_true rfl, Nat.le_of_ble_eq_true rfl⟩ dL_changes_178 hM (fun σ29 r30 H locs hG hM => ?_)
      refine lv_iadd hx hb dL_changes_181 ?_
      refine lv_iload_n hx hb dL_changes_182 rfl (lv_at hl 3 rfl) ?_
      refine lv_iconst (v := (5 : Int32)) hx hb dL_changes_183 (by decide) ?_
      refine lv_ishr hx hb dL_changes_184 ?_
      refine lv_bipush (v := (42 : Int32)) hx hb dL_changes_185 (by decide) ?_
      refine g_callS_i (nA := 2) (o := M_L_some σ29 (p1 >>> ((5 : Int32) &&& 31)) (42 : Int32)) (As := [.int (p1 >>> ((5 : Int32) &&& 31)), .int (42 : Int32)]) X.1 hG (fun _ _ h => C_L_some l E h ) mw1009 mw1010 mw11 (gw_ok mw1011 rfl) (by decide +kernel) rfl ⟨Nat.le_of_ble_eq_true rfl, Nat.le_of_ble_eq_true rfl⟩ hl.1 rfl (Nat.le_of_ble_eq_true rfl) ⟨Nat.le_of_ble_eq_true rfl, Nat.le_of_ble_eq_true rfl⟩ dL_changes_187 hM (fun σ31 r32 H locs hG hM => ?_)
      refine g_callV_i (nA := 3) (o := M_X10_build σ31 a0 r28 ((3 : Int32) + r30) r32) (As := [.int r28, .int ((3 : Int32) + r30), .int r32]) X.1 hG hA0 rfl rfl (fun _ _ h => C_X10_build l E h hA0) mw456 mw457 mw458 mw12 (gw_ok mw459 rfl) (by decide +kernel) rfl ⟨Nat.le_of_ble_eq_true rfl, Nat.le_of_ble_eq_true rfl⟩ hl.1 rfl (Nat.le_of_ble_eq_true rfl) ⟨Nat.le_of_ble_eq_true rfl, Nat.le_of_ble_eq_true rfl⟩ dL_changes_190 hM (fun σ33 r34 H locs hG hM => ?_)
      refine lv_if_lt (tgt := 200) hx hb dL_changes_193 (by decide) (fun c35 => ?_) (fun c35 => ?_)
      · have hM := b_if hM c35
        refine lv_iconst (v := (0 : Int32)) hx hb dL_changes_200 (by decide) ?_
        exact e_zretM X hG (by decide) dL_changes_201 hM (Nat.le_of_ble_eq_true rfl) (Nat.le_of_ble_eq_true rfl)
      · have hM := b_else hM c35
        refine lv_iconst (v := (1 : Int32)) hx hb dL_changes_196 (by decide) ?_
        refine lv_goto (tgt := 201) hx hb dL_changes_197 (by decide) ?_
        exact e_zretM X hG (by decide) dL_changes_201 hM (Nat.le_of_ble_eq_true rfl) (Nat.le_of_ble_eq_true rfl)
    have hM := b_else hM c26
    by_cases c36 : r10.toInt = 3
    · have hM := b_if hM c36
      refine lv_tableIn (tgt := 163) hx hb dL_changes_36 (fun h => c11 (Or.inl h)) (fun h => c11 (Or.inr h)) (by rw [c36]; rfl) (by decide) ?_
      refine lv_aload_n hx hb dL_changes_163 rfl (lv_at hl 2 rfl) ?_
      refine lv_iload_n hx hb dL_changes_164 rfl (lv_at hl 3 rfl) ?_
      refine lv_iconst (v := (4 : Int32)) hx hb dL_changes_165 (by decide) ?_
      refine lv_ishr hx hb dL_changes_166 ?_
      refine lv_iconst (v := (5 : Int32)) hx hb dL_changes_167 (by decide) ?_
      refine g_callS_i (nA := 2) (o := M_L_some σ9 (p1 >>> ((4 : Int32) &&& 31)) (5 : Int32)) (As := [.int (p1 >>> ((4 : Int32) &&& 31)), .int (5 : Int32)]) X.1 hG (fun _ _ h => C_L_some l E h ) mw1009 mw1010 mw11 (gw_ok mw1011 rfl) (by decide +kernel) rfl ⟨Nat.le_of_ble_eq_true rfl, Nat.le_of_ble_eq_true rfl⟩ hl.1 rfl (Nat.le_of_ble_eq_true rfl) ⟨Nat.le_of_ble_eq_true rfl, Nat.le_of_ble_eq_true rfl⟩ dL_changes_168 hM (fun σ37 r38 H locs hG hM => ?_)
      refine lv_iconst (v := (3 : Int32)) hx hb dL_changes_171 (by decide) ?_
      refine lv_iload_n hx hb dL_changes_172 rfl (lv_at hl 3 rfl) ?_
      refine lv_bipush (v := (6 : Int32)) hx hb dL_changes_173 (by decide) ?_
      refine lv_ishr hx hb dL_changes_175 ?_
      refine lv_bipush (v := (7 : Int32)) hx hb dL_changes_176 (by decide) ?_
      refine g_callS_i (nA := 2) (o := M_L_some σ37 (p1 >>> ((6 : Int32) &&& 31)) (7 : Int32)) (As := [.int (p1 >>> ((6 : Int32) &&& 31)), .int (7 : Int32)]) X.1 hG (fun _ _ h => C_L_some l E h ) mw1009 mw1010 mw11 (gw_ok mw1011 rfl) (by decide +kernel) rfl ⟨Nat.le_of_ble_eq_true rfl, Nat.le_of_ble_eq_true rfl⟩ hl.1 rfl (Nat.le_of_ble_eq_true rfl) ⟨Nat.le_of_ble_eq_true rfl, Nat.le_of_ble_eq_true rfl⟩ dL_changes_178 hM (fun σ39 r40 H locs hG hM => ?_)
      refine lv_iadd hx hb dL_changes_181 ?_
      refine lv_iload_n hx hb dL_changes_182 rfl (lv_at hl 3 rfl) ?_
      refine lv_iconst (v := (5 : Int32)) hx hb dL_changes_183 (by decide) ?_
      refine lv_ishr hx hb dL_changes_184 ?_
      refine lv_bipush (v := (42 : Int32)) hx hb dL_changes_185 (by decide) ?_
      refine g_callS_i (nA := 2) (o := M_L_some σ39 (p1 >>> ((5 : Int32) &&& 31)) (42 : Int32)) (As := [.int (p1 >>> ((5 : Int32) &&& 31)), .int (42 : Int32)]) X.1 hG (fun _ _ h => C_L_some l E h ) mw1009 mw1010 mw11 (gw_ok mw1011 rfl) (by decide +kernel) rfl ⟨Nat.le_of_ble_eq_true rfl, Nat.le_of_ble_eq_true rfl⟩ hl.1 rfl (Nat.le_of_ble_eq_true rfl) ⟨Nat.le_of_ble_eq_true rfl, Nat.le_of_ble_eq_true rfl⟩ dL_changes_187 hM (fun σ41 r42 H locs hG hM => ?_)
      refine g_callV_i (nA := 3) (o := M_X10_build σ41 a0 r38 ((3 : Int32) + r40) r42) (As := [.int r38, .int ((3 : Int32) + r40), .int r42]) X.1 hG hA0 rfl rfl (fun _ _ h => C_X10_build l E h hA0) mw456 mw457 mw458 mw12 (gw_ok mw459 rfl) (by decide +kernel) rfl ⟨Nat.le_of_ble_eq_true rfl, Nat.le_of_ble_eq_true rfl⟩ hl.1 rfl (Nat.le_of_ble_eq_true rfl) ⟨Nat.le_of_ble_eq_true rfl, Nat.le_of_ble_eq_true rfl⟩ dL_changes_190 hM (fun σ43 r44 H locs hG hM => ?_)
      refine lv_if_lt (tgt := 200) hx hb dL_changes_193 (by decide) (fun c45 => ?_) (fun c45 => ?_)
      · have hM := b_if hM c45
        refine lv_iconst (v := (0 : Int32)) hx hb dL_changes_200 (by decide) ?_
        exact e_zretM X hG (by decide) dL_changes_201 hM (Nat.le_of_ble_eq_true rfl) (Nat.le_of_ble_eq_true rfl)
      · have hM := b_else hM c45
        refine lv_iconst (v := (1 : Int32)) hx hb dL_changes_196 (by decide) ?_
        refine lv_goto (tgt := 201) hx hb dL_changes_197 (by decide) ?_
        exact e_zretM X hG (by decide) dL_changes_201 hM (Nat.le_of_ble_eq_true rfl) (Nat.le_of_ble_eq_true rfl)
    have hM := b_else hM c36
    by_cases c46 : r10.toInt = 4
    · have hM := b_if hM c46
      refine lv_tableIn (tgt := 202) hx hb dL_changes_36 (fun h => c11 (Or.inl h)) (fun h => c11 (Or.inr h)) (by rw [c46]; rfl) (by decide) ?_
      refine lv_aload_n hx hb dL_changes_202 rfl (lv_at hl 2 rfl) ?_
      refine lv_iload_n hx hb dL_changes_203 rfl (lv_at hl 1 rfl) ?_
      refine g_callV_i (nA := 1) (o := M_X10_tie σ9 a0 r4) (As := [.int r4]) X.1 hG hA0 rfl rfl (fun _ _ h => C_X10_tie l E h hA0) mw1115 mw1116 mw1117 mw12 (gw_ok mw1118 rfl) (by decide +kernel) rfl ⟨Nat.le_of_ble_eq_true rfl, Nat.le_of_ble_eq_true rfl⟩ hl.1 rfl (Nat.le_of_ble_eq_true rfl) ⟨Nat.le_of_ble_eq_true rfl, Nat.le_of_ble_eq_true rfl⟩ dL_changes_204 hM (fun σ47 r48 H locs hG hM => ?_)
      refine lv_if_lt (tgt := 214) hx hb dL_changes_207 (by decide) (fun c49 => ?_) (fun c49 => ?_)
      · have hM := b_if hM c49
        refine lv_iconst (v := (0 : Int32)) hx hb dL_changes_214 (by decide) ?_
        exact e_zretM X hG (by decide) dL_changes_215 hM (Nat.le_of_ble_eq_true rfl) (Nat.le_of_ble_eq_true rfl)
      · have hM := b_else hM c49
        refine lv_iconst (v := (1 : Int32)) hx hb dL_changes_210 (by decide) ?_
        refine lv_goto (tgt := 215) hx hb dL_changes_211 (by decide) ?_
        exact e_zretM X hG (by decide) dL_changes_215 hM (Nat.le_of_ble_eq_true rfl) (Nat.le_of_ble_eq_true rfl)
    have hM := b_else hM c46
    by_cases c50 : r10.toInt = 5
    · have hM := b_if hM c50
      refine lv_tableIn (tgt := 216) hx hb dL_changes_36 (fun h => c11 (Or.inl h)) (fun h => c11 (Or.inr h)) (by rw [c50]; rfl) (by decide) ?_
      refine lv_aload_n hx hb dL_changes_216 rfl (lv_at hl 2 rfl) ?_
      refine lv_iload_n hx hb dL_changes_217 rfl (lv_at hl 3 rfl) ?_
      refine lv_iconst (v := (4 : Int32)) hx hb dL_changes_218 (by decide) ?_
      refine lv_ishr hx hb dL_changes_219 ?_
      refine lv_bipush (v := (6 : Int32)) hx hb dL_changes_220 (by decide) ?_
      refine g_callS_i (nA := 2) (o := M_L_some σ9 (p1 >>> ((4 : Int32) &&& 31)) (6 : Int32)) (As := [.int (p1 >>> ((4 : Int32) &&& 31)), .int (6 : Int32)]) X.1 hG (fun _ _ h => C_L_some l E h ) mw1009 mw1010 mw11 (gw_ok mw1011 rfl) (by decide +kernel) rfl ⟨Nat.le_of_ble_eq_true rfl, Nat.le_of_ble_eq_true rfl⟩ hl.1 rfl (Nat.le_of_ble_eq_true rfl) ⟨Nat.le_of_ble_eq_true rfl, Nat.le_of_ble_eq_true rfl⟩ dL_changes_222 hM (fun σ51 r52 H locs hG hM => ?_)
      refine g_callV_i (nA := 1) (o := M_X10_crew σ51 a0 r52) (As := [.int r52]) X.1 hG hA0 rfl rfl (fun _ _ h => C_X10_crew l E h hA0) mw497 mw498 mw499 mw12 (gw_ok mw500 rfl) (by decide +kernel) rfl ⟨Nat.le_of_ble_eq_true rfl, Nat.le_of_ble_eq_true rfl⟩ hl.1 rfl (Nat.le_of_ble_eq_true rfl) ⟨Nat.le_of_ble_eq_true rfl, Nat.le_of_ble_eq_true rfl⟩ dL_changes_225 hM (fun σ53 r54 H locs hG hM => ?_)
      refine lv_if_lt (tgt := 235) hx hb dL_changes_228 (by decide) (fun c55 => ?_) (fun c55 => ?_)
      · have hM := b_if hM c55
        refine lv_iconst (v := (0 : Int32)) hx hb dL_changes_235 (by decide) ?_
        exact e_zretM X hG (by decide) dL_changes_236 hM (Nat.le_of_ble_eq_true rfl) (Nat.le_of_ble_eq_true rfl)
      · have hM := b_else hM c55
        refine lv_iconst (v := (1 : Int32)) hx hb dL_changes_231 (by decide) ?_
        refine lv_goto (tgt := 236) hx hb dL_changes_232 (by decide) ?_
        exact e_zretM X hG (by decide) dL_changes_236 hM (Nat.le_of_ble_eq_true rfl) (Nat.le_of_ble_eq_true rfl)
    have hM := b_else hM c50
    by_cases c56 : r10.toInt = 6
    · have hM := b_if hM c56
      refine lv_tableIn (tgt := 237) hx hb dL_changes_36 (fun h => c11 (Or.inl h)) (fun h => c11 (Or.inr h)) (by rw [c56]; rfl) (by decide) ?_
      refine lv_aload_n hx hb dL_changes_237 rfl (lv_at hl 2 rfl) ?_
      refine lv_iload_n hx hb dL_changes_238 rfl (lv_at hl 0 rfl) ?_
      refine lv_iload_n hx hb dL_changes_239 rfl (lv_at hl 1 rfl) ?_
      refine g_callV_i (nA := 2) (o := M_X10_up σ9 a0 r8 r4) (As := [.int r8, .int r4]) X.1 hG hA0 rfl rfl (fun _ _ h => C_X10_up l E h hA0) mw510 mw511 mw512 mw12 (gw_ok mw513 rfl) (by decide +kernel) rfl ⟨Nat.le_of_ble_eq_true rfl, Nat.le_of_ble_eq_true rfl⟩ hl.1 rfl (Nat.le_of_ble_eq_true rfl) ⟨Nat.le_of_ble_eq_true rfl, Nat.le_of_ble_eq_true rfl⟩ dL_changes_240 hM (fun σ57 r58 H locs hG hM => ?_)
      refine lv_if_lt (tgt := 250) hx hb dL_changes_243 (by decide) (fun c59 => ?_) (fun c59 => ?_)
      · have hM := b_if hM c59
        refine lv_iconst (v := (0 : Int32)) hx hb dL_changes_250 (by decide) ?_
        exact e_zretM X hG (by decide) dL_changes_251 hM (Nat.le_of_ble_eq_true rfl) (Nat.le_of_ble_eq_true rfl)
      · have hM := b_else hM c59
        refine lv_iconst (v := (1 : Int32)) hx hb dL_changes_246 (by decide) ?_
        refine lv_goto (tgt := 251) hx hb dL_changes_247 (by decide) ?_
        exact e_zretM X hG (by decide) dL_changes_251 hM (Nat.le_of_ble_eq_true rfl) (Nat.le_of_ble_eq_true rfl)
    have hM := b_else hM c56
    by_cases c60 : r10.toInt = 7
    · have hM := b_if hM c60
      refine lv_tableIn (tgt := 237) hx hb dL_changes_36 (fun h => c11 (Or.inl h)) (fun h => c11 (Or.inr h)) (by rw [c60]; rfl) (by decide) ?_
      refine lv_aload_n hx hb dL_changes_237 rfl (lv_at hl 2 rfl) ?_
      refine lv_iload_n hx hb dL_changes_238 rfl (lv_at hl 0 rfl) ?_
      refine lv_iload_n hx hb dL_changes_239 rfl (lv_at hl 1 rfl) ?_
      refine g_callV_i (nA := 2) (o := M_X10_up σ9 a0 r8 r4) (As := [.int r8, .int r4]) X.1 hG hA0 rfl rfl (fun _ _ h => C_X10_up l E h hA0) mw510 mw511 mw512 mw12 (gw_ok mw513 rfl) (by decide +kernel) rfl ⟨Nat.le_of_ble_eq_true rfl, Nat.le_of_ble_eq_true rfl⟩ hl.1 rfl (Nat.le_of_ble_eq_true rfl) ⟨Nat.le_of_ble_eq_true rfl, Nat.le_of_ble_eq_true rfl⟩ dL_changes_240 hM (fun σ61 r62 H locs hG hM => ?_)
      refine lv_if_lt (tgt := 250) hx hb dL_changes_243 (by decide) (fun c63 => ?_) (fun c63 => ?_)
      · have hM := b_if hM c63
        refine lv_iconst (v := (0 : Int32)) hx hb dL_changes_250 (by decide) ?_
        exact e_zretM X hG (by decide) dL_changes_251 hM (Nat.le_of_ble_eq_true rfl) (Nat.le_of_ble_eq_true rfl)
      · have hM := b_else hM c63
        refine lv_iconst (v := (1 : Int32)) hx hb dL_changes_246 (by decide) ?_
        refine lv_goto (tgt := 251) hx hb dL_changes_247 (by decide) ?_
        exact e_zretM X hG (by decide) dL_changes_251 hM (Nat.le_of_ble_eq_true rfl) (Nat.le_of_ble_eq_true rfl)
    have hM := b_else hM c60
    by_cases c64 : r10.toInt = 8
    · have hM := b_if hM c64
      refine lv_tableIn (tgt := 252) hx hb dL_changes_36 (fun h => c11 (Or.inl h)) (fun h => c11 (Or.inr h)) (by rw [c64]; rfl) (by decide) ?_
      refine lv_aload_n hx hb dL_changes_252 rfl (lv_at hl 2 rfl) ?_
      refine lv_iload_n hx hb dL_changes_253 rfl (lv_at hl 0 rfl) ?_
      refine g_callV_i (nA := 1) (o := M_X10_down σ9 a0 r8) (As := [.int r8]) X.1 hG hA0 rfl rfl (fun _ _ h => C_X10_down l E h hA0) mw569 mw570 mw571 mw12 (gw_ok mw572 rfl) (by decide +kernel) rfl ⟨Nat.le_of_ble_eq_true rfl, Nat.le_of_ble_eq_true rfl⟩ hl.1 rfl (Nat.le_of_ble_eq_true rfl) ⟨Nat.le_of_ble_eq_true rfl, Nat.le_of_ble_eq_true rfl⟩ dL_changes_254 hM (fun σ65 r66 H locs hG hM => ?_)
      refine lv_if_lt (tgt := 264) hx hb dL_changes_257 (by decide) (fun c67 => ?_) (fun c67 => ?_)
      · have hM := b_if hM c67
        refine lv_iconst (v := (0 : Int32)) hx hb dL_changes_264 (by decide) ?_
        exact e_zretM X hG (by decide) dL_changes_265 hM (Nat.le_of_ble_eq_true rfl) (Nat.le_of_ble_eq_true rfl)
      · have hM := b_else hM c67
        refine lv_iconst (v := (1 : Int32)) hx hb dL_changes_260 (by decide) ?_
        refine lv_goto (tgt := 265) hx hb dL_changes_261 (by decide) ?_
        exact e_zretM X hG (by decide) dL_changes_265 hM (Nat.le_of_ble_eq_true rfl) (Nat.le_of_ble_eq_true rfl)
    have hM := b_else hM c64
    by_cases c68 : r10.toInt = 9
    · have hM := b_if hM c68
      refine lv_tableIn (tgt := 266) hx hb dL_changes_36 (fun h => c11 (Or.inl h)) (fun h => c11 (Or.inr h)) (by rw [c68]; rfl) (by decide) ?_
      refine lv_aload_n hx hb dL_changes_266 rfl (lv_at hl 2 rfl) ?_
      refine lv_iload_n hx hb dL_changes_267 rfl (lv_at hl 1 rfl) ?_
      refine lv_iload_n hx hb dL_changes_268 rfl (lv_at hl 3 rfl) ?_
      refine lv_bipush (v := (8 : Int32)) hx hb dL_changes_269 (by decide) ?_
      refine lv_ishr hx hb dL_changes_271 ?_
      refine lv_bipush (v := (11 : Int32)) hx hb dL_changes_272 (by decide) ?_
      refine g_callS_i (nA := 2) (o := M_L_some σ9 (p1 >>> ((8 : Int32) &&& 31)) (11 : Int32)) (As := [.int (p1 >>> ((8 : Int32) &&& 31)), .int (11 : Int32)]) X.1 hG (fun _ _ h => C_L_some l E h ) mw1009 mw1010 mw11 (gw_ok mw1011 rfl) (by decide +kernel) rfl ⟨Nat.le_of_ble_eq_true rfl, Nat.le_of_ble_eq_true rfl⟩ hl.1 rfl (Nat.le_of_ble_eq_true rfl) ⟨Nat.le_of_ble_eq_true rfl, Nat.le_of_ble_eq_true rfl⟩ dL_changes_274 hM (fun σ69 r70 H locs hG hM => ?_)
      refine g_callV_i (nA := 2) (o := M_X10_lift σ69 a0 r4 r70) (As := [.int r4, .int r70]) X.1 hG hA0 rfl rfl (fun _ _ h => C_X10_lift l E h hA0) mw581 mw582 mw583 mw12 (gw_ok mw584 rfl) (by decide +kernel) rfl ⟨Nat.le_of_ble_eq_true rfl, Nat.le_of_ble_eq_true rfl⟩ hl.1 rfl (Nat.le_of_ble_eq_true rfl) ⟨Nat.le_of_ble_eq_true rfl, Nat.le_of_ble_eq_true rfl⟩ dL_changes_277 hM (fun σ71 r72 H locs hG hM => ?_)
      refine lv_if_lt (tgt := 287) hx hb dL_changes_280 (by decide) (fun c73 => ?_) (fun c73 => ?_)
      · have hM := b_if hM c73
        refine lv_iconst (v := (0 : Int32)) hx hb dL_changes_287 (by decide) ?_
        exact e_zretM X hG (by decide) dL_changes_288 hM (Nat.le_of_ble_eq_true rfl) (Nat.le_of_ble_eq_true rfl)
      · have hM := b_else hM c73
        refine lv_iconst (v := (1 : Int32)) hx hb dL_changes_283 (by decide) ?_
        refine lv_goto (tgt := 288) hx hb dL_changes_284 (by decide) ?_
        exact e_zretM X hG (by decide) dL_changes_288 hM (Nat.le_of_ble_eq_true rfl) (Nat.le_of_ble_eq_true rfl)
    have hM := b_else hM c68
    by_cases c74 : r10.toInt = 10
    · have hM := b_if hM c74
      refine lv_tableIn (tgt := 289) hx hb dL_changes_36 (fun h => c11 (Or.inl h)) (fun h => c11 (Or.inr h)) (by rw [c74]; rfl) (by decide) ?_
      refine lv_aload_n hx hb dL_changes_289 rfl (lv_at hl 2 rfl) ?_
      refine lv_iload_n hx hb dL_changes_290 rfl (lv_at hl 3 rfl) ?_
      refine lv_iconst (v := (4 : Int32)) hx hb dL_changes_291 (by decide) ?_
      refine lv_ishr hx hb dL_changes_292 ?_
      refine lv_bipush (v := (12 : Int32)) hx hb dL_changes_293 (by decide) ?_
      refine g_callS_i (nA := 2) (o := M_L_some σ9 (p1 >>> ((4 : Int32) &&& 31)) (12 : Int32)) (As := [.int (p1 >>> ((4 : Int32) &&& 31)), .int (12 : Int32)]) X.1 hG (fun _ _ h => C_L_some l E h ) mw1009 mw1010 mw11 (gw_ok mw1011 rfl) (by decide +kernel) rfl ⟨Nat.le_of_ble_eq_true rfl, Nat.le_of_ble_eq_true rfl⟩ hl.1 rfl (Nat.le_of_ble_eq_true rfl) ⟨Nat.le_of_ble_eq_true rfl, Nat.le_of_ble_eq_true rfl⟩ dL_changes_295 hM (fun σ75 r76 H locs hG hM => ?_)
      refine g_callV_i (nA := 1) (o := M_X10_signal σ75 a0 r76) (As := [.int r76]) X.1 hG hA0 rfl rfl (fun _ _ h => C_X10_signal l E h hA0) mw598 mw599 mw600 mw12 (gw_ok mw601 rfl) (by decide +kernel) rfl ⟨Nat.le_of_ble_eq_true rfl, Nat.le_of_ble_eq_true rfl⟩ hl.1 rfl (Nat.le_of_ble_eq_true rfl) ⟨Nat.le_of_ble_eq_true rfl, Nat.le_of_ble_eq_true rfl⟩ dL_changes_298 hM (fun σ77 r78 H locs hG hM => ?_)
      refine lv_if_lt (tgt := 308) hx hb dL_changes_301 (by decide) (fun c79 => ?_) (fun c79 => ?_)
      · have hM := b_if hM c79
        refine lv_iconst (v := (0 : Int32)) hx hb dL_changes_308 (by decide) ?_
        exact e_zretM X hG (by decide) dL_changes_309 hM (Nat.le_of_ble_eq_true rfl) (Nat.le_of_ble_eq_true rfl)
      · have hM := b_else hM c79
        refine lv_iconst (v := (1 : Int32)) hx hb dL_changes_304 (by decide) ?_
        refine lv_goto (tgt := 309) hx hb dL_changes_305 (by decide) ?_
        exact e_zretM X hG (by decide) dL_changes_309 hM (Nat.le_of_ble_eq_true rfl) (Nat.le_of_ble_eq_true rfl)
    have hM := b_else hM c74
    by_cases c80 : r10.toInt = 11
    · have hM := b_if hM c80
      refine lv_tableIn (tgt := 310) hx hb dL_changes_36 (fun h => c11 (Or.inl h)) (fun h => c11 (Or.inr h)) (by rw [c80]; rfl) (by decide) ?_
      refine lv_aload_n hx hb dL_changes_310 rfl (lv_at hl 2 rfl) ?_
      refine lv_iload_n hx hb dL_changes_311 rfl (lv_at hl 3 rfl) ?_
      refine lv_iconst (v := (4 : Int32)) hx hb dL_changes_312 (by decide) ?_
      refine lv_ishr hx hb dL_changes_313 ?_
      refine lv_bipush (v := (11 : Int32)) hx hb dL_changes_314 (by decide) ?_
      refine g_callS_i (nA := 2) (o := M_L_some σ9 (p1 >>> ((4 : Int32) &&& 31)) (11 : Int32)) (As := [.int (p1 >>> ((4 : Int32) &&& 31)), .int (11 : Int32)]) X.1 hG (fun _ _ h => C_L_some l E h ) mw1009 mw1010 mw11 (gw_ok mw1011 rfl) (by decide +kernel) rfl ⟨Nat.le_of_ble_eq_true rfl, Nat.le_of_ble_eq_true rfl⟩ hl.1 rfl (Nat.le_of_ble_eq_true rfl) ⟨Nat.le_of_ble_eq_true rfl, Nat.le_of_ble_eq_true rfl⟩ dL_changes_316 hM (fun σ81 r82 H locs hG hM => ?_)
      refine g_callV_i (nA := 1) (o := M_X10_inspector σ81 a0 r82) (As := [.int r82]) X.1 hG hA0 rfl rfl (fun _ _ h => C_X10_inspector l E h hA0) mw611 mw612 mw613 mw12 (gw_ok mw614 rfl) (by decide +kernel) rfl ⟨Nat.le_of_ble_eq_true rfl, Nat.le_of_ble_eq_true rfl⟩ hl.1 rfl (Nat.le_of_ble_eq_true rfl) ⟨Nat.le_of_ble_eq_true rfl, Nat.le_of_ble_eq_true rfl⟩ dL_changes_319 hM (fun σ83 r84 H locs hG hM => ?_)
      refine lv_if_lt (tgt := 329) hx hb dL_changes_322 (by decide) (fun c85 => ?_) (fun c85 => ?_)
      · have hM := b_if hM c85
        refine lv_iconst (v := (0 : Int32)) hx hb dL_changes_329 (by decide) ?_
        exact e_zretM X hG (by decide) dL_changes_330 hM (Nat.le_of_ble_eq_true rfl) (Nat.le_of_ble_eq_true rfl)
      · have hM := b_else hM c85
        refine lv_iconst (v := (1 : Int32)) hx hb dL_changes_325 (by decide) ?_
        refine lv_goto (tgt := 330) hx hb dL_changes_326 (by decide) ?_
        exact e_zretM X hG (by decide) dL_changes_330 hM (Nat.le_of_ble_eq_true rfl) (Nat.le_of_ble_eq_true rfl)
    have hM := b_else hM c80
    by_cases c86 : r10.toInt = 12
    · have hM := b_if hM c86
      refine lv_tableIn (tgt := 331) hx hb dL_changes_36 (fun h => c11 (Or.inl h)) (fun h => c11 (Or.inr h)) (by rw [c86]; rfl) (by decide) ?_
      refine lv_aload_n hx hb dL_changes_331 rfl (lv_at hl 2 rfl) ?_
      refine lv_iload_n hx hb dL_changes_332 rfl (lv_at hl 3 rfl) ?_
      refine lv_bipush (v := (8 : Int32)) hx hb dL_changes_333 (by decide) ?_
      refine lv_ishr hx hb dL_changes_335 ?_
      refine lv_iconst (v := (3 : Int32)) hx hb dL_changes_336 (by decide) ?_
      refine g_callS_i (nA := 2) (o := M_L_some σ9 (p1 >>> ((8 : Int32) &&& 31)) (3 : Int32)) (As := [.int (p1 >>> ((8 : Int32) &&& 31)), .int (3 : Int32)]) X.1 hG (fun _ _ h => C_L_some l E h ) mw1009 mw1010 mw11 (gw_ok mw1011 rfl) (by decide +kernel) rfl ⟨Nat.le_of_ble_eq_true rfl, Nat.le_of_ble_eq_true rfl⟩ hl.1 rfl (Nat.le_of_ble_eq_true rfl) ⟨Nat.le_of_ble_eq_true rfl, Nat.le_of_ble_eq_true rfl⟩ dL_changes_337 hM (fun σ87 r88 H locs hG hM => ?_)
      refine lv_iload_n hx hb dL_changes_340 rfl (lv_at hl 1 rfl) ?_
      refine g_callV_i (nA := 2) (o := M_X10_inspect σ87 a0 r88 r4) (As := [.int r88, .int r4]) X.1 hG hA0 rfl rfl (fun _ _ h => C_X10_inspect l E h hA0) mw624 mw625 mw626 mw12 (gw_ok mw627 rfl) (by decide +kernel) rfl ⟨Nat.le_of_ble_eq_true rfl, Nat.le_of_ble_eq_true rfl⟩ hl.1 rfl (Nat.le_of_ble_eq_true rfl) ⟨Nat.le_of_ble_eq_true rfl, Nat.le_of_ble_eq_true rfl⟩ dL_changes_341 hM (fun σ89 r90 H locs hG hM => ?_)
      refine lv_if_lt (tgt := 351) hx hb dL_changes_344 (by decide) (fun c91 => ?_) (fun c91 => ?_)
      · have hM := b_if hM c91
        refine lv_iconst (v := (0 : Int32)) hx hb dL_changes_351 (by decide) ?_
        exact e_zretM X hG (by decide) dL_changes_352 hM (Nat.le_of_ble_eq_true rfl) (Nat.le_of_ble_eq_true rfl)
      · have hM := b_else hM c91
        refine lv_iconst (v := (1 : Int32)) hx hb dL_changes_347 (by decide) ?_
        refine lv_goto (tgt := 352) hx hb dL_changes_348 (by decide) ?_
        exact e_zretM X hG (by decide) dL_changes_352 hM (Nat.le_of_ble_eq_true rfl) (Nat.le_of_ble_eq_true rfl)
    have hM := b_else hM c86
    by_cases c92 : r10.toInt = 13
    · have hM := b_if hM c92
      refine lv_tableIn (tgt := 353) hx hb dL_changes_36 (fun h => c11 (Or.inl h)) (fun h => c11 (Or.inr h)) (by rw [c92]; rfl) (by decide) ?_
      refine lv_aload_n hx hb dL_changes_353 rfl (lv_at hl 2 rfl) ?_
      refine lv_iload_n hx hb dL_changes_354 rfl (lv_at hl 3 rfl) ?_
      refine lv_iconst (v := (4 : Int32)) hx hb dL_changes_355 (by decide) ?_
      refine lv_ishr hx hb dL_changes_356 ?_
      refine lv_bipush (v := (32 : Int32)) hx hb dL_changes_357 (by decide) ?_
      refine g_callS_i (nA := 2) (o := M_L_some σ9 (p1 >>> ((4 : Int32) &&& 31)) (32 : Int32)) (As := [.int (p1 >>> ((4 : Int32) &&& 31)), .int (32 : Int32)]) X.1 hG (fun _ _ h => C_L_some l E h ) mw1009 mw1010 mw11 (gw_ok mw1011 rfl) (by decide +kernel) rfl ⟨Nat.le_of_ble_eq_true rfl, Nat.le_of_ble_eq_true rfl⟩ hl.1 rfl (Nat.le_of_ble_eq_true rfl) ⟨Nat.le_of_ble_eq_true rfl, Nat.le_of_ble_eq_true rfl⟩ dL_changes_359 hM (fun σ93 r94 H locs hG hM => ?_)
      refine g_callV_i (nA := 1) (o := M_X10_day σ93 a0 r94) (As := [.int r94]) X.1 hG hA0 rfl rfl (fun _ _ h => C_X10_day l E h hA0) mw661 mw662 mw663 mw12 (gw_ok mw664 rfl) (by decide +kernel) rfl ⟨Nat.le_of_ble_eq_true rfl, Nat.le_of_ble_eq_true rfl⟩ hl.1 rfl (Nat.le_of_ble_eq_true rfl) ⟨Nat.le_of_ble_eq_true rfl, Nat.le_of_ble_eq_true rfl⟩ dL_changes_362 hM (fun σ95 r96 H locs hG hM => ?_)
      refine lv_if_lt (tgt := 372) hx hb dL_changes_365 (by decide) (fun c97 => ?_) (fun c97 => ?_)
      · have hM := b_if hM c97
        refine lv_iconst (v := (0 : Int32)) hx hb dL_changes_372 (by decide) ?_
        exact e_zretM X hG (by decide) dL_changes_373 hM (Nat.le_of_ble_eq_true rfl) (Nat.le_of_ble_eq_true rfl)
      · have hM := b_else hM c97
        refine lv_iconst (v := (1 : Int32)) hx hb dL_changes_368 (by decide) ?_
        refine lv_goto (tgt := 373) hx hb dL_changes_369 (by decide) ?_
        exact e_zretM X hG (by decide) dL_changes_373 hM (Nat.le_of_ble_eq_true rfl) (Nat.le_of_ble_eq_true rfl)
    have hM := b_else hM c92
    by_cases c98 : r10.toInt = 14
    · have hM := b_if hM c98
      refine lv_tableIn (tgt := 353) hx hb dL_changes_36 (fun h => c11 (Or.inl h)) (fun h => c11 (Or.inr h)) (by rw [c98]; rfl) (by decide) ?_
      refine lv_aload_n hx hb dL_changes_353 rfl (lv_at hl 2 rfl) ?_
      refine lv_iload_n hx hb dL_changes_354 rfl (lv_at hl 3 rfl) ?_
      refine lv_iconst (v := (4 : Int32)) hx hb dL_changes_355 (by decide) ?_
      refine lv_ishr hx hb dL_changes_356 ?_
      refine lv_bipush (v := (32 : Int32)) hx hb dL_changes_357 (by decide) ?_
      refine g_callS_i (nA := 2) (o := M_L_some σ9 (p1 >>> ((4 : Int32) &&& 31)) (32 : Int32)) (As := [.int (p1 >>> ((4 : Int32) &&& 31)), .int (32 : Int32)]) X.1 hG (fun _ _ h => C_L_some l E h ) mw1009 mw1010 mw11 (gw_ok mw1011 rfl) (by decide +kernel) rfl ⟨Nat.le_of_ble_eq_true rfl, Nat.le_of_ble_eq_true rfl⟩ hl.1 rfl (Nat.le_of_ble_eq_true rfl) ⟨Nat.le_of_ble_eq_true rfl, Nat.le_of_ble_eq_true rfl⟩ dL_changes_359 hM (fun σ99 r100 H locs hG hM => ?_)
      refine g_callV_i (nA := 1) (o := M_X10_day σ99 a0 r100) (As := [.int r100]) X.1 hG hA0 rfl rfl (fun _ _ h => C_X10_day l E h hA0) mw661 mw662 mw663 mw12 (gw_ok mw664 rfl) (by decide +kernel) rfl ⟨Nat.le_of_ble_eq_true rfl, Nat.le_of_ble_eq_true rfl⟩ hl.1 rfl (Nat.le_of_ble_eq_true rfl) ⟨Nat.le_of_ble_eq_true rfl, Nat.le_of_ble_eq_true rfl⟩ dL_changes_362 hM (fun σ101 r102 H locs hG hM => ?_)
      refine lv_if_lt (tgt := 372) hx hb dL_changes_365 (by decide) (fun c103 => ?_) (fun c103 => ?_)
      · have hM := b_if hM c103
        refine lv_iconst (v := (0 : Int32)) hx hb dL_changes_372 (by decide) ?_
        exact e_zretM X hG (by decide) dL_changes_373 hM (Nat.le_of_ble_eq_true rfl) (Nat.le_of_ble_eq_true rfl)
      · have hM := b_else hM c103
        refine lv_iconst (v := (1 : Int32)) hx hb dL_changes_368 (by decide) ?_
        refine lv_goto (tgt := 373) hx hb dL_changes_369 (by decide) ?_
        exact e_zretM X hG (by decide) dL_changes_373 hM (Nat.le_of_ble_eq_true rfl) (Nat.le_of_ble_eq_true rfl)
    have hM := b_else hM c98
    cases hM
