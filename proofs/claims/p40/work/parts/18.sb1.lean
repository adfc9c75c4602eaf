theorem sb_neg : ∀ d, d < 10 → ¬ (Int32.ofNat d < 0) ∧ ¬ (-(Int32.ofNat d) ≤ -10) ∧ (-100 < -(Int32.ofNat d)) ∧ (-9 ≤ -(Int32.ofNat d)) ∧ (- -(Int32.ofNat d)).toNatClampNeg = d ∧ ¬ (- -(Int32.ofNat d) < 0) := by decide +kernel
theorem sb_room : ∀ k, k < 17 → Int32.ofNat k - (Int32.ofNat 16 >>> ((0 : Int32) &&& 31)) ≤ 0 := by decide +kernel
theorem sb_shl : ∀ k, k < 17 → Int32.ofNat k <<< ((0 : Int32) &&& 31) = Int32.ofNat k := by decide +kernel
theorem sb_cl : ∀ k, k < 17 → (Int32.ofNat k).toNatClampNeg = k ∧ ¬ (Int32.ofNat k < 0) := by decide +kernel
theorem q_dec : ∀ k, k < 16 → (Int32.ofNat (k + 1) + -1) = Int32.ofNat k := by decide +kernel
theorem sb_ne16 : ∀ k, k < 16 → ¬ (Int32.ofNat k = Int32.ofNat 16) := by decide +kernel
def sbC (v : Nat) (n : Int32) : va_E := .inr (12, [.ref v, .int 0, .int 0, .int n])
def arB (E : Ev) (f : Nat → Int32) : va_E := .inl (eB E, 16, .inl f)
def cpT (z : Nat) (f : Nat → Int32) (n : Nat) : Nat → Int32 := va_cpy (fun j => (byS z).getD j 0) f 0 n (lnS z)
theorem len_all (σ : St) {z : Nat} (h : lnS z < 17) : M_J0_length_8abf5 σ z = some (σ, Int32.ofNat (lnS z)) := by
  have e : ∀ k, k < 17 → Int32.ofNat k >>> ((0 : Int32) &&& 31) = Int32.ofNat k := by decide +kernel
  show some (σ, Int32.ofNat (lnS z) >>> ((0 : Int32) &&& 31)) = _
  rw [e _ h]
theorem gw_u {own : String} {idx : Nat} {C owner : String} {x y : MethodName} {cc : ByteArray} {nL : Nat} {ret : Option FieldType} (w1 : Cond.methodLink own idx x ∈ lw_tbl) (w2 : Cond.sameMethod x.cls owner x.name x.desc ∈ lw_tbl) (w3 : Cond.selects C x y ∈ lw_tbl) (w4 : Cond.instanceMethod y ∈ lw_tbl) (w5 : Cond.initialized y.cls ∈ lw_tbl) (hg : GoodIn (lw_tbl.filter goodWord) (wsM y cc nL ret)) : GoodIn (lw_tbl.filter goodWord) (va_wsU own idx C owner x y (wsM y cc nL ret)) := fun w hw => (List.mem_append.mp hw).elim (fun h => by rcases List.mem_cons.mp h with rfl | h; exact ⟨gw_in w1 rfl, good_of_word rfl⟩; rcases List.mem_cons.mp h with rfl | h; exact ⟨gw_in w2 rfl, good_of_word rfl⟩; rcases List.mem_cons.mp h with rfl | h; exact ⟨gw_in w3 rfl, good_of_word rfl⟩; rcases List.mem_cons.mp h with rfl | h; exact ⟨gw_in w4 rfl, good_of_word rfl⟩; rcases List.mem_cons.mp h with rfl | h; exact ⟨gw_in w5 rfl, good_of_word rfl⟩; cases h) (hg w)
theorem gw_o {own : String} {idx : Nat} {C owner : String} {x y : MethodName} {cc : ByteArray} {nL : Nat} {ret : Option FieldType} (w1 : Cond.methodLink own idx x ∈ lw_tbl) (w2 : Cond.sameMethod x.cls owner x.name x.desc ∈ lw_tbl) (w6 : Cond.instanceMethod ⟨owner, x.name, x.desc⟩ ∈ lw_tbl) (w3 : Cond.selects C x y ∈ lw_tbl) (w4 : Cond.instanceMethod y ∈ lw_tbl) (w5 : Cond.initialized y.cls ∈ lw_tbl) (hg : GoodIn (lw_tbl.filter goodWord) (wsM y cc nL ret)) : GoodIn (lw_tbl.filter goodWord) (va_wsO own idx C owner x y (wsM y cc nL ret)) := fun w hw => (List.mem_append.mp hw).elim (fun h => by rcases List.mem_cons.mp h with rfl | h; exact ⟨gw_in w1 rfl, good_of_word rfl⟩; rcases List.mem_cons.mp h with rfl | h; exact ⟨gw_in w2 rfl, good_of_word rfl⟩; rcases List.mem_cons.mp h with rfl | h; exact ⟨gw_in w6 rfl, good_of_word rfl⟩; rcases List.mem_cons.mp h with rfl | h; exact ⟨gw_in w3 rfl, good_of_word rfl⟩; rcases List.mem_cons.mp h with rfl | h; exact ⟨gw_in w4 rfl, good_of_word rfl⟩; rcases List.mem_cons.mp h with rfl | h; exact ⟨gw_in w5 rfl, good_of_word rfl⟩; cases h) (hg w)
theorem gw_su {own : String} {idx : Nat} {y : MethodName} {cc : ByteArray} {nL : Nat} {ret : Option FieldType} (w1 : Cond.methodLink own idx y ∈ lw_tbl) (w2 : Cond.sameMethod y.cls y.cls y.name y.desc ∈ lw_tbl) (w3 : Cond.superclass own y.cls ∈ lw_tbl) (w4 : Cond.instanceMethod y ∈ lw_tbl) (w5 : Cond.initialized y.cls ∈ lw_tbl) (hg : GoodIn (lw_tbl.filter goodWord) (wsM y cc nL ret)) : GoodIn (lw_tbl.filter goodWord) (va_wsSU own idx y (wsM y cc nL ret)) := fun w hw => (List.mem_append.mp hw).elim (fun h => by rcases List.mem_cons.mp h with rfl | h; exact ⟨gw_in w1 rfl, good_of_word rfl⟩; rcases List.mem_cons.mp h with rfl | h; exact ⟨gw_in w2 rfl, good_of_word rfl⟩; rcases List.mem_cons.mp h with rfl | h; exact ⟨gw_in w3 rfl, good_of_word rfl⟩; rcases List.mem_cons.mp h with rfl | h; exact ⟨gw_in w4 rfl, good_of_word rfl⟩; rcases List.mem_cons.mp h with rfl | h; exact ⟨gw_in w5 rfl, good_of_word rfl⟩; cases h) (hg w)
theorem gw_v {own C : String} {idx : Nat} {y : MethodName} {cc : ByteArray} {nL : Nat} {ret : Option FieldType} (w1 : Cond.methodLink own idx y ∈ lw_tbl) (w2 : Cond.instanceMethod y ∈ lw_tbl) (w3 : Cond.selects C y y ∈ lw_tbl) (w4 : Cond.initialized C ∈ lw_tbl) (hg : GoodIn (lw_tbl.filter goodWord) (wsM y cc nL ret)) : GoodIn (lw_tbl.filter goodWord) (wsV own idx C y (wsM y cc nL ret)) := fun w hw => (List.mem_append.mp hw).elim (fun h => by rcases List.mem_cons.mp h with rfl | h; exact ⟨gw_in w1 rfl, good_of_word rfl⟩; rcases List.mem_cons.mp h with rfl | h; exact ⟨gw_in w2 rfl, good_of_word rfl⟩; rcases List.mem_cons.mp h with rfl | h; exact ⟨gw_in w3 rfl, good_of_word rfl⟩; rcases List.mem_cons.mp h with rfl | h; exact ⟨gw_in w4 rfl, good_of_word rfl⟩; cases h) (hg w)
theorem q_at {E : Ev} {p : Program} {m : MethodId} {c : Code} {cc : ByteArray} {nL : Nat} {s : State} {args : Array Value} {own : String} (X : Cx E p m c cc nL s args own) : ClassAt s RJ4 (E.2.1.1 12) := (X.2.1.1 12 _ rfl).2
theorem sb_min : ∀ k, k < 17 → (if Int32.ofNat k < Int32.ofNat 16 then Int32.ofNat k else Int32.ofNat 16) = Int32.ofNat k := by decide +kernel
theorem XR.T {s : State} {H : Heap} {locs : List Loc} {E : Ev} {σ : St} {L : List (Nat × va_E)} (h : XR E σ L s.heap H locs) (hK : va_K E.2.1 vwCl (tysE E) s) {i v : Nat} {f : Nat → Int32} (he : L[i]? = some (v, .inl (eB E, 16, .inl f))) {U : State} (hU : U.heap = H) (hW : s.WarmedH U.vm) : va_T .byte v 16 (fun j => .int (f j)) (AE (eN E L)) U U.heap := by
  have hP := h.1 (248 + i) _ (by rw [gW_ap]; exact he)
  refine ⟨vp_cell (eB E) (16, .inl f), by rw [hU]; exact hP, ((va_K.moved hW.alike hK).2 3 _ rfl).1 16 (fun j => .int (f j)), (fun z => by cases z), ?_, ?_, fun j hj => ?_, fun z => z.2 _ (List.mem_of_getElem? he) rfl⟩
  · show 16 ≤ (arrV _ _ _).slots.size
    rw [arrV_size]; exact Nat.le_refl _
  · show (arrV _ _ _).slots.size.toInt32 = _
    rw [arrV_size]
  · show (arrV _ _ _).slots[j]? = _
    rw [arrV_read _ _ hj]
theorem XR.lt {H0 H : Heap} {locs : List Loc} {E : Ev} {σ : St} {L : List (Nat × va_E)} (h : XR E σ L H0 H locs) {x : Nat × va_E} (hx : x ∈ L) : x.1 < H.size := by
  obtain ⟨i, hi⟩ := List.mem_iff_getElem?.mp hx
  exact (h.1 (248 + i) x (by rw [gW_ap]; exact hi)).lt
set_option maxRecDepth 20000 in
set_option maxHeartbeats 4000000 in
theorem X_ssz (l : Launch) (E : Ev) {σ : St} {d : Nat} {L : List (Nat × va_E)} (hd : d < 10) : Xi l E yJ6_stringSize_0f7a4 cJ6_stringSize_0f7a4 4 (some .int) 1 0 0 [.int (Int32.ofNat d)] σ (L) (fun r u => r = 1 ∧ u = L) := by
  refine Xi_of (C := RJ6) rfl (by decide +kernel) (Nat.le_of_ble_eq_true rfl) (fun p e s m below meth c ls X hAn hPV hG hl hnm => ?_)
  have hx := X.1.1.1
  have hb := X.1.1.2.1
  have hl : lv_has ls 4 [(0, .int (Int32.ofNat d))] := hl
  refine lv_iconst (v := (1 : Int32)) hx hb dJ6_stringSize_0f7a4_0 (by decide) ?_
  refine lv_istore_n (lv' := [(1, .int (1 : Int32)), (0, .int (Int32.ofNat d))]) hx hb dJ6_stringSize_0f7a4_1 rfl hl (by decide) rfl (fun ls hl => ?_)
  refine lv_iload_n hx hb dJ6_stringSize_0f7a4_2 rfl (lv_at hl 1 rfl) ?_
  refine lv_if_lt (tgt := 11) hx hb dJ6_stringSize_0f7a4_3 (by decide) (fun c1 => absurd c1 (sb_neg d hd).1) (fun c1 => ?_)
  refine lv_iconst (v := (0 : Int32)) hx hb dJ6_stringSize_0f7a4_6 (by decide) ?_
  refine lv_istore_n (lv' := [(1, .int (0 : Int32)), (0, .int (Int32.ofNat d))]) hx hb dJ6_stringSize_0f7a4_7 rfl hl (by decide) rfl (fun ls hl => ?_)
  refine lv_iload_n hx hb dJ6_stringSize_0f7a4_8 rfl (lv_at hl 1 rfl) ?_
  refine lv_ineg hx hb dJ6_stringSize_0f7a4_9 ?_
  refine lv_istore_n (lv' := [(0, .int (-(Int32.ofNat d))), (1, .int (0 : Int32))]) hx hb dJ6_stringSize_0f7a4_10 rfl hl (by decide) rfl (fun ls hl => ?_)
  refine lv_bipush (v := (-10 : Int32)) hx hb dJ6_stringSize_0f7a4_11 (by decide) ?_
  refine lv_istore_n (lv' := [(2, .int (-10 : Int32)), (0, .int (-(Int32.ofNat d))), (1, .int (0 : Int32))]) hx hb dJ6_stringSize_0f7a4_13 rfl hl (by decide) rfl (fun ls hl => ?_)
  refine lv_iconst (v := (1 : Int32)) hx hb dJ6_stringSize_0f7a4_14 (by decide) ?_
  refine lv_istore_n (lv' := [(3, .int (1 : Int32)), (2, .int (-10 : Int32)), (0, .int (-(Int32.ofNat d))), (1, .int (0 : Int32))]) hx hb dJ6_stringSize_0f7a4_15 rfl hl (by decide) rfl (fun ls hl => ?_)
  refine lv_iload_n hx hb dJ6_stringSize_0f7a4_16 rfl (lv_at hl 0 rfl) ?_
  refine lv_bipush (v := (10 : Int32)) hx hb dJ6_stringSize_0f7a4_17 (by decide) ?_
  refine lv_icmp_ge (tgt := 42) hx hb dJ6_stringSize_0f7a4_19 (by decide) (fun c2 => absurd c2 (by decide)) (fun c2 => ?_)
  refine lv_iload_n hx hb dJ6_stringSize_0f7a4_22 rfl (lv_at hl 2 rfl) ?_
  refine lv_iload_n hx hb dJ6_stringSize_0f7a4_23 rfl (lv_at hl 1 rfl) ?_
  refine lv_icmp_le (tgt := 31) hx hb dJ6_stringSize_0f7a4_24 (by decide) (fun c3 => absurd c3 (sb_neg d hd).2.1) (fun c3 => ?_)
  refine lv_iload_n hx hb dJ6_stringSize_0f7a4_27 rfl (lv_at hl 0 rfl) ?_
  refine lv_iload_n hx hb dJ6_stringSize_0f7a4_28 rfl (lv_at hl 3 rfl) ?_
  refine lv_iadd hx hb dJ6_stringSize_0f7a4_29 ?_
  exact xe_i X hG dJ6_stringSize_0f7a4_30 ⟨by decide, rfl⟩ (Nat.le_refl _) (Nat.le_refl _)
set_option maxRecDepth 20000 in
set_option maxHeartbeats 4000000 in
theorem X_lat (l : Launch) (E : Ev) {σ : St} {q v : Nat} {n : Int32} {L : List (Nat × va_E)} (he0 : L[0]? = some (q, .inr (12, [.ref v, .int 0, .int 0, .int n]))) : Xi l E yJ5_isLatin1_aae02 cJ5_isLatin1_aae02 1 (some .boolean) 1 0 0 [.ref q] σ (L) (fun r u => r = 1 ∧ u = L) := by
  refine Xi_of (C := RJ5) rfl (by decide +kernel) (Nat.le_of_ble_eq_true rfl) (fun p e s m below meth c ls X hAn hPV hG hl hnm => ?_)
  have hx := X.1.1.1
  have hb := X.1.1.2.1
  have hl : lv_has ls 1 [(0, .ref q)] := hl
  refine g_stC X.1 hG.gs mw1128 dJ5_isLatin1_aae02_0 ?_
  refine lv_if_eq (tgt := 17) hx hb dJ5_isLatin1_aae02_3 (by decide) (fun c1 => absurd c1 (by decide)) (fun c1 => ?_)
  refine lv_aload_n hx hb dJ5_isLatin1_aae02_6 rfl (lv_at hl 0 rfl) ?_
  refine x_get X.1 hG he0 1 (by decide) mw1137 rfl dJ5_isLatin1_aae02_7 ?_
  refine lv_if_ne (tgt := 17) hx hb dJ5_isLatin1_aae02_10 (by decide) (fun c2 => absurd rfl c2) (fun c2 => ?_)
  refine lv_iconst (v := (1 : Int32)) hx hb dJ5_isLatin1_aae02_13 (by decide) ?_
  refine lv_goto (tgt := 18) hx hb dJ5_isLatin1_aae02_14 (by decide) ?_
  exact xe_z X hG (by decide) dJ5_isLatin1_aae02_18 ⟨rfl, rfl⟩ (Nat.le_refl _) (Nat.le_refl _)
set_option maxRecDepth 20000 in
set_option maxHeartbeats 4000000 in
theorem X_gv (l : Launch) (E : Ev) {σ : St} {q v : Nat} {n : Int32} {L : List (Nat × va_E)} (he0 : L[0]? = some (q, .inr (12, [.ref v, .int 0, .int 0, .int n]))) : Xr l E yJ5_getValue_6d5f1 cJ5_getValue_6d5f1 1 (some (.array .byte)) 1 0 0 [.ref q] σ (L) none (fun r u => r = v ∧ u = L) := by
  refine Xr_of (C := RJ5) rfl (by decide +kernel) (Nat.le_of_ble_eq_true rfl) (fun p e s m below meth c ls X hAn hPV hT hG hl hnm => ?_)
  have hx := X.1.1.1
  have hb := X.1.1.2.1
  have hl : lv_has ls 1 [(0, .ref q)] := hl
  refine lv_aload_n hx hb dJ5_getValue_6d5f1_0 rfl (lv_at hl 0 rfl) ?_
  refine x_get X.1 hG he0 0 (by decide) mw1136 rfl dJ5_getValue_6d5f1_1 ?_
  exact xe_r X (Or.inr ⟨_, rfl⟩) hG dJ5_getValue_6d5f1_4 ⟨rfl, rfl⟩ (Nat.le_refl _) (Nat.le_refl _)
set_option maxRecDepth 20000 in
set_option maxHeartbeats 4000000 in
theorem X_len5 (l : Launch) (E : Ev) {σ : St} {q v : Nat} {n : Int32} {L : List (Nat × va_E)} (he0 : L[0]? = some (q, .inr (12, [.ref v, .int 0, .int 0, .int n]))) : Xi l E yJ5_length_8abf5 cJ5_length_8abf5 1 (some .int) 1 0 0 [.ref q] σ (L) (fun r u => r = n ∧ u = L) := by
  refine Xi_of (C := RJ5) rfl (by decide +kernel) (Nat.le_of_ble_eq_true rfl) (fun p e s m below meth c ls X hAn hPV hG hl hnm => ?_)
  have hx := X.1.1.1
  have hb := X.1.1.2.1
  have hl : lv_has ls 1 [(0, .ref q)] := hl
  refine lv_aload_n hx hb dJ5_length_8abf5_0 rfl (lv_at hl 0 rfl) ?_
  refine x_get X.1 hG he0 3 (by decide) mw1139 rfl dJ5_length_8abf5_1 ?_
  exact xe_i X hG dJ5_length_8abf5_4 ⟨rfl, rfl⟩ (Nat.le_refl _) (Nat.le_refl _)
set_option maxRecDepth 20000 in
set_option maxHeartbeats 4000000 in
theorem X_len4 (l : Launch) (E : Ev) {σ : St} {q v : Nat} {n : Int32} {L : List (Nat × va_E)} (he0 : L[0]? = some (q, .inr (12, [.ref v, .int 0, .int 0, .int n]))) : Xi l E yJ4_length_8abf5 cJ4_length_8abf5 1 (some .int) 2 0 0 [.ref q] σ (L) (fun r u => r = n ∧ u = L) := by
  refine Xi_of (C := RJ4) rfl (by decide +kernel) (Nat.le_of_ble_eq_true rfl) (fun p e s m below meth c ls X hAn hPV hG hl hnm => ?_)
  have hx := X.1.1.1
  have hb := X.1.1.2.1
  have hl : lv_has ls 1 [(0, .ref q)] := hl
  refine lv_aload_n hx hb dJ4_length_8abf5_0 rfl (lv_at hl 0 rfl) ?_
  refine x_endi (va_runSU (q_at X.1) X.1.1 (X_len5 l E he0) (va_cwSU 0 X.1.1.2.2.2.2 (gw_su mw1295 mw1291 mw1148 mw1290 mw32 (gw_ok mw1296 rfl)) rfl rfl rfl (by decide +kernel) ⟨Nat.le_of_ble_eq_true rfl, Nat.le_of_ble_eq_true rfl⟩) ⟨XN_blind, x_recv X.1 hG he0 rfl, XN_pre X.1.2.1 X.1.2.2.1 X.1.2.2.2 hAn hPV hG _⟩ rfl rfl hl.1 rfl (lv_room (Nat.le_of_ble_eq_true rfl)) dJ4_length_8abf5_1 ⟨Nat.le_of_ble_eq_true rfl, Nat.le_of_ble_eq_true rfl⟩) hG (fun r u H locs hu hG => ?_)
  exact xe_i X hG dJ4_length_8abf5_4 hu (Nat.le_refl _) (Nat.le_refl _)
set_option maxRecDepth 20000 in
set_option maxHeartbeats 4000000 in
theorem X_ens (l : Launch) (E : Ev) {σ : St} {q v n : Nat} {f : Nat → Int32} {k : Nat} (hk : k < 17) : Xv l E yJ5_ensureCapacityInternal_d00df cJ5_ensureCapacityInternal_d00df 3 1 0 0 [.ref q, .int (Int32.ofNat k)] σ ([(q, sbC v (Int32.ofNat n)), (v, arB E f)]) (fun u => u = [(q, sbC v (Int32.ofNat n)), (v, arB E f)]) := by
  refine Xv_of (C := RJ5) rfl (by decide +kernel) (Nat.le_of_ble_eq_true rfl) (fun p e s m below meth c ls X hAn hPV hG hl hnm => ?_)
  have hx := X.1.1.1
  have hb := X.1.1.2.1
  have he0 : ([(q, sbC v (Int32.ofNat n)), (v, arB E f)] : List (Nat × va_E))[0]? = some (q, .inr (12, [.ref v, .int 0, .int 0, .int (Int32.ofNat n)])) := rfl
  have he1 : ([(q, sbC v (Int32.ofNat n)), (v, arB E f)] : List (Nat × va_E))[1]? = some (v, .inl (eB E, 16, .inl f)) := rfl
  have hl : lv_has ls 3 [(0, .ref q), (1, .int (Int32.ofNat k))] := hl
  refine lv_aload_n hx hb dJ5_ensureCapacityInternal_d00df_0 rfl (lv_at hl 0 rfl) ?_
  refine x_get X.1 hG he0 0 (by decide) mw1136 rfl dJ5_ensureCapacityInternal_d00df_1 ?_
  refine x_len X.1 hG he1 dJ5_ensureCapacityInternal_d00df_4 ?_
  refine lv_aload_n hx hb dJ5_ensureCapacityInternal_d00df_5 rfl (lv_at hl 0 rfl) ?_
  refine x_get X.1 hG he0 1 (by decide) mw1137 rfl dJ5_ensureCapacityInternal_d00df_6 ?_
  refine lv_ishr hx hb dJ5_ensureCapacityInternal_d00df_9 ?_
  refine lv_istore_n (lv' := [(2, .int (Int32.ofNat 16 >>> ((0 : Int32) &&& 31))), (0, .ref q), (1, .int (Int32.ofNat k))]) hx hb dJ5_ensureCapacityInternal_d00df_10 rfl hl (by decide) rfl (fun ls hl => ?_)
  refine lv_iload_n hx hb dJ5_ensureCapacityInternal_d00df_11 rfl (lv_at hl 2 rfl) ?_
  refine lv_iload_n hx hb dJ5_ensureCapacityInternal_d00df_12 rfl (lv_at hl 0 rfl) ?_
  refine lv_isub hx hb dJ5_ensureCapacityInternal_d00df_13 ?_
  refine lv_if_le (tgt := 38) hx hb dJ5_ensureCapacityInternal_d00df_14 (by decide) (fun c1 => ?_) (fun c1 => absurd (sb_room k hk) c1)
  exact xe_v X hG dJ5_ensureCapacityInternal_d00df_38 rfl (Nat.le_refl _) (Nat.le_refl _)
set_option maxRecDepth 20000 in
set_option maxHeartbeats 4000000 in
theorem X_inf (l : Launch) (E : Ev) {σ : St} {q v n : Nat} {f : Nat → Int32} {z : Nat} (hz : okS E z) : Xv l E yJ5_inflateIfNeededFor_a7421 cJ5_inflateIfNeededFor_a7421 2 2 0 0 [.ref q, .ref (eK E z)] σ ([(q, sbC v (Int32.ofNat n)), (v, arB E f)]) (fun u => u = [(q, sbC v (Int32.ofNat n)), (v, arB E f)]) := by
  refine Xv_of (C := RJ5) rfl (by decide +kernel) (Nat.le_of_ble_eq_true rfl) (fun p e s m below meth c ls X hAn hPV hG hl hnm => ?_)
  have hx := X.1.1.1
  have hb := X.1.1.2.1
  have he0 : ([(q, sbC v (Int32.ofNat n)), (v, arB E f)] : List (Nat × va_E))[0]? = some (q, .inr (12, [.ref v, .int 0, .int 0, .int (Int32.ofNat n)])) := rfl
  have hl : lv_has ls 2 [(0, .ref q), (1, .ref (eK E z))] := hl
  refine g_stC X.1 hG.gs mw1128 dJ5_inflateIfNeededFor_a7421_0 ?_
  refine lv_if_eq (tgt := 21) hx hb dJ5_inflateIfNeededFor_a7421_3 (by decide) (fun c1 => absurd c1 (by decide)) (fun c1 => ?_)
  refine lv_aload_n hx hb dJ5_inflateIfNeededFor_a7421_6 rfl (lv_at hl 0 rfl) ?_
  refine x_get X.1 hG he0 1 (by decide) mw1137 rfl dJ5_inflateIfNeededFor_a7421_7 ?_
  refine lv_aload_n hx hb dJ5_inflateIfNeededFor_a7421_10 rfl (lv_at hl 1 rfl) ?_
  refine x_text (d := 1) X.1 hG hz (C_J0_coder_7d493 l (eN E _) (r := 0) rfl hz) rfl mw1219 mw771 mw772 mw25 (gw_ok mw773 rfl) (by decide +kernel) ⟨Nat.le_of_ble_eq_true rfl, Nat.le_of_ble_eq_true rfl⟩ hl.1 (Nat.le_of_ble_eq_true rfl) ⟨Nat.le_of_ble_eq_true rfl, Nat.le_of_ble_eq_true rfl⟩ dJ5_inflateIfNeededFor_a7421_11 (fun H locs hG => ?_)
  refine lv_icmp_eq (tgt := 21) hx hb dJ5_inflateIfNeededFor_a7421_14 (by decide) (fun c2 => ?_) (fun c2 => absurd rfl c2)
  exact xe_v X hG dJ5_inflateIfNeededFor_a7421_21 rfl (Nat.le_refl _) (Nat.le_refl _)
set_option maxRecDepth 20000 in
set_option maxHeartbeats 4000000 in
theorem X_gb (l : Launch) (E : Ev) {σ : St} {q v n : Nat} {f : Nat → Int32} {z : Nat} (hz : okS E z) (hn : n + lnS z < 17) (hf : ∀ j, j < lnS z → fits .byte (.int ((byS z).getD j 0)) = true) : Xv l E yJ0_getBytes_840e7 cJ0_getBytes_840e7 4 2 0 0 [.ref (eK E z), .ref v, .int (Int32.ofNat n), .int 0] σ ([(q, sbC v (Int32.ofNat n)), (v, arB E f)]) (fun u => u = [(q, sbC v (Int32.ofNat n)), (v, arB E (cpT z f n))]) := by
  refine Xv_of (C := RJ0) rfl (by decide +kernel) (Nat.le_of_ble_eq_true rfl) (fun p e s m below meth c ls X hAn hPV hG hl hnm => ?_)
  have hx := X.1.1.1
  have hb := X.1.1.2.1
  have he1 : ([(q, sbC v (Int32.ofNat n)), (v, arB E f)] : List (Nat × va_E))[1]? = some (v, .inl (eB E, 16, .inl f)) := rfl
  have hl : lv_has ls 4 [(0, .ref (eK E z)), (1, .ref v), (2, .int (Int32.ofNat n)), (3, .int (0 : Int32))] := hl
  refine lv_aload_n hx hb dJ0_getBytes_840e7_0 rfl (lv_at hl 0 rfl) ?_
  refine x_text (d := 1) X.1 hG hz (C_J0_coder_7d493 l (eN E _) (r := 0) rfl hz) rfl mw770 mw771 mw772 mw25 (gw_ok mw773 rfl) (by decide +kernel) ⟨Nat.le_of_ble_eq_true rfl, Nat.le_of_ble_eq_true rfl⟩ hl.1 (Nat.le_of_ble_eq_true rfl) ⟨Nat.le_of_ble_eq_true rfl, Nat.le_of_ble_eq_true rfl⟩ dJ0_getBytes_840e7_1 (fun H locs hG => ?_)
  refine lv_iload_n hx hb dJ0_getBytes_840e7_4 rfl (lv_at hl 3 rfl) ?_
  refine lv_icmp_ne (tgt := 28) hx hb dJ0_getBytes_840e7_5 (by decide) (fun c1 => absurd rfl c1) (fun c1 => ?_)
  refine lv_aload_n hx hb dJ0_getBytes_840e7_8 rfl (lv_at hl 0 rfl) ?_
  refine g_sval X.1 hG.gs hz mw1317 dJ0_getBytes_840e7_9 ?_
  refine lv_iconst (v := (0 : Int32)) hx hb dJ0_getBytes_840e7_12 (by decide) ?_
  refine lv_aload_n hx hb dJ0_getBytes_840e7_13 rfl (lv_at hl 1 rfl) ?_
  refine lv_iload_n hx hb dJ0_getBytes_840e7_14 rfl (lv_at hl 2 rfl) ?_
  refine lv_iload_n hx hb dJ0_getBytes_840e7_15 rfl (lv_at hl 3 rfl) ?_
  refine lv_ishl hx hb dJ0_getBytes_840e7_16 ?_
  refine lv_aload_n hx hb dJ0_getBytes_840e7_17 rfl (lv_at hl 0 rfl) ?_
  refine g_sval X.1 hG.gs hz mw1317 dJ0_getBytes_840e7_18 ?_
  refine g_slen X.1 hG.gs hz dJ0_getBytes_840e7_21 ?_
  rw [sb_shl n (by omega)]
  refine x_cpy X.1 hl.1 hG (x_txT X.1 hz) he1 mw1243 (by decide) (sb_cl n (by omega)).2 (sb_cl _ (by omega)).2 (by rw [(sb_cl (lnS z) (by omega)).1]; exact Nat.le_of_eq (Nat.zero_add _)) (by rw [(sb_cl n (by omega)).1, (sb_cl (lnS z) (by omega)).1]; omega) (fun i hi => by rw [(sb_cl (lnS z) (by omega)).1] at hi; rw [show (0 : Int32).toNatClampNeg + i = i from Nat.zero_add i]; exact hf i hi) (Nat.le_of_ble_eq_true rfl) (by decide +kernel) dJ0_getBytes_840e7_22 (fun H locs hG => ?_)
  rw [(sb_cl n (by omega)).1, (sb_cl (lnS z) (by omega)).1] at hG
  refine lv_goto (tgt := 43) hx hb dJ0_getBytes_840e7_25 (by decide) ?_
  exact xe_v X hG dJ0_getBytes_840e7_43 rfl (Nat.le_refl _) (Nat.le_refl _)
set_option maxRecDepth 20000 in
set_option maxHeartbeats 4000000 in
theorem X_psa (l : Launch) (E : Ev) {σ : St} {q v n : Nat} {f : Nat → Int32} {z : Nat} (hz : okS E z) (hn : n + lnS z < 17) (hf : ∀ j, j < lnS z → fits .byte (.int ((byS z).getD j 0)) = true) : Xv l E yJ5_putStringAt_47b60 cJ5_putStringAt_47b60 3 3 0 0 [.ref q, .int (Int32.ofNat n), .ref (eK E z)] σ ([(q, sbC v (Int32.ofNat n)), (v, arB E f)]) (fun u => u = [(q, sbC v (Int32.ofNat n)), (v, arB E (cpT z f n))]) := by
  refine Xv_of (C := RJ5) rfl (by decide +kernel) (Nat.le_of_ble_eq_true rfl) (fun p e s m below meth c ls X hAn hPV hG hl hnm => ?_)
  have hx := X.1.1.1
  have hb := X.1.1.2.1
  have he0 : ([(q, sbC v (Int32.ofNat n)), (v, arB E f)] : List (Nat × va_E))[0]? = some (q, .inr (12, [.ref v, .int 0, .int 0, .int (Int32.ofNat n)])) := rfl
  have hl : lv_has ls 3 [(0, .ref q), (1, .int (Int32.ofNat n)), (2, .ref (eK E z))] := hl
  refine lv_aload_n hx hb dJ5_putStringAt_47b60_0 rfl (lv_at hl 0 rfl) ?_
  refine lv_aload_n hx hb dJ5_putStringAt_47b60_1 rfl (lv_at hl 2 rfl) ?_
  refine x_endv (va_runU X.1.1 (X_inf l E hz) (cw_priv (n := 1) X.1.1.2.2.2.2 rfl mw1215 mw1217 hPV.2.2 mw1350 (gw_ok mw1218 rfl) (by decide +kernel) ⟨Nat.le_of_ble_eq_true rfl, Nat.le_of_ble_eq_true rfl⟩) ⟨XN_blind, x_recv X.1 hG he0 rfl, XN_pre X.1.2.1 X.1.2.2.1 X.1.2.2.2 hAn hPV hG _⟩ rfl rfl hl.1 rfl (lv_room (Nat.le_of_ble_eq_true rfl)) dJ5_putStringAt_47b60_2 ⟨Nat.le_of_ble_eq_true rfl, Nat.le_of_ble_eq_true rfl⟩) hG (fun u H locs hu hG => ?_)
  subst hu
  refine lv_aload_n hx hb dJ5_putStringAt_47b60_5 rfl (lv_at hl 2 rfl) ?_
  refine lv_aload_n hx hb dJ5_putStringAt_47b60_6 rfl (lv_at hl 0 rfl) ?_
  refine x_get X.1 hG he0 0 (by decide) mw1136 rfl dJ5_putStringAt_47b60_7 ?_
  refine lv_iload_n hx hb dJ5_putStringAt_47b60_10 rfl (lv_at hl 1 rfl) ?_
  refine lv_aload_n hx hb dJ5_putStringAt_47b60_11 rfl (lv_at hl 0 rfl) ?_
  refine x_get X.1 hG he0 1 (by decide) mw1137 rfl dJ5_putStringAt_47b60_12 ?_
  refine x_endv (va_runV X.1.1 (X_gb l E (q := q) hz hn hf) (cwV 3 X.1.1.2.2.2.2 (gw_v mw1239 mw1240 mw1241 mw25 (gw_ok mw1242 rfl)) rfl rfl rfl ⟨rfl, by decide +kernel⟩ ⟨Nat.le_of_ble_eq_true rfl, Nat.le_of_ble_eq_true rfl⟩) ⟨XN_blind, vk_recv X.1.2.2.2.2.2.1 (okS_at hz).1 hG.2.2, XN_pre X.1.2.1 X.1.2.2.1 X.1.2.2.2 hAn hPV hG _⟩ rfl rfl hl.1 rfl (lv_room (Nat.le_of_ble_eq_true rfl)) dJ5_putStringAt_47b60_15 ⟨Nat.le_of_ble_eq_true rfl, Nat.le_of_ble_eq_true rfl⟩) hG (fun u H locs hu hG => ?_)
  subst hu
  exact xe_v X hG dJ5_putStringAt_47b60_18 rfl (Nat.le_refl _) (Nat.le_refl _)
set_option maxRecDepth 20000 in
set_option maxHeartbeats 4000000 in
theorem X_ap5 (l : Launch) (E : Ev) {σ : St} {q v n : Nat} {f : Nat → Int32} {z : Nat} (hz : okS E z) (hn : n + lnS z < 17) (hf : ∀ j, j < lnS z → fits .byte (.int ((byS z).getD j 0)) = true) : Xr l E yJ5_append_cf1ce cJ5_append_cf1ce 3 (some (.object "java/lang/AbstractStringBuilder")) 4 0 0 [.ref q, .ref (eK E z)] σ ([(q, sbC v (Int32.ofNat n)), (v, arB E f)]) none (fun r u => r = q ∧ u = [(q, sbC v (Int32.ofNat (n + lnS z))), (v, arB E (cpT z f n))]) := by
  refine Xr_of (C := RJ5) rfl (by decide +kernel) (Nat.le_of_ble_eq_true rfl) (fun p e s m below meth c ls X hAn hPV hT hG hl hnm => ?_)
  have hx := X.1.1.1
  have hb := X.1.1.2.1
  have he0 : ([(q, sbC v (Int32.ofNat n)), (v, arB E f)] : List (Nat × va_E))[0]? = some (q, .inr (12, [.ref v, .int 0, .int 0, .int (Int32.ofNat n)])) := rfl
  have hl : lv_has ls 3 [(0, .ref q), (1, .ref (eK E z))] := hl
  refine lv_aload_n hx hb dJ5_append_cf1ce_0 rfl (lv_at hl 1 rfl) ?_
  refine lv_ifnonnull (tgt := 9) hx hb dJ5_append_cf1ce_1 (by decide) ?_
  refine lv_aload_n hx hb dJ5_append_cf1ce_9 rfl (lv_at hl 1 rfl) ?_
  refine x_text (d := 2) X.1 hG hz (C_J0_length_8abf5 l (eN E _) (len_all σ (by omega)) hz) rfl mw1210 mw767 mw768 mw25 (gw_ok mw769 rfl) (by decide +kernel) ⟨Nat.le_of_ble_eq_true rfl, Nat.le_of_ble_eq_true rfl⟩ hl.1 (Nat.le_of_ble_eq_true rfl) ⟨Nat.le_of_ble_eq_true rfl, Nat.le_of_ble_eq_true rfl⟩ dJ5_append_cf1ce_10 (fun H locs hG => ?_)
  refine lv_istore_n (lv' := [(2, .int (Int32.ofNat (lnS z))), (0, .ref q), (1, .ref (eK E z))]) hx hb dJ5_append_cf1ce_13 rfl hl (by decide) rfl (fun ls hl => ?_)
  refine lv_aload_n hx hb dJ5_append_cf1ce_14 rfl (lv_at hl 1 rfl) ?_
  refine lv_aload_n hx hb dJ5_append_cf1ce_15 rfl (lv_at hl 1 rfl) ?_
  refine x_get X.1 hG he0 3 (by decide) mw1139 rfl dJ5_append_cf1ce_16 ?_
  refine lv_iload_n hx hb dJ5_append_cf1ce_19 rfl (lv_at hl 0 rfl) ?_
  refine lv_iadd hx hb dJ5_append_cf1ce_20 ?_
  rw [oN_add]
  refine x_endv (va_runU X.1.1 (X_ens l E (by omega : n + lnS z < 17)) (cw_priv (n := 1) X.1.1.2.2.2.2 rfl mw1161 mw1163 hPV.1 mw1347 (gw_ok mw1164 rfl) (by decide +kernel) ⟨Nat.le_of_ble_eq_true rfl, Nat.le_of_ble_eq_true rfl⟩) ⟨XN_blind, x_recv X.1 hG he0 rfl, XN_pre X.1.2.1 X.1.2.2.1 X.1.2.2.2 hAn hPV hG _⟩ rfl rfl hl.1 rfl (lv_room (Nat.le_of_ble_eq_true rfl)) dJ5_append_cf1ce_21 ⟨Nat.le_of_ble_eq_true rfl, Nat.le_of_ble_eq_true rfl⟩) hG (fun u H locs hu hG => ?_)
  subst hu
  refine lv_aload_n hx hb dJ5_append_cf1ce_24 rfl (lv_at hl 1 rfl) ?_
  refine lv_aload_n hx hb dJ5_append_cf1ce_25 rfl (lv_at hl 1 rfl) ?_
  refine x_get X.1 hG he0 3 (by decide) mw1139 rfl dJ5_append_cf1ce_26 ?_
  refine lv_aload_n hx hb dJ5_append_cf1ce_29 rfl (lv_at hl 2 rfl) ?_
  refine x_endv (va_runU X.1.1 (X_psa l E hz hn hf) (cw_priv (n := 2) X.1.1.2.2.2.2 rfl mw1211 mw1213 hPV.2.1 mw1349 (gw_ok mw1214 rfl) (by decide +kernel) ⟨Nat.le_of_ble_eq_true rfl, Nat.le_of_ble_eq_true rfl⟩) ⟨XN_blind, x_recv X.1 hG he0 rfl, XN_pre X.1.2.1 X.1.2.2.1 X.1.2.2.2 hAn hPV hG _⟩ rfl rfl hl.1 rfl (lv_room (Nat.le_of_ble_eq_true rfl)) dJ5_append_cf1ce_30 ⟨Nat.le_of_ble_eq_true rfl, Nat.le_of_ble_eq_true rfl⟩) hG (fun u H locs hu hG => ?_)
  subst hu
  have he2 : ([(q, sbC v (Int32.ofNat n)), (v, arB E (cpT z f n))] : List (Nat × va_E))[0]? = some (q, .inr (12, [.ref v, .int 0, .int 0, .int (Int32.ofNat n)])) := rfl
  refine lv_aload_n hx hb dJ5_append_cf1ce_33 rfl (lv_at hl 1 rfl) ?_
  refine lv_dup hx hb dJ5_append_cf1ce_34 rfl ?_
  refine x_get X.1 hG he2 3 (by decide) mw1139 rfl dJ5_append_cf1ce_35 ?_
  refine lv_iload_n hx hb dJ5_append_cf1ce_38 rfl (lv_at hl 0 rfl) ?_
  refine lv_iadd hx hb dJ5_append_cf1ce_39 ?_
  rw [oN_add]
  refine x_put X.1 hG he2 3 (by decide) mw1139 rfl (ty := .int) (by decide +kernel) rfl rfl (Nat.le_of_ble_eq_true rfl) dJ5_append_cf1ce_40 (fun H locs hG => ?_)
  refine lv_aload_n hx hb dJ5_append_cf1ce_43 rfl (lv_at hl 1 rfl) ?_
  exact xe_r X (Or.inl ⟨_, rfl⟩) hG dJ5_append_cf1ce_44 ⟨rfl, rfl⟩ (Nat.le_refl _) (Nat.le_refl _)
set_option maxRecDepth 20000 in
set_option maxHeartbeats 4000000 in
theorem X_ap4 (l : Launch) (E : Ev) {σ : St} {q v n : Nat} {f : Nat → Int32} {z : Nat} (hz : okS E z) (hn : n + lnS z < 17) (hf : ∀ j, j < lnS z → fits .byte (.int ((byS z).getD j 0)) = true) : Xr l E yJ4_append_15ec4 cJ4_append_15ec4 2 (some (.object "java/lang/StringBuilder")) 5 0 0 [.ref q, .ref (eK E z)] σ ([(q, sbC v (Int32.ofNat n)), (v, arB E f)]) none (fun r u => r = q ∧ u = [(q, sbC v (Int32.ofNat (n + lnS z))), (v, arB E (cpT z f n))]) := by
  refine Xr_of (C := RJ4) rfl (by decide +kernel) (Nat.le_of_ble_eq_true rfl) (fun p e s m below meth c ls X hAn hPV hT hG hl hnm => ?_)
  have hx := X.1.1.1
  have hb := X.1.1.2.1
  have he0 : ([(q, sbC v (Int32.ofNat n)), (v, arB E f)] : List (Nat × va_E))[0]? = some (q, .inr (12, [.ref v, .int 0, .int 0, .int (Int32.ofNat n)])) := rfl
  have hl : lv_has ls 2 [(0, .ref q), (1, .ref (eK E z))] := hl
  refine lv_aload_n hx hb dJ4_append_15ec4_0 rfl (lv_at hl 0 rfl) ?_
  refine lv_aload_n hx hb dJ4_append_15ec4_1 rfl (lv_at hl 1 rfl) ?_
  refine x_endr (va_runSU (q_at X.1) X.1.1 (X_ap5 l E hz hn hf) (va_cwSU 1 X.1.1.2.2.2.2 (gw_su mw1154 mw1345 mw1148 mw1155 mw32 (gw_ok mw1156 rfl)) rfl rfl rfl (by decide +kernel) ⟨Nat.le_of_ble_eq_true rfl, Nat.le_of_ble_eq_true rfl⟩) ⟨XN_blind, x_recv X.1 hG he0 rfl, XN_pre X.1.2.1 X.1.2.2.1 X.1.2.2.2 hAn hPV hG _⟩ rfl rfl hl.1 rfl (lv_room (Nat.le_of_ble_eq_true rfl)) dJ4_append_15ec4_2 ⟨Nat.le_of_ble_eq_true rfl, Nat.le_of_ble_eq_true rfl⟩) hG (fun r u H locs hu hG => ?_)
  obtain ⟨rfl, rfl⟩ := hu
  refine lv_pop hx hb dJ4_append_15ec4_5 rfl ?_
  refine lv_aload_n hx hb dJ4_append_15ec4_6 rfl (lv_at hl 0 rfl) ?_
  exact xe_r X (Or.inl ⟨_, rfl⟩) hG dJ4_append_15ec4_7 ⟨rfl, rfl⟩ (Nat.le_refl _) (Nat.le_refl _)
set_option maxRecDepth 20000 in
set_option maxHeartbeats 4000000 in
theorem X_gch (l : Launch) (E : Ev) {σ : St} {q v n : Nat} {f : Nat → Int32} {d : Nat} (hd : d < 10) (hn : n < 16) : Xi l E yJ6_getChars_ba4f3 cJ6_getChars_ba4f3 7 (some .int) 1 0 0 [.int (Int32.ofNat d), .int (Int32.ofNat (n + 1)), .ref v] σ ([(q, sbC v (Int32.ofNat n)), (v, arB E f)]) (fun r u => u = [(q, sbC v (Int32.ofNat n)), (v, arB E (upd f n (vp_nar .byte (Int32.ofNat (48 + d)))))]) := by
  refine Xi_of (C := RJ6) rfl (by decide +kernel) (Nat.le_of_ble_eq_true rfl) (fun p e s m below meth c ls X hAn hPV hG hl hnm => ?_)
  have hx := X.1.1.1
  have hb := X.1.1.2.1
  have he1 : ([(q, sbC v (Int32.ofNat n)), (v, arB E f)] : List (Nat × va_E))[1]? = some (v, .inl (eB E, 16, .inl f)) := rfl
  have hl : lv_has ls 7 [(0, .int (Int32.ofNat d)), (1, .int (Int32.ofNat (n + 1))), (2, .ref v)] := hl
  refine lv_iload_n hx hb dJ6_getChars_ba4f3_0 rfl (lv_at hl 1 rfl) ?_
  refine lv_istore (lv' := [(5, .int (Int32.ofNat (n + 1))), (0, .int (Int32.ofNat d)), (1, .int (Int32.ofNat (n + 1))), (2, .ref v)]) hx hb dJ6_getChars_ba4f3_1 hl (by decide) rfl (fun ls hl => ?_)
  refine lv_iload_n hx hb dJ6_getChars_ba4f3_3 rfl (lv_at hl 1 rfl) ?_
  refine lv_if_ge (tgt := 11) hx hb dJ6_getChars_ba4f3_4 (by decide) (fun c1 => ?_) (fun c1 => absurd (Int32.not_lt.mp (sb_neg d hd).1) c1)
  refine lv_iconst (v := (0 : Int32)) hx hb dJ6_getChars_ba4f3_11 (by decide) ?_
  refine lv_istore (lv' := [(6, .int (0 : Int32)), (5, .int (Int32.ofNat (n + 1))), (0, .int (Int32.ofNat d)), (1, .int (Int32.ofNat (n + 1))), (2, .ref v)]) hx hb dJ6_getChars_ba4f3_12 hl (by decide) rfl (fun ls hl => ?_)
  refine lv_iload hx hb dJ6_getChars_ba4f3_14 (lv_at hl 0 rfl) ?_
  refine lv_if_ne (tgt := 22) hx hb dJ6_getChars_ba4f3_16 (by decide) (fun c2 => absurd rfl c2) (fun c2 => ?_)
  refine lv_iload_n hx hb dJ6_getChars_ba4f3_19 rfl (lv_at hl 2 rfl) ?_
  refine lv_ineg hx hb dJ6_getChars_ba4f3_20 ?_
  refine lv_istore_n (lv' := [(0, .int (-(Int32.ofNat d))), (6, .int (0 : Int32)), (5, .int (Int32.ofNat (n + 1))), (1, .int (Int32.ofNat (n + 1))), (2, .ref v)]) hx hb dJ6_getChars_ba4f3_21 rfl hl (by decide) rfl (fun ls hl => ?_)
  refine lv_iload_n hx hb dJ6_getChars_ba4f3_22 rfl (lv_at hl 0 rfl) ?_
  refine lv_bipush (v := (-100 : Int32)) hx hb dJ6_getChars_ba4f3_23 (by decide) ?_
  refine lv_icmp_gt (tgt := 72) hx hb dJ6_getChars_ba4f3_25 (by decide) (fun c3 => ?_) (fun c3 => absurd (sb_neg d hd).2.2.1 c3)
  refine lv_aload_n hx hb dJ6_getChars_ba4f3_72 rfl (lv_at hl 4 rfl) ?_
  refine lv_iinc (v := Int32.ofNat n) (lv' := [(5, .int (Int32.ofNat n)), (0, .int (-(Int32.ofNat d))), (6, .int (0 : Int32)), (1, .int (Int32.ofNat (n + 1))), (2, .ref v)]) hx hb dJ6_getChars_ba4f3_73 hl (k := 2) rfl (q_dec n hn) (by decide) rfl (fun ls hl => ?_)
  refine lv_iload hx hb dJ6_getChars_ba4f3_76 (lv_at hl 0 rfl) ?_
  obtain ⟨dg, g1, g2⟩ := X.1.2.2.2.2.2.2.2.1
  refine va_gets hx hb g1 hG.2.2 X.1.1.2.2.2.1 (X.1.1.2.2.2.2 _ (gw_in mw1258 rfl)) (fun _ h => h) dJ6_getChars_ba4f3_78 ?_
  refine lv_iload_n hx hb dJ6_getChars_ba4f3_81 rfl (lv_at hl 1 rfl) ?_
  refine lv_ineg hx hb dJ6_getChars_ba4f3_82 ?_
  refine va_tb hx hb g2 hG.2.2 (by unfold vp_in; rw [(sb_neg d hd).2.2.2.2.1]; exact fun q => q.elim (sb_neg d hd).2.2.2.2.2 (by omega)) rfl dJ6_getChars_ba4f3_83 ?_
  rw [(sb_neg d hd).2.2.2.2.1, Nat.mod_eq_of_lt hd]
  refine x_bst X.1 hG he1 (by unfold vp_in; rw [(sb_cl n (by omega)).1]; exact fun q => q.elim (sb_cl n (by omega)).2 (by omega)) dJ6_getChars_ba4f3_84 (fun H locs hG => ?_)
  rw [(sb_cl n (by omega)).1] at hG
  refine lv_iload_n hx hb dJ6_getChars_ba4f3_85 rfl (lv_at hl 1 rfl) ?_
  refine lv_bipush (v := (-9 : Int32)) hx hb dJ6_getChars_ba4f3_86 (by decide) ?_
  refine lv_icmp_ge (tgt := 104) hx hb dJ6_getChars_ba4f3_88 (by decide) (fun c4 => ?_) (fun c4 => absurd (sb_neg d hd).2.2.2.1 c4)
  refine lv_iload hx hb dJ6_getChars_ba4f3_104 (lv_at hl 2 rfl) ?_
  refine lv_if_eq (tgt := 118) hx hb dJ6_getChars_ba4f3_106 (by decide) (fun c5 => ?_) (fun c5 => absurd rfl c5)
  refine lv_iload hx hb dJ6_getChars_ba4f3_118 (lv_at hl 0 rfl) ?_
  exact xe_i X hG dJ6_getChars_ba4f3_120 rfl (Nat.le_refl _) (Nat.le_refl _)
set_option maxRecDepth 20000 in
set_option maxHeartbeats 4000000 in
theorem X_ai5 (l : Launch) (E : Ev) {σ : St} {q v n : Nat} {f : Nat → Int32} {d : Nat} (hd : d < 10) (hn : n < 16) : Xr l E yJ5_append_c97b9 cJ5_append_c97b9 4 (some (.object "java/lang/AbstractStringBuilder")) 2 0 0 [.ref q, .int (Int32.ofNat d)] σ ([(q, sbC v (Int32.ofNat n)), (v, arB E f)]) none (fun r u => r = q ∧ u = [(q, sbC v (Int32.ofNat (n + 1))), (v, arB E (upd f n (vp_nar .byte (Int32.ofNat (48 + d)))))]) := by
  refine Xr_of (C := RJ5) rfl (by decide +kernel) (Nat.le_of_ble_eq_true rfl) (fun p e s m below meth c ls X hAn hPV hT hG hl hnm => ?_)
  have hx := X.1.1.1
  have hb := X.1.1.2.1
  have he0 : ([(q, sbC v (Int32.ofNat n)), (v, arB E f)] : List (Nat × va_E))[0]? = some (q, .inr (12, [.ref v, .int 0, .int 0, .int (Int32.ofNat n)])) := rfl
  have hl : lv_has ls 4 [(0, .ref q), (1, .int (Int32.ofNat d))] := hl
  refine lv_aload_n hx hb dJ5_append_c97b9_0 rfl (lv_at hl 0 rfl) ?_
  refine x_get X.1 hG he0 3 (by decide) mw1139 rfl dJ5_append_c97b9_1 ?_
  refine lv_istore_n (lv' := [(2, .int (Int32.ofNat n)), (0, .ref q), (1, .int (Int32.ofNat d))]) hx hb dJ5_append_c97b9_4 rfl hl (by decide) rfl (fun ls hl => ?_)
  refine lv_iload_n hx hb dJ5_append_c97b9_5 rfl (lv_at hl 0 rfl) ?_
  refine lv_iload_n hx hb dJ5_append_c97b9_6 rfl (lv_at hl 2 rfl) ?_
  refine x_endi (va_runS X.1.1 (X_ssz l E hd) ⟨callB_of 1 X.1.1.2.2.2.2 (gw_ok mw1254 rfl) rfl rfl rfl (X.1.1.2.2.2.2 _ (gw_in mw29 rfl)) (X.1.1.2.2.2.2 _ (gw_in mw1252 rfl)) (by decide +kernel) ⟨Nat.le_of_ble_eq_true rfl, Nat.le_of_ble_eq_true rfl⟩, X.1.1.2.2.2.2 _ (gw_in mw1253 rfl)⟩ ⟨XN_blind, XN_pre X.1.2.1 X.1.2.2.1 X.1.2.2.2 hAn hPV hG _⟩ rfl rfl hl.1 rfl (lv_room (Nat.le_of_ble_eq_true rfl)) dJ5_append_c97b9_7 ⟨Nat.le_of_ble_eq_true rfl, Nat.le_of_ble_eq_true rfl⟩) hG (fun r u H locs hu hG => ?_)
  obtain ⟨rfl, rfl⟩ := hu
  refine lv_iadd hx hb dJ5_append_c97b9_10 ?_
  rw [oN_al]
  refine lv_istore_n (lv' := [(3, .int (Int32.ofNat (n + 1))), (2, .int (Int32.ofNat n)), (0, .ref q), (1, .int (Int32.ofNat d))]) hx hb dJ5_append_c97b9_11 rfl hl (by decide) rfl (fun ls hl => ?_)
  refine lv_aload_n hx hb dJ5_append_c97b9_12 rfl (lv_at hl 2 rfl) ?_
  refine lv_iload_n hx hb dJ5_append_c97b9_13 rfl (lv_at hl 0 rfl) ?_
  refine x_endv (va_runU X.1.1 (X_ens l E (by omega : n + 1 < 17)) (cw_priv (n := 1) X.1.1.2.2.2.2 rfl mw1161 mw1163 hPV.1 mw1347 (gw_ok mw1164 rfl) (by decide +kernel) ⟨Nat.le_of_ble_eq_true rfl, Nat.le_of_ble_eq_true rfl⟩) ⟨XN_blind, x_recv X.1 hG he0 rfl, XN_pre X.1.2.1 X.1.2.2.1 X.1.2.2.2 hAn hPV hG _⟩ rfl rfl hl.1 rfl (lv_room (Nat.le_of_ble_eq_true rfl)) dJ5_append_c97b9_14 ⟨Nat.le_of_ble_eq_true rfl, Nat.le_of_ble_eq_true rfl⟩) hG (fun u H locs hu hG => ?_)
  subst hu
  refine lv_aload_n hx hb dJ5_append_c97b9_17 rfl (lv_at hl 2 rfl) ?_
  refine x_endi (va_runU X.1.1 (X_lat l E he0) (va_cwU (C := RJ4) (owner := RJ5) (x := yJ5_isLatin1_aae02) 0 X.1.1.2.2.2.2 (gw_u mw1190 mw1192 mw1193 mw1191 mw32 (gw_ok mw1194 rfl)) rfl rfl rfl rfl (by decide +kernel) ⟨Nat.le_of_ble_eq_true rfl, Nat.le_of_ble_eq_true rfl⟩) ⟨XN_blind, x_recv X.1 hG he0 rfl, XN_pre X.1.2.1 X.1.2.2.1 X.1.2.2.2 hAn hPV hG _⟩ rfl rfl hl.1 rfl (lv_room (Nat.le_of_ble_eq_true rfl)) dJ5_append_c97b9_18 ⟨Nat.le_of_ble_eq_true rfl, Nat.le_of_ble_eq_true rfl⟩) hG (fun r u H locs hu hG => ?_)
  obtain ⟨rfl, rfl⟩ := hu
  refine lv_if_eq (tgt := 37) hx hb dJ5_append_c97b9_21 (by decide) (fun c1 => absurd c1 (by decide)) (fun c1 => ?_)
  refine lv_iload_n hx hb dJ5_append_c97b9_24 rfl (lv_at hl 3 rfl) ?_
  refine lv_iload_n hx hb dJ5_append_c97b9_25 rfl (lv_at hl 0 rfl) ?_
  refine lv_aload_n hx hb dJ5_append_c97b9_26 rfl (lv_at hl 2 rfl) ?_
  refine x_get X.1 hG he0 0 (by decide) mw1136 rfl dJ5_append_c97b9_27 ?_
  refine x_endi (va_runS X.1.1 (X_gch l E (q := q) hd hn) ⟨callB_of 3 X.1.1.2.2.2.2 (gw_ok mw1257 rfl) rfl rfl rfl (X.1.1.2.2.2.2 _ (gw_in mw29 rfl)) (X.1.1.2.2.2.2 _ (gw_in mw1255 rfl)) (by decide +kernel) ⟨Nat.le_of_ble_eq_true rfl, Nat.le_of_ble_eq_true rfl⟩, X.1.1.2.2.2.2 _ (gw_in mw1256 rfl)⟩ ⟨XN_blind, XN_pre X.1.2.1 X.1.2.2.1 X.1.2.2.2 hAn hPV hG _⟩ rfl rfl hl.1 rfl (lv_room (Nat.le_of_ble_eq_true rfl)) dJ5_append_c97b9_30 ⟨Nat.le_of_ble_eq_true rfl, Nat.le_of_ble_eq_true rfl⟩) hG (fun r u H locs hu hG => ?_)
  subst hu
  refine lv_pop hx hb dJ5_append_c97b9_33 rfl ?_
  refine lv_goto (tgt := 48) hx hb dJ5_append_c97b9_34 (by decide) ?_
  have he2 : ([(q, sbC v (Int32.ofNat n)), (v, arB E (upd f n (vp_nar .byte (Int32.ofNat (48 + d)))))] : List (Nat × va_E))[0]? = some (q, .inr (12, [.ref v, .int 0, .int 0, .int (Int32.ofNat n)])) := rfl
  refine lv_aload_n hx hb dJ5_append_c97b9_48 rfl (lv_at hl 2 rfl) ?_
  refine lv_iload_n hx hb dJ5_append_c97b9_49 rfl (lv_at hl 0 rfl) ?_
  refine x_put X.1 hG he2 3 (by decide) mw1139 rfl (ty := .int) (by decide +kernel) rfl rfl (Nat.le_of_ble_eq_true rfl) dJ5_append_c97b9_50 (fun H locs hG => ?_)
  refine lv_aload_n hx hb dJ5_append_c97b9_53 rfl (lv_at hl 2 rfl) ?_
  exact xe_r X (Or.inl ⟨_, rfl⟩) hG dJ5_append_c97b9_54 ⟨rfl, rfl⟩ (Nat.le_refl _) (Nat.le_refl _)
set_option maxRecDepth 20000 in
set_option maxHeartbeats 4000000 in
theorem X_ai4 (l : Launch) (E : Ev) {σ : St} {q v n : Nat} {f : Nat → Int32} {d : Nat} (hd : d < 10) (hn : n < 16) : Xr l E yJ4_append_bf812 cJ4_append_bf812 2 (some (.object "java/lang/StringBuilder")) 3 0 0 [.ref q, .int (Int32.ofNat d)] σ ([(q, sbC v (Int32.ofNat n)), (v, arB E f)]) none (fun r u => r = q ∧ u = [(q, sbC v (Int32.ofNat (n + 1))), (v, arB E (upd f n (vp_nar .byte (Int32.ofNat (48 + d)))))]) := by
  refine Xr_of (C := RJ4) rfl (by decide +kernel) (Nat.le_of_ble_eq_true rfl) (fun p e s m below meth c ls X hAn hPV hT hG hl hnm => ?_)
  have hx := X.1.1.1
  have hb := X.1.1.2.1
  have he0 : ([(q, sbC v (Int32.ofNat n)), (v, arB E f)] : List (Nat × va_E))[0]? = some (q, .inr (12, [.ref v, .int 0, .int 0, .int (Int32.ofNat n)])) := rfl
  have hl : lv_has ls 2 [(0, .ref q), (1, .int (Int32.ofNat d))] := hl
  refine lv_aload_n hx hb dJ4_append_bf812_0 rfl (lv_at hl 0 rfl) ?_
  refine lv_iload_n hx hb dJ4_append_bf812_1 rfl (lv_at hl 1 rfl) ?_
  refine x_endr (va_runSU (q_at X.1) X.1.1 (X_ai5 l E hd hn) (va_cwSU 1 X.1.1.2.2.2.2 (gw_su mw1249 mw1352 mw1148 mw1250 mw32 (gw_ok mw1251 rfl)) rfl rfl rfl (by decide +kernel) ⟨Nat.le_of_ble_eq_true rfl, Nat.le_of_ble_eq_true rfl⟩) ⟨XN_blind, x_recv X.1 hG he0 rfl, XN_pre X.1.2.1 X.1.2.2.1 X.1.2.2.2 hAn hPV hG _⟩ rfl rfl hl.1 rfl (lv_room (Nat.le_of_ble_eq_true rfl)) dJ4_append_bf812_2 ⟨Nat.le_of_ble_eq_true rfl, Nat.le_of_ble_eq_true rfl⟩) hG (fun r u H locs hu hG => ?_)
  obtain ⟨rfl, rfl⟩ := hu
  refine lv_pop hx hb dJ4_append_bf812_5 rfl ?_
  refine lv_aload_n hx hb dJ4_append_bf812_6 rfl (lv_at hl 0 rfl) ?_
  exact xe_r X (Or.inl ⟨_, rfl⟩) hG dJ4_append_bf812_7 ⟨rfl, rfl⟩ (Nat.le_refl _) (Nat.le_refl _)
set_option maxRecDepth 20000 in
set_option maxHeartbeats 4000000 in
theorem X_ini5 (l : Launch) (E : Ev) {σ : St} {q : Nat}  : Xv l E yJ5_init_d00df cJ5_init_d00df 2 1 1 16 [.ref q, .int (16 : Int32)] σ ([(q, .inr (12, [.null, .int 0, .int 0, .int 0]))]) (fun u => ∃ v, u = [(q, sbC v 0), (v, arB E (fun _ => 0))]) := by
  refine Xv_of (C := RJ5) rfl (by decide +kernel) (Nat.le_of_ble_eq_true rfl) (fun p e s m below meth c ls X hAn hPV hG hl hnm => ?_)
  have hx := X.1.1.1
  have hb := X.1.1.2.1
  have he0 : ([(q, .inr (12, [.null, .int 0, .int 0, .int 0]))] : List (Nat × va_E))[0]? = some (q, .inr (12, [.null, .int 0, .int 0, .int 0])) := rfl
  have hl : lv_has ls 2 [(0, .ref q), (1, .int (16 : Int32))] := hl
  refine lv_aload_n hx hb dJ5_init_d00df_0 rfl (lv_at hl 0 rfl) ?_
  refine x_obj X.1 hl.1 mw1127 dJ5_init_d00df_1 (Nat.le_of_ble_eq_true rfl) (Nat.le_of_ble_eq_true rfl) ?_
  refine g_stC X.1 hG.gs mw1128 dJ5_init_d00df_4 ?_
  refine lv_if_eq (tgt := 25) hx hb dJ5_init_d00df_7 (by decide) (fun c1 => absurd c1 (by decide)) (fun c1 => ?_)
  refine lv_aload_n hx hb dJ5_init_d00df_10 rfl (lv_at hl 0 rfl) ?_
  refine lv_iload_n hx hb dJ5_init_d00df_11 rfl (lv_at hl 1 rfl) ?_
  refine x_new X.1 hAn hG (N := 16) (by decide) (by decide) (Nat.le_of_ble_eq_true rfl) (Nat.le_of_ble_eq_true rfl) (Nat.le_of_ble_eq_true rfl) dJ5_init_d00df_12 (fun v H hG => ?_)
  refine x_put (i := 0) (fs := [.null, .int 0, .int 0, .int 0]) X.1 hG rfl 0 (by decide) mw1136 rfl (ty := .array .byte) (by decide +kernel) rfl rfl (Nat.le_of_ble_eq_true rfl) dJ5_init_d00df_14 (fun H locs hG => ?_)
  refine lv_aload_n hx hb dJ5_init_d00df_17 rfl (lv_at hl 0 rfl) ?_
  refine lv_iconst (v := (0 : Int32)) hx hb dJ5_init_d00df_18 (by decide) ?_
  refine x_put (i := 0) (fs := [.ref v, .int 0, .int 0, .int 0]) X.1 hG rfl 1 (by decide) mw1137 rfl (ty := .byte) (by decide +kernel) rfl rfl (Nat.le_of_ble_eq_true rfl) dJ5_init_d00df_19 (fun H locs hG => ?_)
  refine lv_goto (tgt := 38) hx hb dJ5_init_d00df_22 (by decide) ?_
  exact xe_v X hG dJ5_init_d00df_38 ⟨v, rfl⟩ (Nat.le_of_ble_eq_true rfl) (Nat.le_of_ble_eq_true rfl)
set_option maxRecDepth 20000 in
set_option maxHeartbeats 4000000 in
theorem X_ini4 (l : Launch) (E : Ev) {σ : St} {q : Nat}  : Xv l E yJ4_init_da8c8 cJ4_init_da8c8 1 2 1 16 [.ref q] σ ([(q, .inr (12, [.null, .int 0, .int 0, .int 0]))]) (fun u => ∃ v, u = [(q, sbC v 0), (v, arB E (fun _ => 0))]) := by
  refine Xv_of (C := RJ4) rfl (by decide +kernel) (Nat.le_of_ble_eq_true rfl) (fun p e s m below meth c ls X hAn hPV hG hl hnm => ?_)
  have hx := X.1.1.1
  have hb := X.1.1.2.1
  have hl : lv_has ls 1 [(0, .ref q)] := hl
  refine lv_aload_n hx hb dJ4_init_da8c8_0 rfl (lv_at hl 0 rfl) ?_
  refine lv_bipush (v := (16 : Int32)) hx hb dJ4_init_da8c8_1 (by decide) ?_
  refine x_endv (va_runI X.1.1 (X_ini5 l E) (cwI 1 X.1.1.2.2.2.2 (gw_ok mw1126 rfl) rfl rfl rfl (X.1.1.2.2.2.2 _ (gw_in mw32 rfl)) (X.1.1.2.2.2.2 _ (gw_in mw1124 rfl)) (X.1.1.2.2.2.2 _ (gw_in mw1125 rfl)) rfl (by decide +kernel) ⟨Nat.le_of_ble_eq_true rfl, Nat.le_of_ble_eq_true rfl⟩) ⟨XN_blind, XN_pre X.1.2.1 X.1.2.2.1 X.1.2.2.2 hAn hPV hG _⟩ rfl rfl hl.1 rfl (lv_room (Nat.le_of_ble_eq_true rfl)) dJ4_init_da8c8_3 ⟨Nat.le_of_ble_eq_true rfl, Nat.le_of_ble_eq_true rfl⟩) hG (fun u H locs hu hG => ?_)
  exact xe_v X hG dJ4_init_da8c8_6 hu (Nat.le_of_ble_eq_true rfl) (Nat.le_of_ble_eq_true rfl)
set_option maxRecDepth 20000 in
set_option maxHeartbeats 4000000 in
theorem X_chk (l : Launch) (E : Ev) {σ : St} {n : Nat} {L : List (Nat × va_E)} (hn : n < 17) : Xv l E yJ7_checkLength_df160 cJ7_checkLength_df160 2 1 0 0 [.int 0, .int (Int32.ofNat n)] σ (L) (fun u => u = L) := by
  refine Xv_of (C := RJ7) rfl (by decide +kernel) (Nat.le_of_ble_eq_true rfl) (fun p e s m below meth c ls X hAn hPV hG hl hnm => ?_)
  have hx := X.1.1.1
  have hb := X.1.1.2.1
  have hl : lv_has ls 2 [(0, .int (0 : Int32)), (1, .int (Int32.ofNat n))] := hl
  refine lv_iload_n hx hb dJ7_checkLength_df160_0 rfl (lv_at hl 1 rfl) ?_
  refine lv_iload_n hx hb dJ7_checkLength_df160_1 rfl (lv_at hl 0 rfl) ?_
  refine lv_icmp_ge (tgt := 37) hx hb dJ7_checkLength_df160_2 (by decide) (fun c1 => ?_) (fun c1 => absurd (Int32.not_lt.mp (sb_cl n hn).2) c1)
  exact xe_v X hG dJ7_checkLength_df160_37 rfl (Nat.le_refl _) (Nat.le_refl _)
set_option maxRecDepth 20000 in
set_option maxHeartbeats 4000000 in
theorem X_corb (l : Launch) (E : Ev) {σ : St} {v n : Nat} {f : Nat → Int32} (hn : n < 16) (hf : ∀ j, j < n → fits .byte (.int (f j)) = true) : Xr l E yJ7_copyOfRangeByte_39247 cJ7_copyOfRangeByte_39247 5 (some (.array .byte)) 2 1 16 [.ref v, .int 0, .int (Int32.ofNat n)] σ ([]) (some (v, f)) (fun r u => u = [(r, .inl (eB E, n, .inl (va_cpy f (fun _ => 0) 0 0 n)))]) := by
  refine Xr_of (C := RJ7) rfl (by decide +kernel) (Nat.le_of_ble_eq_true rfl) (fun p e s m below meth c ls X hAn hPV hT hG hl hnm => ?_)
  have hx := X.1.1.1
  have hb := X.1.1.2.1
  have hT : va_T .byte v 16 (fun j => .int (f j)) (AE E) s s.heap := hT
  have hl : lv_has ls 5 [(0, .ref v), (1, .int (0 : Int32)), (2, .int (Int32.ofNat n))] := hl
  refine lv_iload_n hx hb dJ7_copyOfRangeByte_39247_0 rfl (lv_at hl 1 rfl) ?_
  refine lv_iload_n hx hb dJ7_copyOfRangeByte_39247_1 rfl (lv_at hl 2 rfl) ?_
  refine x_endv (va_runS X.1.1 (X_chk l E (by omega : n < 17)) ⟨callB_of 2 X.1.1.2.2.2.2 (gw_ok mw1306 rfl) rfl rfl rfl (X.1.1.2.2.2.2 _ (gw_in mw35 rfl)) (X.1.1.2.2.2.2 _ (gw_in mw1304 rfl)) (by decide +kernel) ⟨Nat.le_of_ble_eq_true rfl, Nat.le_of_ble_eq_true rfl⟩, X.1.1.2.2.2.2 _ (gw_in mw1305 rfl)⟩ ⟨XN_blind, XN_pre X.1.2.1 X.1.2.2.1 X.1.2.2.2 hAn hPV hG _⟩ rfl rfl hl.1 rfl (lv_room (Nat.le_of_ble_eq_true rfl)) dJ7_copyOfRangeByte_39247_2 ⟨Nat.le_of_ble_eq_true rfl, Nat.le_of_ble_eq_true rfl⟩) hG (fun u H locs hu hG => ?_)
  subst hu
  refine lv_iload_n hx hb dJ7_copyOfRangeByte_39247_5 rfl (lv_at hl 2 rfl) ?_
  refine lv_iload_n hx hb dJ7_copyOfRangeByte_39247_6 rfl (lv_at hl 1 rfl) ?_
  refine lv_isub hx hb dJ7_copyOfRangeByte_39247_7 ?_
  rw [show Int32.ofNat n - 0 = Int32.ofNat n from Int32.sub_zero _]
  refine lv_istore_n (lv' := [(3, .int (Int32.ofNat n)), (0, .ref v), (1, .int (0 : Int32)), (2, .int (Int32.ofNat n))]) hx hb dJ7_copyOfRangeByte_39247_8 rfl hl (by decide) rfl (fun ls hl => ?_)
  refine lv_iload_n hx hb dJ7_copyOfRangeByte_39247_9 rfl (lv_at hl 0 rfl) ?_
  refine x_new X.1 hAn hG (N := n) (sb_cl n (by omega)).2 (sb_cl n (by omega)).1 (by have : componentBytes .byte = 1 := rfl; rw [this]; omega) (Nat.le_of_ble_eq_true rfl) (by show 0 + 0 + n ≤ 16; omega) dJ7_copyOfRangeByte_39247_10 (fun r H hG => ?_)
  have hG : XR E σ [(r, .inl (eB E, n, .inl (fun _ => 0)))] s.heap H locs := hG
  refine lv_astore (lv' := [(4, .ref r), (3, .int (Int32.ofNat n)), (0, .ref v), (1, .int (0 : Int32)), (2, .int (Int32.ofNat n))]) hx hb dJ7_copyOfRangeByte_39247_12 hl (by decide) rfl (fun ls hl => ?_)
  refine lv_aload_n hx hb dJ7_copyOfRangeByte_39247_14 rfl (lv_at hl 2 rfl) ?_
  refine lv_iload_n hx hb dJ7_copyOfRangeByte_39247_15 rfl (lv_at hl 3 rfl) ?_
  refine lv_aload hx hb dJ7_copyOfRangeByte_39247_16 (lv_at hl 0 rfl) ?_
  refine lv_iconst (v := (0 : Int32)) hx hb dJ7_copyOfRangeByte_39247_18 (by decide) ?_
  refine lv_aload_n hx hb dJ7_copyOfRangeByte_39247_19 rfl (lv_at hl 2 rfl) ?_
  refine va_tlen hx hb hT hG.2.2 rfl dJ7_copyOfRangeByte_39247_20 ?_
  refine lv_iload_n hx hb dJ7_copyOfRangeByte_39247_21 rfl (lv_at hl 3 rfl) ?_
  refine lv_isub hx hb dJ7_copyOfRangeByte_39247_22 ?_
  refine lv_iload_n hx hb dJ7_copyOfRangeByte_39247_23 rfl (lv_at hl 1 rfl) ?_
  rw [show Int32.ofNat 16 - 0 = Int32.ofNat 16 from Int32.sub_zero _]
  refine va_mmin hx hb (by rw [X.1.1.2.2.1]; exact hl.1.symm) X.1.1.2.2.2.1 (X.1.1.2.2.2.2 _ (gw_in mw1188 rfl)) (X.1.1.2.2.2.2 _ (gw_in mw347 rfl)) (X.1.1.2.2.2.2 _ (gw_in mw23 rfl)) (X.1.1.2.2.2.2 _ (gw_in mw348 rfl)) (Nat.le_of_ble_eq_true rfl) (Nat.le_of_ble_eq_true rfl) (Nat.le_of_ble_eq_true rfl) (by show 0 + 0 + n ≤ 16; omega) dJ7_copyOfRangeByte_39247_24 ?_
  rw [sb_min n (by omega)]
  refine x_cpy (i := 0) X.1 hl.1 hG hT rfl mw1189 (by decide) (by decide) (sb_cl n (by omega)).2 (by rw [(sb_cl n (by omega)).1]; show 0 + n ≤ 16; omega) (by rw [(sb_cl n (by omega)).1]; show 0 + n ≤ n; omega) (fun i hi => by rw [(sb_cl n (by omega)).1] at hi; rw [show (0 : Int32).toNatClampNeg + i = i from Nat.zero_add i]; exact hf i hi) (Nat.le_of_ble_eq_true rfl) (by decide +kernel) dJ7_copyOfRangeByte_39247_27 (fun H locs hG => ?_)
  rw [(sb_cl n (by omega)).1] at hG
  refine lv_aload hx hb dJ7_copyOfRangeByte_39247_30 (lv_at hl 0 rfl) ?_
  exact xe_r X (Or.inr ⟨_, rfl⟩) hG dJ7_copyOfRangeByte_39247_32 rfl (Nat.le_of_ble_eq_true rfl) (by show 0 + 0 + n ≤ 16; omega)
set_option maxRecDepth 20000 in
set_option maxHeartbeats 4000000 in
theorem X_cor (l : Launch) (E : Ev) {σ : St} {v n : Nat} {f : Nat → Int32} (hn : n < 16) (hf : ∀ j, j < n → fits .byte (.int (f j)) = true) : Xr l E yJ7_copyOfRange_39247 cJ7_copyOfRange_39247 3 (some (.array .byte)) 3 1 16 [.ref v, .int 0, .int (Int32.ofNat n)] σ ([]) (some (v, f)) (fun r u => u = [(r, .inl (eB E, n, .inl (va_cpy f (fun _ => 0) 0 0 n)))]) := by
  refine Xr_of (C := RJ7) rfl (by decide +kernel) (Nat.le_of_ble_eq_true rfl) (fun p e s m below meth c ls X hAn hPV hT hG hl hnm => ?_)
  have hx := X.1.1.1
  have hb := X.1.1.2.1
  have hT : va_T .byte v 16 (fun j => .int (f j)) (AE E) s s.heap := hT
  have hl : lv_has ls 3 [(0, .ref v), (1, .int (0 : Int32)), (2, .int (Int32.ofNat n))] := hl
  refine lv_iload_n hx hb dJ7_copyOfRange_39247_0 rfl (lv_at hl 1 rfl) ?_
  refine lv_if_ne (tgt := 10) hx hb dJ7_copyOfRange_39247_1 (by decide) (fun c1 => absurd rfl c1) (fun c1 => ?_)
  refine lv_iload_n hx hb dJ7_copyOfRange_39247_4 rfl (lv_at hl 2 rfl) ?_
  refine lv_aload_n hx hb dJ7_copyOfRange_39247_5 rfl (lv_at hl 0 rfl) ?_
  refine va_tlen hx hb hT hG.2.2 rfl dJ7_copyOfRange_39247_6 ?_
  refine lv_icmp_eq (tgt := 17) hx hb dJ7_copyOfRange_39247_7 (by decide) (fun c2 => absurd c2 (sb_ne16 n hn)) (fun c2 => ?_)
  refine lv_aload_n hx hb dJ7_copyOfRange_39247_10 rfl (lv_at hl 0 rfl) ?_
  refine lv_iload_n hx hb dJ7_copyOfRange_39247_11 rfl (lv_at hl 1 rfl) ?_
  refine lv_iload_n hx hb dJ7_copyOfRange_39247_12 rfl (lv_at hl 2 rfl) ?_
  refine x_endr (va_runS X.1.1 (X_corb l E hn hf) ⟨callB_of 3 X.1.1.2.2.2.2 (gw_ok mw1303 rfl) rfl rfl rfl (X.1.1.2.2.2.2 _ (gw_in mw35 rfl)) (X.1.1.2.2.2.2 _ (gw_in mw1301 rfl)) (by decide +kernel) ⟨Nat.le_of_ble_eq_true rfl, Nat.le_of_ble_eq_true rfl⟩, X.1.1.2.2.2.2 _ (gw_in mw1302 rfl)⟩ ⟨XN_blind, fun U hU hW => ⟨rfl, (XN_pre X.1.2.1 X.1.2.2.1 X.1.2.2.2 hAn hPV hG ([] : List Value) U hU hW).2.1, (XN_pre X.1.2.1 X.1.2.2.1 X.1.2.2.2 hAn hPV hG ([] : List Value) U hU hW).2.2.1, PV.warm hW hPV, (show va_T .byte v 16 (fun j => .int (f j)) (AE E) U U.heap from by rw [hU]; exact (va_T.moved hW.alike hT).kept hG.2.2.2.1)⟩⟩ rfl rfl hl.1 rfl (lv_room (Nat.le_of_ble_eq_true rfl)) dJ7_copyOfRange_39247_13 ⟨Nat.le_of_ble_eq_true rfl, Nat.le_of_ble_eq_true rfl⟩) hG (fun r u H locs hu hG => ?_)
  exact xe_r X (Or.inr ⟨_, rfl⟩) hG dJ7_copyOfRange_39247_16 hu (Nat.le_of_ble_eq_true rfl) (Nat.le_of_ble_eq_true rfl)
set_option maxRecDepth 20000 in
set_option maxHeartbeats 4000000 in
theorem X_sin (l : Launch) (E : Ev) {σ : St} {q v n sa : Nat} {f : Nat → Int32} (hn : n < 16) (hf : ∀ j, j < n → fits .byte (.int (f j)) = true) : Xv l E yJ0_init_db425 cJ0_init_db425 5 4 1 16 [.ref sa, .ref q, .null] σ ([(q, sbC v (Int32.ofNat n)), (v, arB E f), (sa, .inr (11, [.null, .int 0, .int 0, .int 0]))]) (fun u => ∃ r, u = [(q, sbC v (Int32.ofNat n)), (v, arB E f), (sa, .inr (11, [.ref r, .int 0, .int 0, .int 0])), (r, .inl (eB E, n, .inl (va_cpy f (fun _ => 0) 0 0 n)))]) := by
  refine Xv_of (C := RJ0) rfl (by decide +kernel) (Nat.le_of_ble_eq_true rfl) (fun p e s m below meth c ls X hAn hPV hG hl hnm => ?_)
  have hx := X.1.1.1
  have hb := X.1.1.2.1
  have he0 : ([(q, sbC v (Int32.ofNat n)), (v, arB E f), (sa, .inr (11, [.null, .int 0, .int 0, .int 0]))] : List (Nat × va_E))[0]? = some (q, .inr (12, [.ref v, .int 0, .int 0, .int (Int32.ofNat n)])) := rfl
  have hl : lv_has ls 5 [(0, .ref sa), (1, .ref q), (2, .null)] := hl
  refine lv_aload_n hx hb dJ0_init_db425_0 rfl (lv_at hl 0 rfl) ?_
  refine x_obj X.1 hl.1 mw1283 dJ0_init_db425_1 (Nat.le_of_ble_eq_true rfl) (Nat.le_of_ble_eq_true rfl) ?_
  refine lv_aload_n hx hb dJ0_init_db425_4 rfl (lv_at hl 1 rfl) ?_
  refine x_endr (va_runU X.1.1 (X_gv l E he0) (va_cwU (C := RJ4) (owner := RJ5) (x := yJ5_getValue_6d5f1) 0 X.1.1.2.2.2.2 (gw_u mw1284 mw1286 mw1287 mw1285 mw32 (gw_ok mw1288 rfl)) rfl rfl rfl rfl (by decide +kernel) ⟨Nat.le_of_ble_eq_true rfl, Nat.le_of_ble_eq_true rfl⟩) ⟨XN_blind, x_recv X.1 hG he0 rfl, XN_pre X.1.2.1 X.1.2.2.1 X.1.2.2.2 hAn hPV hG _⟩ rfl rfl hl.1 rfl (lv_room (Nat.le_of_ble_eq_true rfl)) dJ0_init_db425_5 ⟨Nat.le_of_ble_eq_true rfl, Nat.le_of_ble_eq_true rfl⟩) hG (fun r u H locs hu hG => ?_)
  obtain ⟨rfl, rfl⟩ := hu
  refine lv_astore_n (lv' := [(3, .ref r), (0, .ref sa), (1, .ref q), (2, .null)]) hx hb dJ0_init_db425_8 rfl hl (by decide) rfl (fun ls hl => ?_)
  refine lv_aload_n hx hb dJ0_init_db425_9 rfl (lv_at hl 2 rfl) ?_
  refine x_endi (va_runU X.1.1 (X_len4 l E he0) (va_cwO (C := RJ4) (owner := RJ5) (x := yJ5_length_8abf5) 0 X.1.1.2.2.2.2 (gw_o mw1289 mw1291 mw1290 mw1292 mw1293 mw33 (gw_ok mw1294 rfl)) rfl rfl rfl (gw_in mw1296 rfl) (by decide +kernel) ⟨Nat.le_of_ble_eq_true rfl, Nat.le_of_ble_eq_true rfl⟩) ⟨XN_blind, x_recv X.1 hG he0 rfl, XN_pre X.1.2.1 X.1.2.2.1 X.1.2.2.2 hAn hPV hG _⟩ rfl rfl hl.1 rfl (lv_room (Nat.le_of_ble_eq_true rfl)) dJ0_init_db425_10 ⟨Nat.le_of_ble_eq_true rfl, Nat.le_of_ble_eq_true rfl⟩) hG (fun k u H locs hu hG => ?_)
  obtain ⟨rfl, rfl⟩ := hu
  refine lv_istore (lv' := [(4, .int (Int32.ofNat n)), (3, .ref r), (0, .ref sa), (1, .ref q), (2, .null)]) hx hb dJ0_init_db425_13 hl (by decide) rfl (fun ls hl => ?_)
  refine lv_aload_n hx hb dJ0_init_db425_15 rfl (lv_at hl 3 rfl) ?_
  refine x_endi (va_runU X.1.1 (X_lat l E he0) (va_cwU (C := RJ4) (owner := RJ5) (x := yJ5_isLatin1_aae02) 0 X.1.1.2.2.2.2 (gw_u mw1297 mw1192 mw1193 mw1191 mw32 (gw_ok mw1194 rfl)) rfl rfl rfl rfl (by decide +kernel) ⟨Nat.le_of_ble_eq_true rfl, Nat.le_of_ble_eq_true rfl⟩) ⟨XN_blind, x_recv X.1 hG he0 rfl, XN_pre X.1.2.1 X.1.2.2.1 X.1.2.2.2 hAn hPV hG _⟩ rfl rfl hl.1 rfl (lv_room (Nat.le_of_ble_eq_true rfl)) dJ0_init_db425_16 ⟨Nat.le_of_ble_eq_true rfl, Nat.le_of_ble_eq_true rfl⟩) hG (fun k u H locs hu hG => ?_)
  obtain ⟨rfl, rfl⟩ := hu
  refine lv_if_eq (tgt := 41) hx hb dJ0_init_db425_19 (by decide) (fun c1 => absurd c1 (by decide)) (fun c1 => ?_)
  refine lv_aload_n hx hb dJ0_init_db425_22 rfl (lv_at hl 2 rfl) ?_
  refine lv_iconst (v := (0 : Int32)) hx hb dJ0_init_db425_23 (by decide) ?_
  refine x_putF (i := 2) (fs := [.null, .int 0, .int 0, .int 0]) X.1 hG rfl 1 (by decide) mw1318 rfl (hnm _ rfl) rfl (ty := .byte) (by decide +kernel) rfl rfl (Nat.le_of_ble_eq_true rfl) dJ0_init_db425_24 (fun H locs hG => ?_)
  have hG : XR E σ [(q, sbC r (Int32.ofNat n)), (r, arB E f), (sa, .inr (11, [.null, .int 0, .int 0, .int 0]))] s.heap H locs := hG
  refine lv_aload_n hx hb dJ0_init_db425_27 rfl (lv_at hl 2 rfl) ?_
  refine lv_aload_n hx hb dJ0_init_db425_28 rfl (lv_at hl 1 rfl) ?_
  refine lv_iconst (v := (0 : Int32)) hx hb dJ0_init_db425_29 (by decide) ?_
  refine lv_iload hx hb dJ0_init_db425_30 (lv_at hl 0 rfl) ?_
  refine va_callr (va_runS X.1.1 (X_cor l (eN E _) (v := r) (f := f) hn hf) ⟨callB_of 3 X.1.1.2.2.2.2 (gw_ok mw1300 rfl) rfl rfl rfl (X.1.1.2.2.2.2 _ (gw_in mw35 rfl)) (X.1.1.2.2.2.2 _ (gw_in mw1298 rfl)) (by decide +kernel) ⟨Nat.le_of_ble_eq_true rfl, Nat.le_of_ble_eq_true rfl⟩, X.1.1.2.2.2.2 _ (gw_in mw1299 rfl)⟩ ⟨XN_blind, fun U hU hW => ⟨rfl, ⟨by rw [hU, List.append_nil]; exact hG.gs.1, va_K.moved hW.alike X.1.2.1, by rw [List.append_nil]; exact hG.cutD, NW.warm hW X.1.2.2.1, XW.warm hW (by rw [hU]; exact hG.cutX X.1.2.2.2)⟩, fun z hz => ⟨hAn z (Nat.le_trans hG.2.2.1 (by rw [← hU]; exact hz)), fun x hx e => by have h8 := hG.lt hx; rw [e, ← hU] at h8; omega⟩, PV.warm hW hPV, hG.T X.1.2.1 (i := 1) rfl hU hW⟩⟩ rfl rfl hl.1 rfl (lv_room (Nat.le_of_ble_eq_true rfl)) dJ0_init_db425_32 ⟨Nat.le_of_ble_eq_true rfl, Nat.le_of_ble_eq_true rfl⟩) hG.2.2 (fun z _ h => h.1) (fun z h => h.1) (fun u ra t H1 locs1 ht hvm hw hB hz1 hk1 hS1 => ?_)
  obtain ⟨rfl, hB⟩ := hB
  have hG := hG.join ht hB.1 hB.2.2.1 hk1 hS1
  refine x_putF (i := 2) (fs := [.null, .int 0, .int 0, .int 0]) X.1 hG rfl 0 (by decide) mw1317 rfl (hnm _ rfl) rfl (ty := .array .byte) (by decide +kernel) rfl rfl (Nat.le_of_ble_eq_true rfl) dJ0_init_db425_35 (fun H locs hG => ?_)
  refine lv_goto (tgt := 97) hx hb dJ0_init_db425_38 (by decide) ?_
  exact xe_v X hG dJ0_init_db425_97 ⟨ra, rfl⟩ (Nat.le_of_ble_eq_true rfl) (Nat.le_of_ble_eq_true rfl)
set_option maxRecDepth 20000 in
set_option maxHeartbeats 4000000 in
theorem X_sin0 (l : Launch) (E : Ev) {σ : St} {q v n sa : Nat} {f : Nat → Int32} (hn : n < 16) (hf : ∀ j, j < n → fits .byte (.int (f j)) = true) : Xv l E yJ0_init_81219 cJ0_init_81219 2 5 1 16 [.ref sa, .ref q] σ ([(q, sbC v (Int32.ofNat n)), (v, arB E f), (sa, .inr (11, [.null, .int 0, .int 0, .int 0]))]) (fun u => ∃ r, u = [(q, sbC v (Int32.ofNat n)), (v, arB E f), (sa, .inr (11, [.ref r, .int 0, .int 0, .int 0])), (r, .inl (eB E, n, .inl (va_cpy f (fun _ => 0) 0 0 n)))]) := by
  refine Xv_of (C := RJ0) rfl (by decide +kernel) (Nat.le_of_ble_eq_true rfl) (fun p e s m below meth c ls X hAn hPV hG hl hnm => ?_)
  have hx := X.1.1.1
  have hb := X.1.1.2.1
  have hl : lv_has ls 2 [(0, .ref sa), (1, .ref q)] := hl
  refine lv_aload_n hx hb dJ0_init_81219_0 rfl (lv_at hl 0 rfl) ?_
  refine lv_aload_n hx hb dJ0_init_81219_1 rfl (lv_at hl 1 rfl) ?_
  refine lv_null hx hb dJ0_init_81219_2 ?_
  refine x_endv (va_runI X.1.1 (X_sin l E hn hf) (cwI 2 X.1.1.2.2.2.2 (gw_ok mw1282 rfl) rfl rfl rfl (X.1.1.2.2.2.2 _ (gw_in mw25 rfl)) (X.1.1.2.2.2.2 _ (gw_in mw1280 rfl)) (X.1.1.2.2.2.2 _ (gw_in mw1281 rfl)) rfl (by decide +kernel) ⟨Nat.le_of_ble_eq_true rfl, Nat.le_of_ble_eq_true rfl⟩) ⟨XN_blind, XN_pre X.1.2.1 X.1.2.2.1 X.1.2.2.2 hAn hPV hG _⟩ rfl rfl hl.1 rfl (lv_room (Nat.le_of_ble_eq_true rfl)) dJ0_init_81219_3 ⟨Nat.le_of_ble_eq_true rfl, Nat.le_of_ble_eq_true rfl⟩) hG (fun u H locs hu hG => ?_)
  exact xe_v X hG dJ0_init_81219_6 hu (Nat.le_of_ble_eq_true rfl) (Nat.le_of_ble_eq_true rfl)
set_option maxRecDepth 20000 in
set_option maxHeartbeats 4000000 in
theorem X_tos (l : Launch) (E : Ev) {σ : St} {q v n : Nat} {f : Nat → Int32} (hn : n < 16) (hf : ∀ j, j < n → fits .byte (.int (f j)) = true) : Xr l E yJ4_toString_0e30d cJ4_toString_0e30d 1 (some (.object "java/lang/String")) 6 2 20 [.ref q] σ ([(q, sbC v (Int32.ofNat n)), (v, arB E f)]) none (fun sa u => ∃ r, u = [(q, sbC v (Int32.ofNat n)), (v, arB E f), (sa, .inr (11, [.ref r, .int 0, .int 0, .int 0])), (r, .inl (eB E, n, .inl (va_cpy f (fun _ => 0) 0 0 n)))]) := by
  refine Xr_of (C := RJ4) rfl (by decide +kernel) (Nat.le_of_ble_eq_true rfl) (fun p e s m below meth c ls X hAn hPV hT hG hl hnm => ?_)
  have hx := X.1.1.1
  have hb := X.1.1.2.1
  have hl : lv_has ls 1 [(0, .ref q)] := hl
  refine x_newO (fs := [.null, .int 0, .int 0, .int 0]) X.1 hAn hG fnJ0 tyJ0 tyJ0_ok mw1275 mw1276 mw25 (ci := 11) rfl (by decide +kernel) (Nat.le_of_ble_eq_true rfl) (Nat.le_of_ble_eq_true rfl) dJ4_toString_0e30d_0 (fun sa H hG => ?_)
  have hG : XR E σ [(q, sbC v (Int32.ofNat n)), (v, arB E f), (sa, .inr (11, [.null, .int 0, .int 0, .int 0]))] s.heap H [] := hG
  refine lv_dup hx hb dJ4_toString_0e30d_3 rfl ?_
  refine lv_aload_n hx hb dJ4_toString_0e30d_4 rfl (lv_at hl 0 rfl) ?_
  refine x_endv (va_runI X.1.1 (X_sin0 l E hn hf) (cwI 1 X.1.1.2.2.2.2 (gw_ok mw1279 rfl) rfl rfl rfl (X.1.1.2.2.2.2 _ (gw_in mw25 rfl)) (X.1.1.2.2.2.2 _ (gw_in mw1277 rfl)) (X.1.1.2.2.2.2 _ (gw_in mw1278 rfl)) rfl (by decide +kernel) ⟨Nat.le_of_ble_eq_true rfl, Nat.le_of_ble_eq_true rfl⟩) ⟨XN_blind, XN_pre X.1.2.1 X.1.2.2.1 X.1.2.2.2 hAn hPV hG _⟩ rfl rfl hl.1 rfl (lv_room (Nat.le_of_ble_eq_true rfl)) dJ4_toString_0e30d_5 ⟨Nat.le_of_ble_eq_true rfl, Nat.le_of_ble_eq_true rfl⟩) hG (fun u H locs hu hG => ?_)
  exact xe_r X (Or.inl ⟨_, rfl⟩) hG dJ4_toString_0e30d_8 hu (Nat.le_of_ble_eq_true rfl) (Nat.le_of_ble_eq_true rfl)
