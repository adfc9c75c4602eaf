def M_X11_inspect (σ : St) (k : Nat) (p0 p1 : Int32) : Option (St × Int32) := bcall (M_X11_tries σ k) fun σ1 r2 => bcall (M_X11_inspects σ1 k p0 p1) fun σ3 r4 => bcall (M_X11_ends σ3 k r4) fun σ5 r6 => some (σ5, r6)
set_option maxRecDepth 20000 in
set_option maxHeartbeats 4000000 in
theorem C_X11_inspect (l : Launch) (E : Ev) {σ σ' : St} {k : Nat} {p0 : Int32} {p1 : Int32} {r : Int32} (h : M_X11_inspect σ k p0 p1 = some (σ', r)) (hL : lay 11 k) : Mi l E yX11_inspect cX11_inspect 3 (some .int) 4 [.ref (E.1 k), .int p0, .int p1] σ σ' r := by
  refine Mi_of (C := RX11) rfl (by decide) (Nat.le_of_ble_eq_true rfl) (z := (σ', r)) (fun p e s m below meth c ls X hG hl => ?_)
  have hx := X.1.1.1
  have hb := X.1.1.2.1
  have hM := h
  unfold M_X11_inspect at hM
  generalize (σ', r) = z at hM ⊢
  have hl : lv_has ls 3 [(0, .ref (E.1 k)), (1, .int p0), (2, .int p1)] := hl
  refine lv_aload_n hx hb dX11_inspect_0 rfl (lv_at hl 0 rfl) ?_
  refine g_callV_v (nA := 0) (o := M_X11_tries σ k) (As := []) X.1 hG hL rfl rfl (fun _ _ h => C_X11_tries l E h hL) mw1189 mw1191 mw12 mw62 (gw_ok mw1192 rfl) (by decide +kernel) rfl ⟨Nat.le_of_ble_eq_true rfl, Nat.le_of_ble_eq_true rfl⟩ hl.1 rfl (Nat.le_of_ble_eq_true rfl) ⟨Nat.le_refl _, Nat.le_refl _⟩ dX11_inspect_1 hM (fun σ1 r2 H locs hG hM => ?_)
  refine lv_aload_n hx hb dX11_inspect_4 rfl (lv_at hl 0 rfl) ?_
  refine lv_aload_n hx hb dX11_inspect_5 rfl (lv_at hl 0 rfl) ?_
  refine lv_iload_n hx hb dX11_inspect_6 rfl (lv_at hl 1 rfl) ?_
  refine lv_iload_n hx hb dX11_inspect_7 rfl (lv_at hl 2 rfl) ?_
  refine g_callV_i (nA := 2) (o := M_X11_inspects σ1 k p0 p1) (As := [.int p0, .int p1]) X.1 hG hL rfl rfl (fun _ _ h => C_X11_inspects l E h hL) mw1311 mw1313 mw32 mw62 (gw_ok mw1314 rfl) (by decide +kernel) rfl ⟨Nat.le_of_ble_eq_true rfl, Nat.le_of_ble_eq_true rfl⟩ hl.1 rfl (Nat.le_of_ble_eq_true rfl) ⟨Nat.le_refl _, Nat.le_refl _⟩ dX11_inspect_8 hM (fun σ3 r4 H locs hG hM => ?_)
  refine g_callV_i (nA := 1) (o := M_X11_ends σ3 k r4) (As := [.int r4]) X.1 hG hL rfl rfl (fun _ _ h => C_X11_ends l E h hL) mw1226 mw1228 mw19 mw62 (gw_ok mw1229 rfl) (by decide +kernel) rfl ⟨Nat.le_of_ble_eq_true rfl, Nat.le_of_ble_eq_true rfl⟩ hl.1 rfl (Nat.le_of_ble_eq_true rfl) ⟨Nat.le_refl _, Nat.le_refl _⟩ dX11_inspect_11 hM (fun σ5 r6 H locs hG hM => ?_)
  exact e_iret X hG dX11_inspect_14 hM
def M_X11_strong (σ : St) (k : Nat) (p0 : Int32) : Option (St × Int32) := bcall (M_X11_of σ k p0 (1 : Int32)) fun σ1 r2 => bcall (M_X11_of σ1 k p0 (0 : Int32)) fun σ3 r4 => bcall (M_X11_of σ3 k p0 (2 : Int32)) fun σ5 r6 => blet (imax (0 : Int32) (((((12 : Int32) - (r2 / (6 : Int32))) + r4) - (r6 / (5 : Int32))) - (p0 / (2 : Int32)))) fun v7 => some (σ5, v7)
set_option maxRecDepth 20000 in
set_option maxHeartbeats 4000000 in
theorem C_X11_strong (l : Launch) (E : Ev) {σ σ' : St} {k : Nat} {p0 : Int32} {r : Int32} (h : M_X11_strong σ k p0 = some (σ', r)) (hL : lay 11 k) : Mi l E yX11_strong cX11_strong 2 (some .int) 2 [.ref (E.1 k), .int p0] σ σ' r := by
  refine Mi_of (C := RX11) rfl (by decide) (Nat.le_of_ble_eq_true rfl) (z := (σ', r)) (fun p e s m below meth c ls X hG hl => ?_)
  have hx := X.1.1.1
  have hb := X.1.1.2.1
  have hM := h
  unfold M_X11_strong at hM
  generalize (σ', r) = z at hM ⊢
  have hl : lv_has ls 2 [(0, .ref (E.1 k)), (1, .int p0)] := hl
  refine lv_iconst (v := (0 : Int32)) hx hb dX11_strong_0 (by decide) ?_
  refine lv_bipush (v := (12 : Int32)) hx hb dX11_strong_1 (by decide) ?_
  refine lv_aload_n hx hb dX11_strong_3 rfl (lv_at hl 0 rfl) ?_
  refine lv_iload_n hx hb dX11_strong_4 rfl (lv_at hl 1 rfl) ?_
  refine lv_iconst (v := (1 : Int32)) hx hb dX11_strong_5 (by decide) ?_
  refine g_callV_i (nA := 2) (o := M_X11_of σ k p0 (1 : Int32)) (As := [.int p0, .int (1 : Int32)]) X.1 hG hL rfl rfl (fun _ _ h => C_X11_of l E h hL) mw1242 mw1244 mw22 mw62 (gw_ok mw1245 rfl) (by decide +kernel) rfl ⟨Nat.le_of_ble_eq_true rfl, Nat.le_of_ble_eq_true rfl⟩ hl.1 rfl (Nat.le_of_ble_eq_true rfl) ⟨Nat.le_refl _, Nat.le_refl _⟩ dX11_strong_6 hM (fun σ1 r2 H locs hG hM => ?_)
  refine lv_bipush (v := (6 : Int32)) hx hb dX11_strong_9 (by decide) ?_
  refine lv_idiv hx hb dX11_strong_11 (by decide) ?_
  refine lv_isub hx hb dX11_strong_12 ?_
  refine lv_aload_n hx hb dX11_strong_13 rfl (lv_at hl 0 rfl) ?_
  refine lv_iload_n hx hb dX11_strong_14 rfl (lv_at hl 1 rfl) ?_
  refine lv_iconst (v := (0 : Int32)) hx hb dX11_strong_15 (by decide) ?_
  refine g_callV_i (nA := 2) (o := M_X11_of σ1 k p0 (0 : Int32)) (As := [.int p0, .int (0 : Int32)]) X.1 hG hL rfl rfl (fun _ _ h => C_X11_of l E h hL) mw1242 mw1244 mw22 mw62 (gw_ok mw1245 rfl) (by decide +kernel) rfl ⟨Nat.le_of_ble_eq_true rfl, Nat.le_of_ble_eq_true rfl⟩ hl.1 rfl (Nat.le_of_ble_eq_true rfl) ⟨Nat.le_refl _, Nat.le_refl _⟩ dX11_strong_16 hM (fun σ3 r4 H locs hG hM => ?_)
  refine lv_iadd hx hb dX11_strong_19 ?_
  refine lv_aload_n hx hb dX11_strong_20 rfl (lv_at hl 0 rfl) ?_
  refine lv_iload_n hx hb dX11_strong_21 rfl (lv_at hl 1 rfl) ?_
  refine lv_iconst (v := (2 : Int32)) hx hb dX11_strong_22 (by decide) ?_
  refine g_callV_i (nA := 2) (o := M_X11_of σ3 k p0 (2 : Int32)) (As := [.int p0, .int (2 : Int32)]) X.1 hG hL rfl rfl (fun _ _ h => C_X11_of l E h hL) mw1242 mw1244 mw22 mw62 (gw_ok mw1245 rfl) (by decide +kernel) rfl ⟨Nat.le_of_ble_eq_true rfl, Nat.le_of_ble_eq_true rfl⟩ hl.1 rfl (Nat.le_of_ble_eq_true rfl) ⟨Nat.le_refl _, Nat.le_refl _⟩ dX11_strong_23 hM (fun σ5 r6 H locs hG hM => ?_)
  refine lv_iconst (v := (5 : Int32)) hx hb dX11_strong_26 (by decide) ?_
  refine lv_idiv hx hb dX11_strong_27 (by decide) ?_
  refine lv_isub hx hb dX11_strong_28 ?_
  refine lv_iload_n hx hb dX11_strong_29 rfl (lv_at hl 1 rfl) ?_
  refine lv_iconst (v := (2 : Int32)) hx hb dX11_strong_30 (by decide) ?_
  refine lv_idiv hx hb dX11_strong_31 (by decide) ?_
  refine lv_isub hx hb dX11_strong_32 ?_
  refine g_max X.1 hl.1 mw1343 (Nat.le_of_ble_eq_true rfl) (Nat.le_of_ble_eq_true rfl) (Nat.le_of_ble_eq_true rfl) (Nat.le_of_ble_eq_true rfl) dX11_strong_33 hM (fun v7 hM => ?_)
  exact e_iret X hG dX11_strong_36 hM
def B_X11_fallsBy_2  : Nat → St → Nat → Int32 → Int32 → Option (St × Int32)
  | 0, _, _, _, _ => none
  | n + 1, σ, k, x1, x2 => bald σ (k + 1) (3 : Int32) fun q1 => if q1 ≤ x2 then some (σ, (-4 : Int32)) else (bcall (M_X11_strong σ k x2) fun σ2 r3 => if x1 ≤ r3 then (blet (x2 + (1 : Int32)) fun v4 => B_X11_fallsBy_2 n σ2 k x1 v4) else some (σ2, x2))
def M_X11_fallsBy (σ : St) (k : Nat) (p0 : Int32) : Option (St × Int32) := B_X11_fallsBy_2 FU σ k p0 (0 : Int32)
set_option maxRecDepth 20000 in
set_option maxHeartbeats 4000000 in
theorem w_X11_fallsBy_2 {p : Program} {l : Launch} {e : Env} {s : State} {m : MethodId} {below : List Frame} {meth : Method} {c : Code} {args : Array Value} {E : Ev} {k : Nat} (X : Bx E p m meth c cX11_fallsBy 3 (some .int) s args RX11) (hL : lay 11 k) : ∀ (n : Nat) (σ : St) (x1 x2 : Int32) (H : Heap) (locs : List Loc) (ls : Array Slot) (z : St × Int32), GS E σ s.heap H locs → lv_has ls 3 [(0, .ref (E.1 k)), (1, .int x1), (2, .int x2)] → B_X11_fallsBy_2 n σ k x1 x2 = some z → W p l e (rmd 3) s m args below meth c H locs 0 0 (QI E z below args s) (F0 m 2 ls []) := by
  have hx := X.1.1.1
  have hb := X.1.1.2.1
  intro n
  induction n with
  | zero => intro σ x1 x2 H locs ls z  hG hl hM; cases hM
  | succ n ih =>
    intro σ x1 x2 H locs ls z  hG hl hM
    unfold B_X11_fallsBy_2 at hM
    refine lv_iload_n hx hb dX11_fallsBy_2 rfl (lv_at hl 2 rfl) ?_
    refine lv_aload_n hx hb dX11_fallsBy_3 rfl (lv_at hl 0 rfl) ?_
    refine gt_11_0 X.1 hG hL mw1119 dX11_fallsBy_4 ?_
    refine lv_iconst (v := (3 : Int32)) hx hb dX11_fallsBy_7 (by decide) ?_
    refine g_ald X.1 hG (lf_11_0 hL) dX11_fallsBy_8 hM (fun q1 hM => ?_)
    refine lv_icmp_ge (tgt := 29) hx hb dX11_fallsBy_9 (by decide) (fun c6 => ?_) (fun c6 => ?_)
    · have hM := b_if hM c6
      refine lv_bipush (v := (-4 : Int32)) hx hb dX11_fallsBy_29 (by decide) ?_
      exact e_iret X hG dX11_fallsBy_31 hM
    · have hM := b_else hM c6
      refine lv_aload_n hx hb dX11_fallsBy_12 rfl (lv_at hl 0 rfl) ?_
      refine lv_iload_n hx hb dX11_fallsBy_13 rfl (lv_at hl 2 rfl) ?_
      refine g_callV_i (nA := 1) (o := M_X11_strong σ k x2) (As := [.int x2]) X.1 hG hL rfl rfl (fun _ _ h => C_X11_strong l E h hL) mw1339 mw1341 mw38 mw62 (gw_ok mw1342 rfl) (by decide +kernel) rfl ⟨Nat.le_of_ble_eq_true rfl, Nat.le_of_ble_eq_true rfl⟩ hl.1 rfl (Nat.le_of_ble_eq_true rfl) ⟨Nat.le_refl _, Nat.le_refl _⟩ dX11_fallsBy_14 hM (fun σ2 r3 H locs hG hM => ?_)
      refine lv_iload_n hx hb dX11_fallsBy_17 rfl (lv_at hl 1 rfl) ?_
      refine lv_icmp_ge (tgt := 23) hx hb dX11_fallsBy_18 (by decide) (fun c5 => ?_) (fun c5 => ?_)
      · have hM := b_if hM c5
        obtain ⟨v4, ev4, hM⟩ := g_nm hM
        refine lv_iinc (v := v4) (lv' := [(2, .int v4), (0, .ref (E.1 k)), (1, .int x1)]) hx hb dX11_fallsBy_23 hl (k := 2) rfl (by rw [ev4]; rfl) (by decide) rfl (fun ls hl => ?_)
        refine lv_goto (tgt := 2) hx hb dX11_fallsBy_26 (by decide) ?_
        exact ih σ2 x1 v4 _ _ _ z hG (lv_sub hl [1, 2, 0] rfl) hM
      · have hM := b_else hM c5
        refine lv_iload_n hx hb dX11_fallsBy_21 rfl (lv_at hl 2 rfl) ?_
        exact e_iret X hG dX11_fallsBy_22 hM
set_option maxRecDepth 20000 in
set_option maxHeartbeats 4000000 in
theorem C_X11_fallsBy (l : Launch) (E : Ev) {σ σ' : St} {k : Nat} {p0 : Int32} {r : Int32} (h : M_X11_fallsBy σ k p0 = some (σ', r)) (hL : lay 11 k) : Mi l E yX11_fallsBy cX11_fallsBy 3 (some .int) 3 [.ref (E.1 k), .int p0] σ σ' r := by
  refine Mi_of (C := RX11) rfl (by decide) (Nat.le_of_ble_eq_true rfl) (z := (σ', r)) (fun p e s m below meth c ls X hG hl => ?_)
  have hx := X.1.1.1
  have hb := X.1.1.2.1
  have hM := h
  unfold M_X11_fallsBy at hM
  generalize (σ', r) = z at hM ⊢
  have hl : lv_has ls 3 [(0, .ref (E.1 k)), (1, .int p0)] := hl
  refine lv_iconst (v := (0 : Int32)) hx hb dX11_fallsBy_0 (by decide) ?_
  refine lv_istore_n (lv' := [(2, .int (0 : Int32)), (0, .ref (E.1 k)), (1, .int p0)]) hx hb dX11_fallsBy_1 rfl hl (by decide) rfl (fun ls hl => ?_)
  exact w_X11_fallsBy_2 X hL FU σ p0 (0 : Int32) _ _ _ z hG (lv_sub hl [1, 2, 0] rfl) hM
def M_X11_works (σ : St) (k : Nat) (p0 : Int32) : Option (St × Int32) := bcall (M_X11_where σ k p0) fun σ1 r2 => if r2 < 0 then some (σ1, (0 : Int32)) else (bcall (M_X11_oldUpTo σ1 k r2) fun σ3 r4 => if 0 ≤ r4 then some (σ3, (0 : Int32)) else (bcall (M_X11_of σ3 k r2 (3 : Int32)) fun σ5 r6 => if r6 ≤ 0 then some (σ5, (0 : Int32)) else (bcall (M_X11_of σ5 k r2 (4 : Int32)) fun σ7 r8 => if r8 ≤ 0 then some (σ7, (0 : Int32)) else some (σ7, (1 : Int32)))))
set_option maxRecDepth 20000 in
set_option maxHeartbeats 4000000 in
theorem C_X11_works (l : Launch) (E : Ev) {σ σ' : St} {k : Nat} {p0 : Int32} {r : Int32} (h : M_X11_works σ k p0 = some (σ', r)) (hL : lay 11 k) : Mi l E yX11_works cX11_works 3 (some .boolean) 3 [.ref (E.1 k), .int p0] σ σ' r := by
  refine Mi_of (C := RX11) rfl (by decide) (Nat.le_of_ble_eq_true rfl) (z := (σ', r)) (fun p e s m below meth c ls X hG hl => ?_)
  have hx := X.1.1.1
  have hb := X.1.1.2.1
  have hM := h
  unfold M_X11_works at hM
  generalize (σ', r) = z at hM ⊢
  have hl : lv_has ls 3 [(0, .ref (E.1 k)), (1, .int p0)] := hl
  refine lv_aload_n hx hb dX11_works_0 rfl (lv_at hl 0 rfl) ?_
  refine lv_iload_n hx hb dX11_works_1 rfl (lv_at hl 1 rfl) ?_
  refine g_callV_i (nA := 1) (o := M_X11_where σ k p0) (As := [.int p0]) X.1 hG hL rfl rfl (fun _ _ h => C_X11_where l E h hL) mw1262 mw1264 mw25 mw62 (gw_ok mw1265 rfl) (by decide +kernel) rfl ⟨Nat.le_of_ble_eq_true rfl, Nat.le_of_ble_eq_true rfl⟩ hl.1 rfl (Nat.le_of_ble_eq_true rfl) ⟨Nat.le_refl _, Nat.le_refl _⟩ dX11_works_2 hM (fun σ1 r2 H locs hG hM => ?_)
  refine lv_istore_n (lv' := [(2, .int r2), (0, .ref (E.1 k)), (1, .int p0)]) hx hb dX11_works_5 rfl hl (by decide) rfl (fun ls hl => ?_)
  refine lv_iload_n hx hb dX11_works_6 rfl (lv_at hl 0 rfl) ?_
  refine lv_if_lt (tgt := 40) hx hb dX11_works_7 (by decide) (fun c12 => ?_) (fun c12 => ?_)
  · have hM := b_if hM c12
    refine lv_iconst (v := (0 : Int32)) hx hb dX11_works_40 (by decide) ?_
    exact e_zret X hG (by decide) dX11_works_41 hM
  · have hM := b_else hM c12
    refine lv_aload_n hx hb dX11_works_10 rfl (lv_at hl 1 rfl) ?_
    refine lv_iload_n hx hb dX11_works_11 rfl (lv_at hl 0 rfl) ?_
    refine g_callV_i (nA := 1) (o := M_X11_oldUpTo σ1 k r2) (As := [.int r2]) X.1 hG hL rfl rfl (fun _ _ h => C_X11_oldUpTo l E h hL) mw1266 mw1268 mw26 mw62 (gw_ok mw1269 rfl) (by decide +kernel) rfl ⟨Nat.le_of_ble_eq_true rfl, Nat.le_of_ble_eq_true rfl⟩ hl.1 rfl (Nat.le_of_ble_eq_true rfl) ⟨Nat.le_refl _, Nat.le_refl _⟩ dX11_works_12 hM (fun σ3 r4 H locs hG hM => ?_)
    refine lv_if_ge (tgt := 40) hx hb dX11_works_15 (by decide) (fun c11 => ?_) (fun c11 => ?_)
    · have hM := b_if hM c11
      refine lv_iconst (v := (0 : Int32)) hx hb dX11_works_40 (by decide) ?_
      exact e_zret X hG (by decide) dX11_works_41 hM
    · have hM := b_else hM c11
      refine lv_aload_n hx hb dX11_works_18 rfl (lv_at hl 1 rfl) ?_
      refine lv_iload_n hx hb dX11_works_19 rfl (lv_at hl 0 rfl) ?_
      refine lv_iconst (v := (3 : Int32)) hx hb dX11_works_20 (by decide) ?_
      refine g_callV_i (nA := 2) (o := M_X11_of σ3 k r2 (3 : Int32)) (As := [.int r2, .int (3 : Int32)]) X.1 hG hL rfl rfl (fun _ _ h => C_X11_of l E h hL) mw1242 mw1244 mw22 mw62 (gw_ok mw1245 rfl) (by decide +kernel) rfl ⟨Nat.le_of_ble_eq_true rfl, Nat.le_of_ble_eq_true rfl⟩ hl.1 rfl (Nat.le_of_ble_eq_true rfl) ⟨Nat.le_refl _, Nat.le_refl _⟩ dX11_works_21 hM (fun σ5 r6 H locs hG hM => ?_)
      refine lv_if_le (tgt := 40) hx hb dX11_works_24 (by decide) (fun c10 => ?_) (fun c10 => ?_)
      · have hM := b_if hM c10
        refine lv_iconst (v := (0 : Int32)) hx hb dX11_works_40 (by decide) ?_
        exact e_zret X hG (by decide) dX11_works_41 hM
      · have hM := b_else hM c10
        refine lv_aload_n hx hb dX11_works_27 rfl (lv_at hl 1 rfl) ?_
        refine lv_iload_n hx hb dX11_works_28 rfl (lv_at hl 0 rfl) ?_
        refine lv_iconst (v := (4 : Int32)) hx hb dX11_works_29 (by decide) ?_
        refine g_callV_i (nA := 2) (o := M_X11_of σ5 k r2 (4 : Int32)) (As := [.int r2, .int (4 : Int32)]) X.1 hG hL rfl rfl (fun _ _ h => C_X11_of l E h hL) mw1242 mw1244 mw22 mw62 (gw_ok mw1245 rfl) (by decide +kernel) rfl ⟨Nat.le_of_ble_eq_true rfl, Nat.le_of_ble_eq_true rfl⟩ hl.1 rfl (Nat.le_of_ble_eq_true rfl) ⟨Nat.le_refl _, Nat.le_refl _⟩ dX11_works_30 hM (fun σ7 r8 H locs hG hM => ?_)
        refine lv_if_le (tgt := 40) hx hb dX11_works_33 (by decide) (fun c9 => ?_) (fun c9 => ?_)
        · have hM := b_if hM c9
          refine lv_iconst (v := (0 : Int32)) hx hb dX11_works_40 (by decide) ?_
          exact e_zret X hG (by decide) dX11_works_41 hM
        · have hM := b_else hM c9
          refine lv_iconst (v := (1 : Int32)) hx hb dX11_works_36 (by decide) ?_
          refine lv_goto (tgt := 41) hx hb dX11_works_37 (by decide) ?_
          exact e_zret X hG (by decide) dX11_works_41 hM
def B_X11_passes_364  : Nat → St → Nat → Int32 → Int32 → Option (St × Int32)
  | 0, _, _, _, _ => none
  | n + 1, σ, k, x3, x4 => bald σ (k + 1) (3 : Int32) fun q9 => if q9 ≤ x4 then some (σ, x3) else (bcall (M_X11_of σ k x4 (1 : Int32)) fun σ10 r11 => blet (imin (60 : Int32) (r11 + (1 : Int32))) fun v12 => bcall (M_X11_sets σ10 k x4 (1 : Int32) v12) fun σ13 r14 => blet (x4 + (1 : Int32)) fun v15 => B_X11_passes_364 n σ13 k x3 v15)
def B_X11_passes_309  : Nat → St → Nat → Int32 → Int32 → Option (St × Int32)
  | 0, _, _, _, _ => none
  | n + 1, σ, k, x3, x4 => bald σ (k + 1) (2 : Int32) fun q8 => if q8 ≤ x4 then (B_X11_passes_364 FU σ k x3 (0 : Int32)) else (bald σ (k + 1) (((14 : Int32) + ((2 : Int32) * x4)) + (1 : Int32)) fun q17 => blet (imin (60 : Int32) (q17 + (1 : Int32))) fun v18 => bast σ (k + 1) (((14 : Int32) + ((2 : Int32) * x4)) + (1 : Int32)) v18 fun σ19 => blet (x4 + (1 : Int32)) fun v20 => B_X11_passes_309 n σ19 k x3 v20)
def B_X11_passes_275 (σ : St) (k : Nat) (x3 : Int32) : Option (St × Int32) := bald σ (k + 1) (0 : Int32) fun q4 => bast σ (k + 1) (0 : Int32) (q4 + (1 : Int32)) fun σ5 => bast σ5 (k + 1) (7 : Int32) (20 : Int32) fun σ6 => bald σ6 (k + 1) (0 : Int32) fun q7 => if (q7 - q7 / (7 : Int32) * (7 : Int32)) = 0 then (B_X11_passes_309 FU σ6 k x3 (0 : Int32)) else some (σ6, x3)
def B_X11_passes_203  : Nat → St → Nat → Int32 → Int32 → Int32 → Option (St × Int32)
  | 0, _, _, _, _, _ => none
  | n + 1, σ, k, x2, x3, x4 => bald σ (k + 1) (3 : Int32) fun q23 => if q23 ≤ x4 then (bast σ (k + 1) (3 : Int32) x2 fun σ24 => bald σ24 (k + 1) (10 : Int32) fun q25 => bast σ24 (k + 1) (10 : Int32) (q25 + x3) fun σ26 => B_X11_passes_275 σ26 k x3) else (bald σ (k + 1) (11 : Int32) fun q27 => bcall (M_X11_of σ k x4 (0 : Int32)) fun σ28 r29 => bast σ28 (k + 1) (11 : Int32) (q27 + r29) fun σ30 => bald σ30 (k + 1) (13 : Int32) fun q31 => bcall (M_X11_of σ30 k x4 (3 : Int32)) fun σ32 r33 => bast σ32 (k + 1) (13 : Int32) (q31 + r33) fun σ34 => blet (x3 + (1 : Int32)) fun v35 => blet (x4 + (1 : Int32)) fun v36 => B_X11_passes_203 n σ34 k x2 v35 v36)
def B_X11_passes_193 (σ : St) (k : Nat) (t0 : Int32) : Option (St × Int32) := if t0 < 0 then (B_X11_passes_275 σ k (0 : Int32)) else (B_X11_passes_203 FU σ k t0 (0 : Int32) t0)
def B_X11_passes_131  : Nat → St → Nat → Int32 → Int32 → Option (St × Int32)
  | 0, _, _, _, _ => none
  | n + 1, σ, k, x1, x2 => bald σ (k + 1) (3 : Int32) fun q3 => if q3 ≤ x2 then (if x1 = 0 then (B_X11_passes_193 σ k (-4 : Int32)) else (bald σ (k + 1) (1 : Int32) fun q39 => bcall (M_X11_fallsBy σ k q39) fun σ40 r41 => B_X11_passes_193 σ40 k r41)) else (bcall (M_X11_of σ k x2 (2 : Int32)) fun σ43 r44 => if x1 = 0 then (blet (imin (99 : Int32) (r44 + (1 : Int32))) fun v45 => bcall (M_X11_sets σ43 k x2 (2 : Int32) v45) fun σ46 r47 => blet (x2 + (1 : Int32)) fun v48 => B_X11_passes_131 n σ46 k x1 v48) else (blet (imin (99 : Int32) (r44 + (4 : Int32))) fun v49 => bcall (M_X11_sets σ43 k x2 (2 : Int32) v49) fun σ50 r51 => blet (x2 + (1 : Int32)) fun v52 => B_X11_passes_131 n σ50 k x1 v52))
def B_X11_passes_128 (σ : St) (k : Nat) (t0 : Int32) : Option (St × Int32) := B_X11_passes_131 FU σ k t0 (0 : Int32)
def B_X11_passes_2  : Nat → St → Nat → Int32 → Option (St × Int32)
  | 0, _, _, _ => none
  | n + 1, σ, k, x1 => bald σ (k + 1) (4 : Int32) fun q1 => if q1 ≤ x1 then (bald σ (k + 1) (1 : Int32) fun q2 => if q2 < (8 : Int32) then (B_X11_passes_128 σ k (0 : Int32)) else (B_X11_passes_128 σ k (1 : Int32))) else (bcall (M_X11_works σ k x1) fun σ56 r57 => if r57 = 0 then (blet (x1 + (1 : Int32)) fun v77 => B_X11_passes_2 n σ56 k v77) else (bcall (M_X11_where σ56 k x1) fun σ58 r59 => bcall (M_X11_of σ58 k r59 (3 : Int32)) fun σ60 r61 => bald σ60 (k + 1) ((90 : Int32) + ((3 : Int32) * x1)) fun q62 => blet (imin r61 q62) fun v63 => bcall (M_X11_of σ60 k r59 (3 : Int32)) fun σ64 r65 => bcall (M_X11_sets σ64 k r59 (3 : Int32) (r65 - v63)) fun σ66 r67 => bcall (M_X11_of σ66 k r59 (4 : Int32)) fun σ68 r69 => bcall (M_X11_sets σ68 k r59 (4 : Int32) (r69 - (1 : Int32))) fun σ70 r71 => bald σ70 (k + 1) (((90 : Int32) + ((3 : Int32) * x1)) + (2 : Int32)) fun q72 => bast σ70 (k + 1) (((90 : Int32) + ((3 : Int32) * x1)) + (2 : Int32)) (q72 + v63) fun σ73 => bald σ73 (k + 1) (9 : Int32) fun q74 => bast σ73 (k + 1) (9 : Int32) (q74 + v63) fun σ75 => blet (x1 + (1 : Int32)) fun v76 => B_X11_passes_2 n σ75 k v76))
def M_X11_passes (σ : St) (k : Nat)  : Option (St × Int32) := B_X11_passes_2 FU σ k (0 : Int32)
set_option maxRecDepth 20000 in
set_option maxHeartbeats 4000000 in
theorem w_X11_passes_364 {p : Program} {l : Launch} {e : Env} {s : State} {m : MethodId} {below : List Frame} {meth : Method} {c : Code} {args : Array Value} {E : Ev} {k : Nat} (X : Bx E p m meth c cX11_passes 5 (some .int) s args RX11) (hL : lay 11 k) : ∀ (n : Nat) (σ : St) (x3 x4 : Int32) (H : Heap) (locs : List Loc) (ls : Array Slot) (z : St × Int32), GS E σ s.heap H locs → lv_has ls 5 [(0, .ref (E.1 k)), (3, .int x3), (4, .int x4)] → B_X11_passes_364 n σ k x3 x4 = some z → W p l e (rmd 4) s m args below meth c H locs 0 0 (QI E z below args s) (F0 m 364 ls []) := by
  have hx := X.1.1.1
  have hb := X.1.1.2.1
  intro n
  induction n with
  | zero => intro σ x3 x4 H locs ls z  hG hl hM; cases hM
  | succ n ih =>
    intro σ x3 x4 H locs ls z  hG hl hM
    unfold B_X11_passes_364 at hM
    refine lv_iload hx hb dX11_passes_364 (lv_at hl 2 rfl) ?_
    refine lv_aload_n hx hb dX11_passes_366 rfl (lv_at hl 0 rfl) ?_
    refine gt_11_0 X.1 hG hL mw1119 dX11_passes_367 ?_
    refine lv_iconst (v := (3 : Int32)) hx hb dX11_passes_370 (by decide) ?_
    refine g_ald X.1 hG (lf_11_0 hL) dX11_passes_371 hM (fun q9 hM => ?_)
    refine lv_icmp_ge (tgt := 402) hx hb dX11_passes_372 (by decide) (fun c16 => ?_) (fun c16 => ?_)
    · have hM := b_if hM c16
      refine lv_iload_n hx hb dX11_passes_402 rfl (lv_at hl 1 rfl) ?_
      exact e_iret X hG dX11_passes_403 hM
    · have hM := b_else hM c16
      refine lv_aload_n hx hb dX11_passes_375 rfl (lv_at hl 0 rfl) ?_
      refine lv_iload hx hb dX11_passes_376 (lv_at hl 2 rfl) ?_
      refine lv_iconst (v := (1 : Int32)) hx hb dX11_passes_378 (by decide) ?_
      refine lv_bipush (v := (60 : Int32)) hx hb dX11_passes_379 (by decide) ?_
      refine lv_aload_n hx hb dX11_passes_381 rfl (lv_at hl 0 rfl) ?_
      refine lv_iload hx hb dX11_passes_382 (lv_at hl 2 rfl) ?_
      refine lv_iconst (v := (1 : Int32)) hx hb dX11_passes_384 (by decide) ?_
      refine g_callV_i (nA := 2) (o := M_X11_of σ k x4 (1 : Int32)) (As := [.int x4, .int (1 : Int32)]) X.1 hG hL rfl rfl (fun _ _ h => C_X11_of l E h hL) mw1242 mw1244 mw22 mw62 (gw_ok mw1245 rfl) (by decide +kernel) rfl ⟨Nat.le_of_ble_eq_true rfl, Nat.le_of_ble_eq_true rfl⟩ hl.1 rfl (Nat.le_of_ble_eq_true rfl) ⟨Nat.le_refl _, Nat.le_refl _⟩ dX11_passes_385 hM (fun σ10 r11 H locs hG hM => ?_)
      refine lv_iconst (v := (1 : Int32)) hx hb dX11_passes_388 (by decide) ?_
      refine lv_iadd hx hb dX11_passes_389 ?_
      refine g_min X.1 hl.1 mw1205 (Nat.le_of_ble_eq_true rfl) (Nat.le_of_ble_eq_true rfl) (Nat.le_of_ble_eq_true rfl) (Nat.le_of_ble_eq_true rfl) dX11_passes_390 hM (fun v12 hM => ?_)
      refine g_callV_v (nA := 3) (o := M_X11_sets σ10 k x4 (1 : Int32) v12) (As := [.int x4, .int (1 : Int32), .int v12]) X.1 hG hL rfl rfl (fun _ _ h => C_X11_sets l E h hL) mw1218 mw1220 mw17 mw62 (gw_ok mw1221 rfl) (by decide +kernel) rfl ⟨Nat.le_of_ble_eq_true rfl, Nat.le_of_ble_eq_true rfl⟩ hl.1 rfl (Nat.le_of_ble_eq_true rfl) ⟨Nat.le_refl _, Nat.le_refl _⟩ dX11_passes_393 hM (fun σ13 r14 H locs hG hM => ?_)
      obtain ⟨v15, ev15, hM⟩ := g_nm hM
      refine lv_iinc (v := v15) (lv' := [(4, .int v15), (0, .ref (E.1 k)), (3, .int x3)]) hx hb dX11_passes_396 hl (k := 2) rfl (by rw [ev15]; rfl) (by decide) rfl (fun ls hl => ?_)
      refine lv_goto (tgt := 364) hx hb dX11_passes_399 (by decide) ?_
      exact ih σ13 x3 v15 _ _ _ z hG (lv_sub hl [1, 2, 0] rfl) hM
set_option maxRecDepth 20000 in
set_option maxHeartbeats 4000000 in
theorem w_X11_passes_309 {p : Program} {l : Launch} {e : Env} {s : State} {m : MethodId} {below : List Frame} {meth : Method} {c : Code} {args : Array Value} {E : Ev} {k : Nat} (X : Bx E p m meth c cX11_passes 5 (some .int) s args RX11) (hL : lay 11 k) : ∀ (n : Nat) (σ : St) (x3 x4 : Int32) (H : Heap) (locs : List Loc) (ls : Array Slot) (z : St × Int32), GS E σ s.heap H locs → lv_has ls 5 [(0, .ref (E.1 k)), (3, .int x3), (4, .int x4)] → B_X11_passes_309 n σ k x3 x4 = some z → W p l e (rmd 4) s m args below meth c H locs 0 0 (QI E z below args s) (F0 m 309 ls []) := by
  have hx := X.1.1.1
  have hb := X.1.1.2.1
  intro n
  induction n with
  | zero => intro σ x3 x4 H locs ls z  hG hl hM; cases hM
  | succ n ih =>
    intro σ x3 x4 H locs ls z  hG hl hM
    unfold B_X11_passes_309 at hM
    refine lv_iload hx hb dX11_passes_309 (lv_at hl 2 rfl) ?_
    refine lv_aload_n hx hb dX11_passes_311 rfl (lv_at hl 0 rfl) ?_
    refine gt_11_0 X.1 hG hL mw1119 dX11_passes_312 ?_
    refine lv_iconst (v := (2 : Int32)) hx hb dX11_passes_315 (by decide) ?_
    refine g_ald X.1 hG (lf_11_0 hL) dX11_passes_316 hM (fun q8 hM => ?_)
    refine lv_icmp_ge (tgt := 361) hx hb dX11_passes_317 (by decide) (fun c21 => ?_) (fun c21 => ?_)
    · have hM := b_if hM c21
      refine lv_iconst (v := (0 : Int32)) hx hb dX11_passes_361 (by decide) ?_
      refine lv_istore (lv' := [(4, .int (0 : Int32)), (0, .ref (E.1 k)), (3, .int x3)]) hx hb dX11_passes_362 hl (by decide) rfl (fun ls hl => ?_)
      exact w_X11_passes_364 X hL FU σ x3 (0 : Int32) _ _ _ z hG (lv_sub hl [1, 2, 0] rfl) hM
    · have hM := b_else hM c21
      refine lv_aload_n hx hb dX11_passes_320 rfl (lv_at hl 0 rfl) ?_
      refine gt_11_0 X.1 hG hL mw1119 dX11_passes_321 ?_
      refine lv_bipush (v := (14 : Int32)) hx hb dX11_passes_324 (by decide) ?_
      refine lv_iconst (v := (2 : Int32)) hx hb dX11_passes_326 (by decide) ?_
      refine lv_iload hx hb dX11_passes_327 (lv_at hl 2 rfl) ?_
      refine lv_imul hx hb dX11_passes_329 ?_
      refine lv_iadd hx hb dX11_passes_330 ?_
      refine lv_iconst (v := (1 : Int32)) hx hb dX11_passes_331 (by decide) ?_
      refine lv_iadd hx hb dX11_passes_332 ?_
      refine lv_bipush (v := (60 : Int32)) hx hb dX11_passes_333 (by decide) ?_
      refine lv_aload_n hx hb dX11_passes_335 rfl (lv_at hl 0 rfl) ?_
      refine gt_11_0 X.1 hG hL mw1119 dX11_passes_336 ?_
      refine lv_bipush (v := (14 : Int32)) hx hb dX11_passes_339 (by decide) ?_
      refine lv_iconst (v := (2 : Int32)) hx hb dX11_passes_341 (by decide) ?_
      refine lv_iload hx hb dX11_passes_342 (lv_at hl 2 rfl) ?_
      refine lv_imul hx hb dX11_passes_344 ?_
      refine lv_iadd hx hb dX11_passes_345 ?_
      refine lv_iconst (v := (1 : Int32)) hx hb dX11_passes_346 (by decide) ?_
      refine lv_iadd hx hb dX11_passes_347 ?_
      refine g_ald X.1 hG (lf_11_0 hL) dX11_passes_348 hM (fun q17 hM => ?_)
      refine lv_iconst (v := (1 : Int32)) hx hb dX11_passes_349 (by decide) ?_
      refine lv_iadd hx hb dX11_passes_350 ?_
      refine g_min X.1 hl.1 mw1205 (Nat.le_of_ble_eq_true rfl) (Nat.le_of_ble_eq_true rfl) (Nat.le_of_ble_eq_true rfl) (Nat.le_of_ble_eq_true rfl) dX11_passes_351 hM (fun v18 hM => ?_)
      refine g_ast X.1 hG (lf_11_0 hL) dX11_passes_354 hM (fun σ19 H locs hG hM => ?_)
      obtain ⟨v20, ev20, hM⟩ := g_nm hM
      refine lv_iinc (v := v20) (lv' := [(4, .int v20), (0, .ref (E.1 k)), (3, .int x3)]) hx hb dX11_passes_355 hl (k := 2) rfl (by rw [ev20]; rfl) (by decide) rfl (fun ls hl => ?_)
      refine lv_goto (tgt := 309) hx hb dX11_passes_358 (by decide) ?_
      exact ih σ19 x3 v20 _ _ _ z hG (lv_sub hl [1, 2, 0] rfl) hM
set_option maxRecDepth 20000 in
set_option maxHeartbeats 4000000 in
theorem w_X11_passes_275 {p : Program} {l : Launch} {e : Env} {s : State} {m : MethodId} {below : List Frame} {meth : Method} {c : Code} {args : Array Value} {E : Ev} {k : Nat} (X : Bx E p m meth c cX11_passes 5 (some .int) s args RX11) (hL : lay 11 k) : ∀ (σ : St) (x3 : Int32) (H : Heap) (locs : List Loc) (ls : Array Slot) (z : St × Int32), GS E σ s.heap H locs → lv_has ls 5 [(0, .ref (E.1 k)), (3, .int x3)] → B_X11_passes_275 σ k x3 = some z → W p l e (rmd 4) s m args below meth c H locs 0 0 (QI E z below args s) (F0 m 275 ls []) := by
  have hx := X.1.1.1
  have hb := X.1.1.2.1
  intro σ x3 H locs ls z  hG hl hM
  unfold B_X11_passes_275 at hM
  refine lv_aload_n hx hb dX11_passes_275 rfl (lv_at hl 0 rfl) ?_
  refine gt_11_0 X.1 hG hL mw1119 dX11_passes_276 ?_
  refine lv_iconst (v := (0 : Int32)) hx hb dX11_passes_279 (by decide) ?_
  refine lv_dup2_11 hx hb dX11_passes_280 rfl rfl ?_
  refine g_ald X.1 hG (lf_11_0 hL) dX11_passes_281 hM (fun q4 hM => ?_)
  refine lv_iconst (v := (1 : Int32)) hx hb dX11_passes_282 (by decide) ?_
  refine lv_iadd hx hb dX11_passes_283 ?_
  refine g_ast X.1 hG (lf_11_0 hL) dX11_passes_284 hM (fun σ5 H locs hG hM => ?_)
  refine lv_aload_n hx hb dX11_passes_285 rfl (lv_at hl 0 rfl) ?_
  refine gt_11_0 X.1 hG hL mw1119 dX11_passes_286 ?_
  refine lv_bipush (v := (7 : Int32)) hx hb dX11_passes_289 (by decide) ?_
  refine lv_bipush (v := (20 : Int32)) hx hb dX11_passes_291 (by decide) ?_
  refine g_ast X.1 hG (lf_11_0 hL) dX11_passes_293 hM (fun σ6 H locs hG hM => ?_)
  refine lv_aload_n hx hb dX11_passes_294 rfl (lv_at hl 0 rfl) ?_
  refine gt_11_0 X.1 hG hL mw1119 dX11_passes_295 ?_
  refine lv_iconst (v := (0 : Int32)) hx hb dX11_passes_298 (by decide) ?_
  refine g_ald X.1 hG (lf_11_0 hL) dX11_passes_299 hM (fun q7 hM => ?_)
  refine lv_bipush (v := (7 : Int32)) hx hb dX11_passes_300 (by decide) ?_
  refine lv_irem hx hb dX11_passes_302 (by decide) ?_
  refine lv_if_ne (tgt := 402) hx hb dX11_passes_303 (by decide) (fun c22 => ?_) (fun c22 => ?_)
  · have hM := b_else hM c22
    refine lv_iload_n hx hb dX11_passes_402 rfl (lv_at hl 1 rfl) ?_
    exact e_iret X hG dX11_passes_403 hM
  · have hM := b_if hM c22
    refine lv_iconst (v := (0 : Int32)) hx hb dX11_passes_306 (by decide) ?_
    refine lv_istore (lv' := [(4, .int (0 : Int32)), (0, .ref (E.1 k)), (3, .int x3)]) hx hb dX11_passes_307 hl (by decide) rfl (fun ls hl => ?_)
    exact w_X11_passes_309 X hL FU σ6 x3 (0 : Int32) _ _ _ z hG (lv_sub hl [1, 2, 0] rfl) hM
set_option maxRecDepth 20000 in
set_option maxHeartbeats 4000000 in
theorem w_X11_passes_203 {p : Program} {l : Launch} {e : Env} {s : State} {m : MethodId} {below : List Frame} {meth : Method} {c : Code} {args : Array Value} {E : Ev} {k : Nat} (X : Bx E p m meth c cX11_passes 5 (some .int) s args RX11) (hL : lay 11 k) : ∀ (n : Nat) (σ : St) (x2 x3 x4 : Int32) (H : Heap) (locs : List Loc) (ls : Array Slot) (z : St × Int32), GS E σ s.heap H locs → lv_has ls 5 [(0, .ref (E.1 k)), (2, .int x2), (3, .int x3), (4, .int x4)] → B_X11_passes_203 n σ k x2 x3 x4 = some z → W p l e (rmd 4) s m args below meth c H locs 0 0 (QI E z below args s) (F0 m 203 ls []) := by
  have hx := X.1.1.1
  have hb := X.1.1.2.1
  intro n
  induction n with
  | zero => intro σ x2 x3 x4 H locs ls z  hG hl hM; cases hM
  | succ n ih =>
    intro σ x2 x3 x4 H locs ls z  hG hl hM
    unfold B_X11_passes_203 at hM
    refine lv_iload hx hb dX11_passes_203 (lv_at hl 3 rfl) ?_
    refine lv_aload_n hx hb dX11_passes_205 rfl (lv_at hl 0 rfl) ?_
    refine gt_11_0 X.1 hG hL mw1119 dX11_passes_206 ?_
    refine lv_iconst (v := (3 : Int32)) hx hb dX11_passes_209 (by decide) ?_
    refine g_ald X.1 hG (lf_11_0 hL) dX11_passes_210 hM (fun q23 hM => ?_)
    refine lv_icmp_ge (tgt := 257) hx hb dX11_passes_211 (by decide) (fun c37 => ?_) (fun c37 => ?_)
    · have hM := b_if hM c37
      refine lv_aload_n hx hb dX11_passes_257 rfl (lv_at hl 0 rfl) ?_
      refine gt_11_0 X.1 hG hL mw1119 dX11_passes_258 ?_
      refine lv_iconst (v := (3 : Int32)) hx hb dX11_passes_261 (by decide) ?_
      refine lv_iload_n hx hb dX11_passes_262 rfl (lv_at hl 1 rfl) ?_
      refine g_ast X.1 hG (lf_11_0 hL) dX11_passes_263 hM (fun σ24 H locs hG hM => ?_)
      refine lv_aload_n hx hb dX11_passes_264 rfl (lv_at hl 0 rfl) ?_
      refine gt_11_0 X.1 hG hL mw1119 dX11_passes_265 ?_
      refine lv_bipush (v := (10 : Int32)) hx hb dX11_passes_268 (by decide) ?_
      refine lv_dup2_11 hx hb dX11_passes_270 rfl rfl ?_
      refine g_ald X.1 hG (lf_11_0 hL) dX11_passes_271 hM (fun q25 hM => ?_)
      refine lv_iload_n hx hb dX11_passes_272 rfl (lv_at hl 2 rfl) ?_
      refine lv_iadd hx hb dX11_passes_273 ?_
      refine g_ast X.1 hG (lf_11_0 hL) dX11_passes_274 hM (fun σ26 H locs hG hM => ?_)
      exact w_X11_passes_275 X hL σ26 x3 _ _ _ z hG (lv_sub hl [0, 2] rfl) hM
    · have hM := b_else hM c37
      refine lv_aload_n hx hb dX11_passes_214 rfl (lv_at hl 0 rfl) ?_
      refine gt_11_0 X.1 hG hL mw1119 dX11_passes_215 ?_
      refine lv_bipush (v := (11 : Int32)) hx hb dX11_passes_218 (by decide) ?_
      refine lv_dup2_11 hx hb dX11_passes_220 rfl rfl ?_
      refine g_ald X.1 hG (lf_11_0 hL) dX11_passes_221 hM (fun q27 hM => ?_)
      refine lv_aload_n hx hb dX11_passes_222 rfl (lv_at hl 0 rfl) ?_
      refine lv_iload hx hb dX11_passes_223 (lv_at hl 3 rfl) ?_
      refine lv_iconst (v := (0 : Int32)) hx hb dX11_passes_225 (by decide) ?_
      refine g_callV_i (nA := 2) (o := M_X11_of σ k x4 (0 : Int32)) (As := [.int x4, .int (0 : Int32)]) X.1 hG hL rfl rfl (fun _ _ h => C_X11_of l E h hL) mw1242 mw1244 mw22 mw62 (gw_ok mw1245 rfl) (by decide +kernel) rfl ⟨Nat.le_of_ble_eq_true rfl, Nat.le_of_ble_eq_true rfl⟩ hl.1 rfl (Nat.le_of_ble_eq_true rfl) ⟨Nat.le_refl _, Nat.le_refl _⟩ dX11_passes_226 hM (fun σ28 r29 H locs hG hM => ?_)
      refine lv_iadd hx hb dX11_passes_229 ?_
      refine g_ast X.1 hG (lf_11_0 hL) dX11_passes_230 hM (fun σ30 H locs hG hM => ?_)
      refine lv_aload_n hx hb dX11_passes_231 rfl (lv_at hl 0 rfl) ?_
      refine gt_11_0 X.1 hG hL mw1119 dX11_passes_232 ?_
      refine lv_bipush (v := (13 : Int32)) hx hb dX11_passes_235 (by decide) ?_
      refine lv_dup2_11 hx hb dX11_passes_237 rfl rfl ?_
      refine g_ald X.1 hG (lf_11_0 hL) dX11_passes_238 hM (fun q31 hM => ?_)
      refine lv_aload_n hx hb dX11_passes_239 rfl (lv_at hl 0 rfl) ?_
      refine lv_iload hx hb dX11_passes_240 (lv_at hl 3 rfl) ?_
      refine lv_iconst (v := (3 : Int32)) hx hb dX11_passes_242 (by decide) ?_
      refine g_callV_i (nA := 2) (o := M_X11_of σ30 k x4 (3 : Int32)) (As := [.int x4, .int (3 : Int32)]) X.1 hG hL rfl rfl (fun _ _ h => C_X11_of l E h hL) mw1242 mw1244 mw22 mw62 (gw_ok mw1245 rfl) (by decide +kernel) rfl ⟨Nat.le_of_ble_eq_true rfl, Nat.le_of_ble_eq_true rfl⟩ hl.1 rfl (Nat.le_of_ble_eq_true rfl) ⟨Nat.le_refl _, Nat.le_refl _⟩ dX11_passes_243 hM (fun σ32 r33 H locs hG hM => ?_)
      refine lv_iadd hx hb dX11_passes_246 ?_
      refine g_ast X.1 hG (lf_11_0 hL) dX11_passes_247 hM (fun σ34 H locs hG hM => ?_)
      obtain ⟨v35, ev35, hM⟩ := g_nm hM
      refine lv_iinc (v := v35) (lv' := [(3, .int v35), (0, .ref (E.1 k)), (2, .int x2), (4, .int x4)]) hx hb dX11_passes_248 hl (k := 2) rfl (by rw [ev35]; rfl) (by decide) rfl (fun ls hl => ?_)
      obtain ⟨v36, ev36, hM⟩ := g_nm hM
      refine lv_iinc (v := v36) (lv' := [(4, .int v36), (3, .int v35), (0, .ref (E.1 k)), (2, .int x2)]) hx hb dX11_passes_251 hl (k := 3) rfl (by rw [ev36]; rfl) (by decide) rfl (fun ls hl => ?_)
      refine lv_goto (tgt := 203) hx hb dX11_passes_254 (by decide) ?_
      exact ih σ34 x2 v35 v36 _ _ _ z hG (lv_sub hl [2, 3, 1, 0] rfl) hM
set_option maxRecDepth 20000 in
set_option maxHeartbeats 4000000 in
theorem w_X11_passes_193 {p : Program} {l : Launch} {e : Env} {s : State} {m : MethodId} {below : List Frame} {meth : Method} {c : Code} {args : Array Value} {E : Ev} {k : Nat} (X : Bx E p m meth c cX11_passes 5 (some .int) s args RX11) (hL : lay 11 k) : ∀ (σ : St) (t0 : Int32) (H : Heap) (locs : List Loc) (ls : Array Slot) (z : St × Int32), GS E σ s.heap H locs → lv_has ls 5 [(0, .ref (E.1 k))] → B_X11_passes_193 σ k t0 = some z → W p l e (rmd 4) s m args below meth c H locs 0 0 (QI E z below args s) (F0 m 193 ls [.int t0]) := by
  have hx := X.1.1.1
  have hb := X.1.1.2.1
  intro σ t0 H locs ls z  hG hl hM
  unfold B_X11_passes_193 at hM
  refine lv_istore_n (lv' := [(2, .int t0), (0, .ref (E.1 k))]) hx hb dX11_passes_193 rfl hl (by decide) rfl (fun ls hl => ?_)
  refine lv_iconst (v := (0 : Int32)) hx hb dX11_passes_194 (by decide) ?_
  refine lv_istore_n (lv' := [(3, .int (0 : Int32)), (2, .int t0), (0, .ref (E.1 k))]) hx hb dX11_passes_195 rfl hl (by decide) rfl (fun ls hl => ?_)
  refine lv_iload_n hx hb dX11_passes_196 rfl (lv_at hl 1 rfl) ?_
  refine lv_if_lt (tgt := 275) hx hb dX11_passes_197 (by decide) (fun c38 => ?_) (fun c38 => ?_)
  · have hM := b_if hM c38
    exact w_X11_passes_275 X hL σ (0 : Int32) _ _ _ z hG (lv_sub hl [2, 0] rfl) hM
  · have hM := b_else hM c38
    refine lv_iload_n hx hb dX11_passes_200 rfl (lv_at hl 1 rfl) ?_
    refine lv_istore (lv' := [(4, .int t0), (3, .int (0 : Int32)), (2, .int t0), (0, .ref (E.1 k))]) hx hb dX11_passes_201 hl (by decide) rfl (fun ls hl => ?_)
    exact w_X11_passes_203 X hL FU σ t0 (0 : Int32) t0 _ _ _ z hG (lv_sub hl [3, 2, 1, 0] rfl) hM
set_option maxRecDepth 20000 in
set_option maxHeartbeats 4000000 in
theorem w_X11_passes_131 {p : Program} {l : Launch} {e : Env} {s : State} {m : MethodId} {below : List Frame} {meth : Method} {c : Code} {args : Array Value} {E : Ev} {k : Nat} (X : Bx E p m meth c cX11_passes 5 (some .int) s args RX11) (hL : lay 11 k) : ∀ (n : Nat) (σ : St) (x1 x2 : Int32) (H : Heap) (locs : List Loc) (ls : Array Slot) (z : St × Int32), GS E σ s.heap H locs → lv_has ls 5 [(0, .ref (E.1 k)), (1, .int x1), (2, .int x2)] → B_X11_passes_131 n σ k x1 x2 = some z → W p l e (rmd 4) s m args below meth c H locs 0 0 (QI E z below args s) (F0 m 131 ls []) := by
  have hx := X.1.1.1
  have hb := X.1.1.2.1
  intro n
  induction n with
  | zero => intro σ x1 x2 H locs ls z  hG hl hM; cases hM
  | succ n ih =>
    intro σ x1 x2 H locs ls z  hG hl hM
    unfold B_X11_passes_131 at hM
    refine lv_iload_n hx hb dX11_passes_131 rfl (lv_at hl 2 rfl) ?_
    refine lv_aload_n hx hb dX11_passes_132 rfl (lv_at hl 0 rfl) ?_
    refine gt_11_0 X.1 hG hL mw1119 dX11_passes_133 ?_
    refine lv_iconst (v := (3 : Int32)) hx hb dX11_passes_136 (by decide) ?_
    refine g_ald X.1 hG (lf_11_0 hL) dX11_passes_137 hM (fun q3 hM => ?_)
    refine lv_icmp_ge (tgt := 174) hx hb dX11_passes_138 (by decide) (fun c54 => ?_) (fun c54 => ?_)
    · have hM := b_if hM c54
      refine lv_iload_n hx hb dX11_passes_174 rfl (lv_at hl 1 rfl) ?_
      refine lv_if_eq (tgt := 191) hx hb dX11_passes_175 (by decide) (fun c42 => ?_) (fun c42 => ?_)
      · have hM := b_if hM c42
        refine lv_bipush (v := (-4 : Int32)) hx hb dX11_passes_191 (by decide) ?_
        exact w_X11_passes_193 X hL σ (-4 : Int32) _ _ _ z hG (lv_sub hl [0] rfl) hM
      · have hM := b_else hM c42
        refine lv_aload_n hx hb dX11_passes_178 rfl (lv_at hl 0 rfl) ?_
        refine lv_aload_n hx hb dX11_passes_179 rfl (lv_at hl 0 rfl) ?_
        refine gt_11_0 X.1 hG hL mw1119 dX11_passes_180 ?_
        refine lv_iconst (v := (1 : Int32)) hx hb dX11_passes_183 (by decide) ?_
        refine g_ald X.1 hG (lf_11_0 hL) dX11_passes_184 hM (fun q39 hM => ?_)
        refine g_callV_i (nA := 1) (o := M_X11_fallsBy σ k q39) (As := [.int q39]) X.1 hG hL rfl rfl (fun _ _ h => C_X11_fallsBy l E h hL) mw1335 mw1337 mw37 mw62 (gw_ok mw1338 rfl) (by decide +kernel) rfl ⟨Nat.le_of_ble_eq_true rfl, Nat.le_of_ble_eq_true rfl⟩ hl.1 rfl (Nat.le_of_ble_eq_true rfl) ⟨Nat.le_refl _, Nat.le_refl _⟩ dX11_passes_185 hM (fun σ40 r41 H locs hG hM => ?_)
        refine lv_goto (tgt := 193) hx hb dX11_passes_188 (by decide) ?_
        exact w_X11_passes_193 X hL σ40 r41 _ _ _ z hG (lv_sub hl [0] rfl) hM
    · have hM := b_else hM c54
      refine lv_aload_n hx hb dX11_passes_141 rfl (lv_at hl 0 rfl) ?_
      refine lv_iload_n hx hb dX11_passes_142 rfl (lv_at hl 2 rfl) ?_
      refine lv_iconst (v := (2 : Int32)) hx hb dX11_passes_143 (by decide) ?_
      refine lv_bipush (v := (99 : Int32)) hx hb dX11_passes_144 (by decide) ?_
      refine lv_aload_n hx hb dX11_passes_146 rfl (lv_at hl 0 rfl) ?_
      refine lv_iload_n hx hb dX11_passes_147 rfl (lv_at hl 2 rfl) ?_
      refine lv_iconst (v := (2 : Int32)) hx hb dX11_passes_148 (by decide) ?_
      refine g_callV_i (nA := 2) (o := M_X11_of σ k x2 (2 : Int32)) (As := [.int x2, .int (2 : Int32)]) X.1 hG hL rfl rfl (fun _ _ h => C_X11_of l E h hL) mw1242 mw1244 mw22 mw62 (gw_ok mw1245 rfl) (by decide +kernel) rfl ⟨Nat.le_of_ble_eq_true rfl, Nat.le_of_ble_eq_true rfl⟩ hl.1 rfl (Nat.le_of_ble_eq_true rfl) ⟨Nat.le_refl _, Nat.le_refl _⟩ dX11_passes_149 hM (fun σ43 r44 H locs hG hM => ?_)
      refine lv_iload_n hx hb dX11_passes_152 rfl (lv_at hl 1 rfl) ?_
      refine lv_if_eq (tgt := 160) hx hb dX11_passes_153 (by decide) (fun c53 => ?_) (fun c53 => ?_)
      · have hM := b_if hM c53
        refine lv_iconst (v := (1 : Int32)) hx hb dX11_passes_160 (by decide) ?_
        refine lv_iadd hx hb dX11_passes_161 ?_
        refine g_min X.1 hl.1 mw1205 (Nat.le_of_ble_eq_true rfl) (Nat.le_of_ble_eq_true rfl) (Nat.le_of_ble_eq_true rfl) (Nat.le_of_ble_eq_true rfl) dX11_passes_162 hM (fun v45 hM => ?_)
        refine g_callV_v (nA := 3) (o := M_X11_sets σ43 k x2 (2 : Int32) v45) (As := [.int x2, .int (2 : Int32), .int v45]) X.1 hG hL rfl rfl (fun _ _ h => C_X11_sets l E h hL) mw1218 mw1220 mw17 mw62 (gw_ok mw1221 rfl) (by decide +kernel) rfl ⟨Nat.le_of_ble_eq_true rfl, Nat.le_of_ble_eq_true rfl⟩ hl.1 rfl (Nat.le_of_ble_eq_true rfl) ⟨Nat.le_refl _, Nat.le_refl _⟩ dX11_passes_165 hM (fun σ46 r47 H locs hG hM => ?_)
        obtain ⟨v48, ev48, hM⟩ := g_nm hM
        refine lv_iinc (v := v48) (lv' := [(2, .int v48), (0, .ref (E.1 k)), (1, .int x1)]) hx hb dX11_passes_168 hl (k := 2) rfl (by rw [ev48]; rfl) (by decide) rfl (fun ls hl => ?_)
        refine lv_goto (tgt := 131) hx hb dX11_passes_171 (by decide) ?_
        exact ih σ46 x1 v48 _ _ _ z hG (lv_sub hl [1, 2, 0] rfl) hM
      · have hM := b_else hM c53
        refine lv_iconst (v := (4 : Int32)) hx hb dX11_passes_156 (by decide) ?_
        refine lv_goto (tgt := 161) hx hb dX11_passes_157 (by decide) ?_
        refine lv_iadd hx hb dX11_passes_161 ?_
        refine g_min X.1 hl.1 mw1205 (Nat.le_of_ble_eq_true rfl) (Nat.le_of_ble_eq_true rfl) (Nat.le_of_ble_eq_true rfl) (Nat.le_of_ble_eq_true rfl) dX11_passes_162 hM (fun v49 hM => ?_)
        refine g_callV_v (nA := 3) (o := M_X11_sets σ43 k x2 (2 : Int32) v49) (As := [.int x2, .int (2 : Int32), .int v49]) X.1 hG hL rfl rfl (fun _ _ h => C_X11_sets l E h hL) mw1218 mw1220 mw17 mw62 (gw_ok mw1221 rfl) (by decide +kernel) rfl ⟨Nat.le_of_ble_eq_true rfl, Nat.le_of_ble_eq_true rfl⟩ hl.1 rfl (Nat.le_of_ble_eq_true rfl) ⟨Nat.le_refl _, Nat.le_refl _⟩ dX11_passes_165 hM (fun σ50 r51 H locs hG hM => ?_)
        obtain ⟨v52, ev52, hM⟩ := g_nm hM
        refine lv_iinc (v := v52) (lv' := [(2, .int v52), (0, .ref (E.1 k)), (1, .int x1)]) hx hb dX11_passes_168 hl (k := 2) rfl (by rw [ev52]; rfl) (by decide) rfl (fun ls hl => ?_)
        refine lv_goto (tgt := 131) hx hb dX11_passes_171 (by decide) ?_
        exact ih σ50 x1 v52 _ _ _ z hG (lv_sub hl [1, 2, 0] rfl) hM
set_option maxRecDepth 20000 in
set_option maxHeartbeats 4000000 in
theorem w_X11_passes_128 {p : Program} {l : Launch} {e : Env} {s : State} {m : MethodId} {below : List Frame} {meth : Method} {c : Code} {args : Array Value} {E : Ev} {k : Nat} (X : Bx E p m meth c cX11_passes 5 (some .int) s args RX11) (hL : lay 11 k) : ∀ (σ : St) (t0 : Int32) (H : Heap) (locs : List Loc) (ls : Array Slot) (z : St × Int32), GS E σ s.heap H locs → lv_has ls 5 [(0, .ref (E.1 k))] → B_X11_passes_128 σ k t0 = some z → W p l e (rmd 4) s m args below meth c H locs 0 0 (QI E z below args s) (F0 m 128 ls [.int t0]) := by
  have hx := X.1.1.1
  have hb := X.1.1.2.1
  intro σ t0 H locs ls z  hG hl hM
  unfold B_X11_passes_128 at hM
  refine lv_istore_n (lv' := [(1, .int t0), (0, .ref (E.1 k))]) hx hb dX11_passes_128 rfl hl (by decide) rfl (fun ls hl => ?_)
  refine lv_iconst (v := (0 : Int32)) hx hb dX11_passes_129 (by decide) ?_
  refine lv_istore_n (lv' := [(2, .int (0 : Int32)), (1, .int t0), (0, .ref (E.1 k))]) hx hb dX11_passes_130 rfl hl (by decide) rfl (fun ls hl => ?_)
  exact w_X11_passes_131 X hL FU σ t0 (0 : Int32) _ _ _ z hG (lv_sub hl [2, 1, 0] rfl) hM
set_option maxRecDepth 20000 in
set_option maxHeartbeats 4000000 in
theorem w_X11_passes_2 {p : Program} {l : Launch} {e : Env} {s : State} {m : MethodId} {below : List Frame} {meth : Method} {c : Code} {args : Array Value} {E : Ev} {k : Nat} (X : Bx E p m meth c cX11_passes 5 (some .int) s args RX11) (hL : lay 11 k) : ∀ (n : Nat) (σ : St) (x1 : Int32) (H : Heap) (locs : List Loc) (ls : Array Slot) (z : St × Int32), GS E σ s.heap H locs → lv_has ls 5 [(0, .ref (E.1 k)), (1, .int x1)] → B_X11_passes_2 n σ k x1 = some z → W p l e (rmd 4) s m args below meth c H locs 0 0 (QI E z below args s) (F0 m 2 ls []) := by
  have hx := X.1.1.1
  have hb := X.1.1.2.1
  intro n
  induction n with
  | zero => intro σ x1 H locs ls z  hG hl hM; cases hM
  | succ n ih =>
    intro σ x1 H locs ls z  hG hl hM
    unfold B_X11_passes_2 at hM
    refine lv_iload_n hx hb dX11_passes_2 rfl (lv_at hl 1 rfl) ?_
    refine lv_aload_n hx hb dX11_passes_3 rfl (lv_at hl 0 rfl) ?_
    refine gt_11_0 X.1 hG hL mw1119 dX11_passes_4 ?_
    refine lv_iconst (v := (4 : Int32)) hx hb dX11_passes_7 (by decide) ?_
    refine g_ald X.1 hG (lf_11_0 hL) dX11_passes_8 hM (fun q1 hM => ?_)
    refine lv_icmp_ge (tgt := 112) hx hb dX11_passes_9 (by decide) (fun c79 => ?_) (fun c79 => ?_)
    · have hM := b_if hM c79
      refine lv_aload_n hx hb dX11_passes_112 rfl (lv_at hl 0 rfl) ?_
      refine gt_11_0 X.1 hG hL mw1119 dX11_passes_113 ?_
      refine lv_iconst (v := (1 : Int32)) hx hb dX11_passes_116 (by decide) ?_
      refine g_ald X.1 hG (lf_11_0 hL) dX11_passes_117 hM (fun q2 hM => ?_)
      refine lv_bipush (v := (8 : Int32)) hx hb dX11_passes_118 (by decide) ?_
      refine lv_icmp_lt (tgt := 127) hx hb dX11_passes_120 (by decide) (fun c55 => ?_) (fun c55 => ?_)
      · have hM := b_if hM c55
        refine lv_iconst (v := (0 : Int32)) hx hb dX11_passes_127 (by decide) ?_
        exact w_X11_passes_128 X hL σ (0 : Int32) _ _ _ z hG (lv_sub hl [0] rfl) hM
      · have hM := b_else hM c55
        refine lv_iconst (v := (1 : Int32)) hx hb dX11_passes_123 (by decide) ?_
        refine lv_goto (tgt := 128) hx hb dX11_passes_124 (by decide) ?_
        exact w_X11_passes_128 X hL σ (1 : Int32) _ _ _ z hG (lv_sub hl [0] rfl) hM
    · have hM := b_else hM c79
      refine lv_aload_n hx hb dX11_passes_12 rfl (lv_at hl 0 rfl) ?_
      refine lv_iload_n hx hb dX11_passes_13 rfl (lv_at hl 1 rfl) ?_
      refine g_callV_i (nA := 1) (o := M_X11_works σ k x1) (As := [.int x1]) X.1 hG hL rfl rfl (fun _ _ h => C_X11_works l E h hL) mw1331 mw1333 mw36 mw62 (gw_ok mw1334 rfl) (by decide +kernel) rfl ⟨Nat.le_of_ble_eq_true rfl, Nat.le_of_ble_eq_true rfl⟩ hl.1 rfl (Nat.le_of_ble_eq_true rfl) ⟨Nat.le_refl _, Nat.le_refl _⟩ dX11_passes_14 hM (fun σ56 r57 H locs hG hM => ?_)
      refine lv_if_ne (tgt := 23) hx hb dX11_passes_17 (by decide) (fun c78 => ?_) (fun c78 => ?_)
      · have hM := b_else hM c78
        refine lv_aload_n hx hb dX11_passes_23 rfl (lv_at hl 0 rfl) ?_
        refine lv_iload_n hx hb dX11_passes_24 rfl (lv_at hl 1 rfl) ?_
        refine g_callV_i (nA := 1) (o := M_X11_where σ56 k x1) (As := [.int x1]) X.1 hG hL rfl rfl (fun _ _ h => C_X11_where l E h hL) mw1262 mw1264 mw25 mw62 (gw_ok mw1265 rfl) (by decide +kernel) rfl ⟨Nat.le_of_ble_eq_true rfl, Nat.le_of_ble_eq_true rfl⟩ hl.1 rfl (Nat.le_of_ble_eq_true rfl) ⟨Nat.le_refl _, Nat.le_refl _⟩ dX11_passes_25 hM (fun σ58 r59 H locs hG hM => ?_)
        refine lv_istore_n (lv' := [(2, .int r59), (0, .ref (E.1 k)), (1, .int x1)]) hx hb dX11_passes_28 rfl hl (by decide) rfl (fun ls hl => ?_)
        refine lv_aload_n hx hb dX11_passes_29 rfl (lv_at hl 1 rfl) ?_
        refine lv_iload_n hx hb dX11_passes_30 rfl (lv_at hl 0 rfl) ?_
        refine lv_iconst (v := (3 : Int32)) hx hb dX11_passes_31 (by decide) ?_
        refine g_callV_i (nA := 2) (o := M_X11_of σ58 k r59 (3 : Int32)) (As := [.int r59, .int (3 : Int32)]) X.1 hG hL rfl rfl (fun _ _ h => C_X11_of l E h hL) mw1242 mw1244 mw22 mw62 (gw_ok mw1245 rfl) (by decide +kernel) rfl ⟨Nat.le_of_ble_eq_true rfl, Nat.le_of_ble_eq_true rfl⟩ hl.1 rfl (Nat.le_of_ble_eq_true rfl) ⟨Nat.le_refl _, Nat.le_refl _⟩ dX11_passes_32 hM (fun σ60 r61 H locs hG hM => ?_)
        refine lv_aload_n hx hb dX11_passes_35 rfl (lv_at hl 1 rfl) ?_
        refine gt_11_0 X.1 hG hL mw1119 dX11_passes_36 ?_
        refine lv_bipush (v := (90 : Int32)) hx hb dX11_passes_39 (by decide) ?_
        refine lv_iconst (v := (3 : Int32)) hx hb dX11_passes_41 (by decide) ?_
        refine lv_iload_n hx hb dX11_passes_42 rfl (lv_at hl 2 rfl) ?_
        refine lv_imul hx hb dX11_passes_43 ?_
        refine lv_iadd hx hb dX11_passes_44 ?_
        refine g_ald X.1 hG (lf_11_0 hL) dX11_passes_45 hM (fun q62 hM => ?_)
        refine g_min X.1 hl.1 mw1205 (Nat.le_of_ble_eq_true rfl) (Nat.le_of_ble_eq_true rfl) (Nat.le_of_ble_eq_true rfl) (Nat.le_of_ble_eq_true rfl) dX11_passes_46 hM (fun v63 hM => ?_)
        refine lv_istore_n (lv' := [(3, .int v63), (2, .int r59), (0, .ref (E.1 k)), (1, .int x1)]) hx hb dX11_passes_49 rfl hl (by decide) rfl (fun ls hl => ?_)
        refine lv_aload_n hx hb dX11_passes_50 rfl (lv_at hl 2 rfl) ?_
        refine lv_iload_n hx hb dX11_passes_51 rfl (lv_at hl 1 rfl) ?_
        refine lv_iconst (v := (3 : Int32)) hx hb dX11_passes_52 (by decide) ?_
        refine lv_aload_n hx hb dX11_passes_53 rfl (lv_at hl 2 rfl) ?_
        refine lv_iload_n hx hb dX11_passes_54 rfl (lv_at hl 1 rfl) ?_
        refine lv_iconst (v := (3 : Int32)) hx hb dX11_passes_55 (by decide) ?_
        refine g_callV_i (nA := 2) (o := M_X11_of σ60 k r59 (3 : Int32)) (As := [.int r59, .int (3 : Int32)]) X.1 hG hL rfl rfl (fun _ _ h => C_X11_of l E h hL) mw1242 mw1244 mw22 mw62 (gw_ok mw1245 rfl) (by decide +kernel) rfl ⟨Nat.le_of_ble_eq_true rfl, Nat.le_of_ble_eq_true rfl⟩ hl.1 rfl (Nat.le_of_ble_eq_true rfl) ⟨Nat.le_refl _, Nat.le_refl _⟩ dX11_passes_56 hM (fun σ64 r65 H locs hG hM => ?_)
        refine lv_iload_n hx hb dX11_passes_59 rfl (lv_at hl 0 rfl) ?_
        refine lv_isub hx hb dX11_passes_60 ?_
        refine g_callV_v (nA := 3) (o := M_X11_sets σ64 k r59 (3 : Int32) (r65 - v63)) (As := [.int r59, .int (3 : Int32), .int (r65 - v63)]) X.1 hG hL rfl rfl (fun _ _ h => C_X11_sets l E h hL) mw1218 mw1220 mw17 mw62 (gw_ok mw1221 rfl) (by decide +kernel) rfl ⟨Nat.le_of_ble_eq_true rfl, Nat.le_of_ble_eq_true rfl⟩ hl.1 rfl (Nat.le_of_ble_eq_true rfl) ⟨Nat.le_refl _, Nat.le_refl _⟩ dX11_passes_61 hM (fun σ66 r67 H locs hG hM => ?_)
        refine lv_aload_n hx hb dX11_passes_64 rfl (lv_at hl 2 rfl) ?_
        refine lv_iload_n hx hb dX11_passes_65 rfl (lv_at hl 1 rfl) ?_
        refine lv_iconst (v := (4 : Int32)) hx hb dX11_passes_66 (by decide) ?_
        refine lv_aload_n hx hb dX11_passes_67 rfl (lv_at hl 2 rfl) ?_
        refine lv_iload_n hx hb dX11_passes_68 rfl (lv_at hl 1 rfl) ?_
        refine lv_iconst (v := (4 : Int32)) hx hb dX11_passes_69 (by decide) ?_
        refine g_callV_i (nA := 2) (o := M_X11_of σ66 k r59 (4 : Int32)) (As := [.int r59, .int (4 : Int32)]) X.1 hG hL rfl rfl (fun _ _ h => C_X11_of l E h hL) mw1242 mw1244 mw22 mw62 (gw_ok mw1245 rfl) (by decide +kernel) rfl ⟨Nat.le_of_ble_eq_true rfl, Nat.le_of_ble_eq_true rfl⟩ hl.1 rfl (Nat.le_of_ble_eq_true rfl) ⟨Nat.le_refl _, Nat.le_refl _⟩ dX11_passes_70 hM (fun σ68 r69 H locs hG hM => ?_)
        refine lv_iconst (v := (1 : Int32)) hx hb dX11_passes_73 (by decide) ?_
        refine lv_isub hx hb dX11_passes_74 ?_
        refine g_callV_v (nA := 3) (o := M_X11_sets σ68 k r59 (4 : Int32) (r69 - (1 : Int32))) (As := [.int r59, .int (4 : Int32), .int (r69 - (1 : Int32))]) X.1 hG hL rfl rfl (fun _ _ h => C_X11_sets l E h hL) mw1218 mw1220 mw17 mw62 (gw_ok mw1221 rfl) (by decide +kernel) rfl ⟨Nat.le_of_ble_eq_true rfl, Nat.le_of_ble_eq_true rfl⟩ hl.1 rfl (Nat.le_of_ble_eq_true rfl) ⟨Nat.le_refl _, Nat.le_refl _⟩ dX11_passes_75 hM (fun σ70 r71 H locs hG hM => ?_)
        refine lv_aload_n hx hb dX11_passes_78 rfl (lv_at hl 2 rfl) ?_
        refine gt_11_0 X.1 hG hL mw1119 dX11_passes_79 ?_
        refine lv_bipush (v := (90 : Int32)) hx hb dX11_passes_82 (by decide) ?_
        refine lv_iconst (v := (3 : Int32)) hx hb dX11_passes_84 (by decide) ?_
        refine lv_iload_n hx hb dX11_passes_85 rfl (lv_at hl 3 rfl) ?_
        refine lv_imul hx hb dX11_passes_86 ?_
        refine lv_iadd hx hb dX11_passes_87 ?_
        refine lv_iconst (v := (2 : Int32)) hx hb dX11_passes_88 (by decide) ?_
        refine lv_iadd hx hb dX11_passes_89 ?_
        refine lv_dup2_11 hx hb dX11_passes_90 rfl rfl ?_
        refine g_ald X.1 hG (lf_11_0 hL) dX11_passes_91 hM (fun q72 hM => ?_)
        refine lv_iload_n hx hb dX11_passes_92 rfl (lv_at hl 0 rfl) ?_
        refine lv_iadd hx hb dX11_passes_93 ?_
        refine g_ast X.1 hG (lf_11_0 hL) dX11_passes_94 hM (fun σ73 H locs hG hM => ?_)
        refine lv_aload_n hx hb dX11_passes_95 rfl (lv_at hl 2 rfl) ?_
        refine gt_11_0 X.1 hG hL mw1119 dX11_passes_96 ?_
        refine lv_bipush (v := (9 : Int32)) hx hb dX11_passes_99 (by decide) ?_
        refine lv_dup2_11 hx hb dX11_passes_101 rfl rfl ?_
        refine g_ald X.1 hG (lf_11_0 hL) dX11_passes_102 hM (fun q74 hM => ?_)
        refine lv_iload_n hx hb dX11_passes_103 rfl (lv_at hl 0 rfl) ?_
        refine lv_iadd hx hb dX11_passes_104 ?_
        refine g_ast X.1 hG (lf_11_0 hL) dX11_passes_105 hM (fun σ75 H locs hG hM => ?_)
        obtain ⟨v76, ev76, hM⟩ := g_nm hM
        refine lv_iinc (v := v76) (lv' := [(1, .int v76), (3, .int v63), (2, .int r59), (0, .ref (E.1 k))]) hx hb dX11_passes_106 hl (k := 3) rfl (by rw [ev76]; rfl) (by decide) rfl (fun ls hl => ?_)
        refine lv_goto (tgt := 2) hx hb dX11_passes_109 (by decide) ?_
        exact ih σ75 v76 _ _ _ z hG (lv_sub hl [3, 0] rfl) hM
      · have hM := b_if hM c78
        refine lv_goto (tgt := 106) hx hb dX11_passes_20 (by decide) ?_
        obtain ⟨v77, ev77, hM⟩ := g_nm hM
        refine lv_iinc (v := v77) (lv' := [(1, .int v77), (0, .ref (E.1 k))]) hx hb dX11_passes_106 hl (k := 1) rfl (by rw [ev77]; rfl) (by decide) rfl (fun ls hl => ?_)
        refine lv_goto (tgt := 2) hx hb dX11_passes_109 (by decide) ?_
        exact ih σ56 v77 _ _ _ z hG (lv_sub hl [1, 0] rfl) hM
set_option maxRecDepth 20000 in
set_option maxHeartbeats 4000000 in
theorem C_X11_passes (l : Launch) (E : Ev) {σ σ' : St} {k : Nat} {r : Int32} (h : M_X11_passes σ k = some (σ', r)) (hL : lay 11 k) : Mi l E yX11_passes cX11_passes 5 (some .int) 4 [.ref (E.1 k)] σ σ' r := by
  refine Mi_of (C := RX11) rfl (by decide) (Nat.le_of_ble_eq_true rfl) (z := (σ', r)) (fun p e s m below meth c ls X hG hl => ?_)
  have hx := X.1.1.1
  have hb := X.1.1.2.1
  have hM := h
  unfold M_X11_passes at hM
  generalize (σ', r) = z at hM ⊢
  have hl : lv_has ls 5 [(0, .ref (E.1 k))] := hl
  refine lv_iconst (v := (0 : Int32)) hx hb dX11_passes_0 (by decide) ?_
  refine lv_istore_n (lv' := [(1, .int (0 : Int32)), (0, .ref (E.1 k))]) hx hb dX11_passes_1 rfl hl (by decide) rfl (fun ls hl => ?_)
  exact w_X11_passes_2 X hL FU σ (0 : Int32) _ _ _ z hG (lv_sub hl [1, 0] rfl) hM
def B_X11_days_17  : Nat → St → Nat → Int32 → Int32 → Int32 → Option (St × Int32)
  | 0, _, _, _, _, _ => none
  | n + 1, σ, k, x1, x2, x3 => if x1 ≤ x3 then (bcall (M_X11_does σ k x2) fun σ3 r4 => some (σ3, r4)) else (bcall (M_X11_passes σ k) fun σ5 r6 => blet (x2 + r6) fun v7 => blet (x3 + (1 : Int32)) fun v8 => B_X11_days_17 n σ5 k x1 v7 v8)
def M_X11_days (σ : St) (k : Nat) (p0 : Int32) : Option (St × Int32) := bcall (M_X11_in σ p0 (1 : Int32) (30 : Int32)) fun σ1 r2 => if r2 = 0 then some (σ1, (-2 : Int32)) else (B_X11_days_17 FU σ1 k p0 (0 : Int32) (0 : Int32))
set_option maxRecDepth 20000 in
set_option maxHeartbeats 4000000 in
theorem w_X11_days_17 {p : Program} {l : Launch} {e : Env} {s : State} {m : MethodId} {below : List Frame} {meth : Method} {c : Code} {args : Array Value} {E : Ev} {k : Nat} (X : Bx E p m meth c cX11_days 4 (some .int) s args RX11) (hL : lay 11 k) : ∀ (n : Nat) (σ : St) (x1 x2 x3 : Int32) (H : Heap) (locs : List Loc) (ls : Array Slot) (z : St × Int32), GS E σ s.heap H locs → lv_has ls 4 [(0, .ref (E.1 k)), (1, .int x1), (2, .int x2), (3, .int x3)] → B_X11_days_17 n σ k x1 x2 x3 = some z → W p l e (rmd 5) s m args below meth c H locs 0 0 (QI E z below args s) (F0 m 17 ls []) := by
  have hx := X.1.1.1
  have hb := X.1.1.2.1
  intro n
  induction n with
  | zero => intro σ x1 x2 x3 H locs ls z  hG hl hM; cases hM
  | succ n ih =>
    intro σ x1 x2 x3 H locs ls z  hG hl hM
    unfold B_X11_days_17 at hM
    refine lv_iload_n hx hb dX11_days_17 rfl (lv_at hl 3 rfl) ?_
    refine lv_iload_n hx hb dX11_days_18 rfl (lv_at hl 1 rfl) ?_
    refine lv_icmp_ge (tgt := 35) hx hb dX11_days_19 (by decide) (fun c9 => ?_) (fun c9 => ?_)
    · have hM := b_if hM c9
      refine lv_aload_n hx hb dX11_days_35 rfl (lv_at hl 0 rfl) ?_
      refine lv_iload_n hx hb dX11_days_36 rfl (lv_at hl 2 rfl) ?_
      refine g_callV_i (nA := 1) (o := M_X11_does σ k x2) (As := [.int x2]) X.1 hG hL rfl rfl (fun _ _ h => C_X11_does l E h hL) mw1222 mw1224 mw18 mw62 (gw_ok mw1225 rfl) (by decide +kernel) rfl ⟨Nat.le_of_ble_eq_true rfl, Nat.le_of_ble_eq_true rfl⟩ hl.1 rfl (Nat.le_of_ble_eq_true rfl) ⟨Nat.le_refl _, Nat.le_refl _⟩ dX11_days_37 hM (fun σ3 r4 H locs hG hM => ?_)
      exact e_iret X hG dX11_days_40 hM
    · have hM := b_else hM c9
      refine lv_iload_n hx hb dX11_days_22 rfl (lv_at hl 2 rfl) ?_
      refine lv_aload_n hx hb dX11_days_23 rfl (lv_at hl 0 rfl) ?_
      refine g_callV_i (nA := 0) (o := M_X11_passes σ k) (As := []) X.1 hG hL rfl rfl (fun _ _ h => C_X11_passes l E h hL) mw1327 mw1329 mw35 mw62 (gw_ok mw1330 rfl) (by decide +kernel) rfl ⟨Nat.le_of_ble_eq_true rfl, Nat.le_of_ble_eq_true rfl⟩ hl.1 rfl (Nat.le_of_ble_eq_true rfl) ⟨Nat.le_refl _, Nat.le_refl _⟩ dX11_days_24 hM (fun σ5 r6 H locs hG hM => ?_)
      refine lv_iadd hx hb dX11_days_27 ?_
      refine g_name hM (fun v7 hM => ?_)
      refine lv_istore_n (lv' := [(2, .int v7), (0, .ref (E.1 k)), (1, .int x1), (3, .int x3)]) hx hb dX11_days_28 rfl hl (by decide) rfl (fun ls hl => ?_)
      obtain ⟨v8, ev8, hM⟩ := g_nm hM
      refine lv_iinc (v := v8) (lv' := [(3, .int v8), (2, .int v7), (0, .ref (E.1 k)), (1, .int x1)]) hx hb dX11_days_29 hl (k := 3) rfl (by rw [ev8]; rfl) (by decide) rfl (fun ls hl => ?_)
      refine lv_goto (tgt := 17) hx hb dX11_days_32 (by decide) ?_
      exact ih σ5 x1 v7 v8 _ _ _ z hG (lv_sub hl [2, 3, 1, 0] rfl) hM
set_option maxRecDepth 20000 in
set_option maxHeartbeats 4000000 in
theorem C_X11_days (l : Launch) (E : Ev) {σ σ' : St} {k : Nat} {p0 : Int32} {r : Int32} (h : M_X11_days σ k p0 = some (σ', r)) (hL : lay 11 k) : Mi l E yX11_days cX11_days 4 (some .int) 5 [.ref (E.1 k), .int p0] σ σ' r := by
  refine Mi_of (C := RX11) rfl (by decide) (Nat.le_of_ble_eq_true rfl) (z := (σ', r)) (fun p e s m below meth c ls X hG hl => ?_)
  have hx := X.1.1.1
  have hb := X.1.1.2.1
  have hM := h
  unfold M_X11_days at hM
  generalize (σ', r) = z at hM ⊢
  have hl : lv_has ls 4 [(0, .ref (E.1 k)), (1, .int p0)] := hl
  refine lv_iload_n hx hb dX11_days_0 rfl (lv_at hl 1 rfl) ?_
  refine lv_iconst (v := (1 : Int32)) hx hb dX11_days_1 (by decide) ?_
  refine lv_bipush (v := (30 : Int32)) hx hb dX11_days_2 (by decide) ?_
  refine g_callS_i (nA := 3) (o := M_X11_in σ p0 (1 : Int32) (30 : Int32)) (As := [.int p0, .int (1 : Int32), .int (30 : Int32)]) X.1 hG (fun _ _ h => C_X11_in l E h ) mw1182 mw1183 mw62 (gw_ok mw1184 rfl) (by decide +kernel) rfl ⟨Nat.le_of_ble_eq_true rfl, Nat.le_of_ble_eq_true rfl⟩ hl.1 rfl (Nat.le_of_ble_eq_true rfl) ⟨Nat.le_refl _, Nat.le_refl _⟩ dX11_days_4 hM (fun σ1 r2 H locs hG hM => ?_)
  refine lv_if_ne (tgt := 13) hx hb dX11_days_7 (by decide) (fun c10 => ?_) (fun c10 => ?_)
  · have hM := b_else hM c10
    refine lv_iconst (v := (0 : Int32)) hx hb dX11_days_13 (by decide) ?_
    refine lv_istore_n (lv' := [(2, .int (0 : Int32)), (0, .ref (E.1 k)), (1, .int p0)]) hx hb dX11_days_14 rfl hl (by decide) rfl (fun ls hl => ?_)
    refine lv_iconst (v := (0 : Int32)) hx hb dX11_days_15 (by decide) ?_
    refine lv_istore_n (lv' := [(3, .int (0 : Int32)), (2, .int (0 : Int32)), (0, .ref (E.1 k)), (1, .int p0)]) hx hb dX11_days_16 rfl hl (by decide) rfl (fun ls hl => ?_)
    exact w_X11_days_17 X hL FU σ1 p0 (0 : Int32) (0 : Int32) _ _ _ z hG (lv_sub hl [2, 3, 1, 0] rfl) hM
  · have hM := b_if hM c10
    refine lv_bipush (v := (-2 : Int32)) hx hb dX11_days_10 (by decide) ?_
    exact e_iret X hG dX11_days_12 hM
def M_X11_day (σ : St) (k : Nat) (p0 : Int32) : Option (St × Int32) := bcall (M_X11_tries σ k) fun σ1 r2 => bcall (M_X11_days σ1 k p0) fun σ3 r4 => bcall (M_X11_ends σ3 k r4) fun σ5 r6 => some (σ5, r6)
set_option maxRecDepth 20000 in
set_option maxHeartbeats 4000000 in
theorem C_X11_day (l : Launch) (E : Ev) {σ σ' : St} {k : Nat} {p0 : Int32} {r : Int32} (h : M_X11_day σ k p0 = some (σ', r)) (hL : lay 11 k) : Mi l E yX11_day cX11_day 2 (some .int) 6 [.ref (E.1 k), .int p0] σ σ' r := by
  refine Mi_of (C := RX11) rfl (by decide) (Nat.le_of_ble_eq_true rfl) (z := (σ', r)) (fun p e s m below meth c ls X hG hl => ?_)
  have hx := X.1.1.1
  have hb := X.1.1.2.1
  have hM := h
  unfold M_X11_day at hM
  generalize (σ', r) = z at hM ⊢
  have hl : lv_has ls 2 [(0, .ref (E.1 k)), (1, .int p0)] := hl
  refine lv_aload_n hx hb dX11_day_0 rfl (lv_at hl 0 rfl) ?_
  refine g_callV_v (nA := 0) (o := M_X11_tries σ k) (As := []) X.1 hG hL rfl rfl (fun _ _ h => C_X11_tries l E h hL) mw1189 mw1191 mw12 mw62 (gw_ok mw1192 rfl) (by decide +kernel) rfl ⟨Nat.le_of_ble_eq_true rfl, Nat.le_of_ble_eq_true rfl⟩ hl.1 rfl (Nat.le_of_ble_eq_true rfl) ⟨Nat.le_refl _, Nat.le_refl _⟩ dX11_day_1 hM (fun σ1 r2 H locs hG hM => ?_)
  refine lv_aload_n hx hb dX11_day_4 rfl (lv_at hl 0 rfl) ?_
  refine lv_aload_n hx hb dX11_day_5 rfl (lv_at hl 0 rfl) ?_
  refine lv_iload_n hx hb dX11_day_6 rfl (lv_at hl 1 rfl) ?_
  refine g_callV_i (nA := 1) (o := M_X11_days σ1 k p0) (As := [.int p0]) X.1 hG hL rfl rfl (fun _ _ h => C_X11_days l E h hL) mw1323 mw1325 mw34 mw62 (gw_ok mw1326 rfl) (by decide +kernel) rfl ⟨Nat.le_of_ble_eq_true rfl, Nat.le_of_ble_eq_true rfl⟩ hl.1 rfl (Nat.le_of_ble_eq_true rfl) ⟨Nat.le_refl _, Nat.le_refl _⟩ dX11_day_7 hM (fun σ3 r4 H locs hG hM => ?_)
  refine g_callV_i (nA := 1) (o := M_X11_ends σ3 k r4) (As := [.int r4]) X.1 hG hL rfl rfl (fun _ _ h => C_X11_ends l E h hL) mw1226 mw1228 mw19 mw62 (gw_ok mw1229 rfl) (by decide +kernel) rfl ⟨Nat.le_of_ble_eq_true rfl, Nat.le_of_ble_eq_true rfl⟩ hl.1 rfl (Nat.le_of_ble_eq_true rfl) ⟨Nat.le_refl _, Nat.le_refl _⟩ dX11_day_10 hM (fun σ5 r6 H locs hG hM => ?_)
  exact e_iret X hG dX11_day_13 hM
