def B_LE_899 (KX : St → Option (St × Int32)) (σ : St) (a0 : Nat) (w : (Nat × (Nat → Int32)))  : Option (St × Int32) := bcall (M_X10_account σ a0 (1 : Int32)) fun σ128 r129 => if r129 = 0 then (bcall (M_X10_undo σ128 a0) fun σ130 r131 => if r131 = (-4 : Int32) then (bcall (M_X10_restore σ130 a0) fun σ132 r133 => if r133 = 0 then (bcall (M_X10_account σ132 a0 (4 : Int32)) fun σ134 r135 => if r135 = 0 then (bcall (M_X10_undo σ134 a0) fun σ136 r137 => if r137 = (-4 : Int32) then (KX σ136) else none) else none) else none) else none) else none
def B_LE_832 (KX : St → Option (St × Int32)) (σ : St) (a0 : Nat) (w : (Nat × (Nat → Int32)))  : Option (St × Int32) := bcall (M_X10_work σ a0 (0 : Int32)) fun σ113 r114 => if r114 = 0 then (bcall (M_X10_doneShare σ113 a0) fun σ115 r116 => bchk (r116 == (4581421828931458171 : UInt64)) (bcall (M_X10_weakest σ115 a0) fun σ118 r119 => if r119 = (-4 : Int32) then (bcall (M_L_isLine σ118 a0 6) fun σ120 r121 => if r121 = 0 then none else (bcall (M_X10_clear σ120 a0) fun σ122 r123 => if r123 = (72 : Int32) then (bcall (M_X10_account σ122 a0 (0 : Int32)) fun σ124 r125 => if r125 = 0 then (bcall (M_X10_account σ124 a0 (9 : Int32)) fun σ126 r127 => if r127 = (60 : Int32) then (B_LE_899 KX σ126 a0 w) else none) else none) else none)) else none)) else none
def B_LE_661 (KX : St → Option (St × Int32)) (σ : St) (a0 : Nat) (w : (Nat × (Nat → Int32)))  : Option (St × Int32) := bcall (M_X10_account σ a0 (13 : Int32)) fun σ85 r86 => if r86 = (18 : Int32) then (bcall (M_X10_inspectorOf σ85 a0 (0 : Int32) (1 : Int32)) fun σ87 r88 => if r88 = 0 then (bcall (M_X10_inspectorOf σ87 a0 (1 : Int32) (1 : Int32)) fun σ89 r90 => if r90 = (1 : Int32) then (bcall (M_X10_up σ89 a0 (0 : Int32) (9 : Int32)) fun σ91 r92 => if r92 = (-3 : Int32) then (bcall (M_L_are σ91 a0 (4, (upd (upd (upd (upd (fun _ => 0) ((0 : Int32)).toNatClampNeg (6 : Int32)) ((1 : Int32)).toNatClampNeg (9 : Int32)) ((2 : Int32)).toNatClampNeg (13 : Int32)) ((3 : Int32)).toNatClampNeg (1 : Int32)))) fun σ93 r94 => if r94 = 0 then none else (bcall (M_X10_down σ93 a0 (0 : Int32)) fun σ95 r96 => if r96 = (-3 : Int32) then (bcall (M_L_are σ95 a0 (2, (upd (upd (fun _ => 0) ((0 : Int32)).toNatClampNeg (11 : Int32)) ((1 : Int32)).toNatClampNeg (0 : Int32)))) fun σ97 r98 => if r98 = 0 then none else (bcall (M_X10_signal σ97 a0 (10 : Int32)) fun σ99 r100 => if r100 = 0 then (bcall (M_X10_wouldFall σ99 a0 (10 : Int32)) fun σ101 r102 => if r102 = (-4 : Int32) then (bcall (M_X10_day σ101 a0 (30 : Int32)) fun σ103 r104 => if r104 = (10 : Int32) then (bcall (M_X10_account σ103 a0 (4 : Int32)) fun σ105 r106 => if r106 = 0 then (bcall (M_X10_account σ105 a0 (15 : Int32)) fun σ107 r108 => if r108 = (10 : Int32) then (bcall (M_X10_account σ107 a0 (16 : Int32)) fun σ109 r110 => if r110 = (80 : Int32) then (bcall (M_X10_work σ109 a0 (1 : Int32)) fun σ111 r112 => if r112 = 0 then (B_LE_832 KX σ111 a0 w) else none) else none) else none) else none) else none) else none) else none)) else none)) else none) else none) else none) else none
def B_LE_514 (KX : St → Option (St × Int32)) (σ : St) (a0 : Nat) (w : (Nat × (Nat → Int32)))  : Option (St × Int32) := bcall (M_L_are σ a0 (2, (upd (upd (fun _ => 0) ((0 : Int32)).toNatClampNeg (8 : Int32)) ((1 : Int32)).toNatClampNeg (0 : Int32)))) fun σ57 r58 => if r58 = 0 then none else (bcall (M_X10_crewOf σ57 a0 (1 : Int32) (2 : Int32)) fun σ59 r60 => if r60 = (1 : Int32) then (bcall (M_X10_crewOf σ59 a0 (2 : Int32) (2 : Int32)) fun σ61 r62 => if r62 = 0 then (bcall (M_X10_day σ61 a0 (1 : Int32)) fun σ63 r64 => if r64 = 0 then (bcall (M_X10_storeyOf σ63 a0 (9 : Int32) (3 : Int32)) fun σ65 r66 => if r66 = (32 : Int32) then (bcall (M_X10_crewOf σ65 a0 (2 : Int32) (3 : Int32)) fun σ67 r68 => if r68 = 0 then (bcall (M_L_isLine σ67 a0 15) fun σ69 r70 => if r70 = 0 then none else (bcall (M_X10_day σ69 a0 (10 : Int32)) fun σ71 r72 => if r72 = 0 then (bcall (M_X10_inspect σ71 a0 (1 : Int32) (9 : Int32)) fun σ73 r74 => if r74 = 0 then (bcall (M_X10_day σ73 a0 (1 : Int32)) fun σ75 r76 => if r76 = 0 then (bcall (M_X10_inspect σ75 a0 (1 : Int32) (9 : Int32)) fun σ77 r78 => if r78 = (1 : Int32) then (bcall (M_X10_account σ77 a0 (8 : Int32)) fun σ79 r80 => if r80 = 0 then (bcall (M_X10_account σ79 a0 (13 : Int32)) fun σ81 r82 => if r82 = (9 : Int32) then (bcall (M_X10_inspect σ81 a0 (0 : Int32) (9 : Int32)) fun σ83 r84 => if r84 = (1 : Int32) then (B_LE_661 KX σ83 a0 w) else none) else none) else none) else none) else none) else none) else none)) else none) else none) else none) else none) else none)
def B_LE_435 (KX : St → Option (St × Int32)) : Nat → St → Nat → (Nat × (Nat → Int32)) → Int32 → Option (St × Int32)
  | 0, _, _, _, _ => none
  | n + 1, σ, a0, w, x2 => if (5 : Int32) ≤ x2 then (bcall (M_X10_up σ a0 (0 : Int32) (9 : Int32)) fun σ49 r50 => if r50 = (-3 : Int32) then (bcall (M_L_are σ49 a0 (2, (upd (upd (fun _ => 0) ((0 : Int32)).toNatClampNeg (7 : Int32)) ((1 : Int32)).toNatClampNeg (9 : Int32)))) fun σ51 r52 => if r52 = 0 then none else (bcall (M_X10_lift σ51 a0 (9 : Int32) (2 : Int32)) fun σ53 r54 => if r54 = 0 then (bcall (M_X10_lift σ53 a0 (0 : Int32) (1 : Int32)) fun σ55 r56 => if r56 = (-3 : Int32) then (B_LE_514 KX σ55 a0 w) else none) else none)) else none) else (bcall (M_X10_up σ a0 x2 (9 : Int32)) fun σ181 r182 => if r182 = (x2 + (1 : Int32)) then (blet (x2 + (1 : Int32)) fun v183 => B_LE_435 KX n σ181 a0 w v183) else none)
def B_LE_398 (KX : St → Option (St × Int32)) (σ : St) (a0 : Nat) (w : (Nat × (Nat → Int32)))  : Option (St × Int32) := bcall (M_X10_account σ a0 (18 : Int32)) fun σ43 r44 => if r44 = (8 : Int32) then (bcall (M_X10_strength σ43 a0 (9 : Int32) (1 : Int32)) fun σ45 r46 => if r46 = (16 : Int32) then (bcall (M_X10_oldest σ45 a0 (0 : Int32)) fun σ47 r48 => if r48 = (9 : Int32) then (B_LE_435 KX FU σ47 a0 w (0 : Int32)) else none) else none) else none
def B_LE_326 (KX : St → Option (St × Int32)) : Nat → St → Nat → (Nat × (Nat → Int32)) → Int32 → Option (St × Int32)
  | 0, _, _, _, _ => none
  | n + 1, σ, a0, w, x2 => if (10 : Int32) ≤ x2 then (bcall (M_X10_build σ a0 (0 : Int32) (4 : Int32) (0 : Int32)) fun σ37 r38 => if r38 = (-3 : Int32) then (bcall (M_L_are σ37 a0 (2, (upd (upd (fun _ => 0) ((0 : Int32)).toNatClampNeg (1 : Int32)) ((1 : Int32)).toNatClampNeg (10 : Int32)))) fun σ39 r40 => if r40 = 0 then none else (bcall (M_X10_account σ39 a0 (9 : Int32)) fun σ41 r42 => if r42 = (40 : Int32) then (B_LE_398 KX σ41 a0 w) else none)) else none) else (bcall (M_X10_build σ a0 (x2 - x2 / (8 : Int32) * (8 : Int32)) (8 : Int32) (40 : Int32)) fun σ192 r193 => if r193 = x2 then (blet (x2 + (1 : Int32)) fun v194 => B_LE_326 KX n σ192 a0 w v194) else none)
def B_LE_243 (KX : St → Option (St × Int32)) : Nat → St → Nat → (Nat × (Nat → Int32)) → Int32 → Option (St × Int32)
  | 0, _, _, _, _ => none
  | n + 1, σ, a0, w, x2 => if (3 : Int32) ≤ x2 then (bcall (M_X10_crew σ a0 (1 : Int32)) fun σ29 r30 => if r30 = (-3 : Int32) then (bcall (M_L_are σ29 a0 (2, (upd (upd (fun _ => 0) ((0 : Int32)).toNatClampNeg (1 : Int32)) ((1 : Int32)).toNatClampNeg (5 : Int32)))) fun σ31 r32 => if r32 = 0 then none else (bcall (M_X10_inspector σ31 a0 (1 : Int32)) fun σ33 r34 => if r34 = (-3 : Int32) then (bcall (M_L_are σ33 a0 (2, (upd (upd (fun _ => 0) ((0 : Int32)).toNatClampNeg (1 : Int32)) ((1 : Int32)).toNatClampNeg (3 : Int32)))) fun σ35 r36 => if r36 = 0 then none else (B_LE_326 KX FU σ35 a0 w (0 : Int32))) else none)) else none) else (bcall (M_X10_inspector σ a0 (9 : Int32)) fun σ201 r202 => if r202 = x2 then (blet (x2 + (1 : Int32)) fun v203 => B_LE_243 KX n σ201 a0 w v203) else none)
def B_LE_219 (KX : St → Option (St × Int32)) : Nat → St → Nat → (Nat × (Nat → Int32)) → Int32 → Option (St × Int32)
  | 0, _, _, _, _ => none
  | n + 1, σ, a0, w, x2 => if (5 : Int32) ≤ x2 then (B_LE_243 KX FU σ a0 w (0 : Int32)) else (bcall (M_X10_crew σ a0 (4 : Int32)) fun σ206 r207 => if r207 = x2 then (blet (x2 + (1 : Int32)) fun v208 => B_LE_219 KX n σ206 a0 w v208) else none)
def B_LE_125 (KX : St → Option (St × Int32)) : Nat → St → Nat → (Nat × (Nat → Int32)) → Int32 → Option (St × Int32)
  | 0, _, _, _, _ => none
  | n + 1, σ, a0, w, x2 => if (8 : Int32) ≤ x2 then (bcall (M_X10_bundle σ a0 (1 : Int32) (0 : Int32)) fun σ19 r20 => if r20 = (-3 : Int32) then (bcall (M_L_are σ19 a0 (2, (upd (upd (fun _ => 0) ((0 : Int32)).toNatClampNeg (1 : Int32)) ((1 : Int32)).toNatClampNeg (8 : Int32)))) fun σ21 r22 => if r22 = 0 then none else (bcall (M_X10_strips σ21 a0 (99 : Int32)) fun σ23 r24 => if r24 = (159 : Int32) then (bcall (M_X10_strips σ23 a0 (99 : Int32)) fun σ25 r26 => if r26 = (200 : Int32) then (bcall (M_X10_strips σ25 a0 (1 : Int32)) fun σ27 r28 => if r28 = (200 : Int32) then (B_LE_219 KX FU σ27 a0 w (0 : Int32)) else none) else none) else none)) else none) else (bcall (M_X10_bundle σ a0 (30 : Int32) (0 : Int32)) fun σ216 r217 => if r217 = x2 then (blet (x2 + (1 : Int32)) fun v218 => B_LE_125 KX n σ216 a0 w v218) else none)
def B_LE_105 (KX : St → Option (St × Int32)) (σ : St) (a0 : Nat) (w : (Nat × (Nat → Int32)))  : Option (St × Int32) := bcall (M_X10_fault σ a0) fun σ15 r16 => if r16 = 0 then (bcall (M_X10_account σ15 a0 (17 : Int32)) fun σ17 r18 => if r18 = 0 then (B_LE_125 KX FU σ17 a0 w (0 : Int32)) else none) else none
def B_LE_56 (KX : St → Option (St × Int32)) : Nat → St → Nat → (Nat × (Nat → Int32)) → Int32 → Option (St × Int32)
  | 0, _, _, _, _ => none
  | n + 1, σ, a0, w, x2 => if (60 : Int32) ≤ x2 then (bcall (M_X10_append σ a0 (110 : Int32)) fun σ11 r12 => if r12 = (-2 : Int32) then (bcall (M_X10_script σ11 a0) fun σ13 r14 => if r14 = (-2 : Int32) then (B_LE_105 KX σ13 a0 w) else none) else none) else (blet ((((32 : Int32) + x2).toUInt32 % 65536).toInt32) fun v225 => bcall (M_X10_append σ a0 v225) fun σ226 r227 => if r227 = (x2 + (1 : Int32)) then (blet (x2 + (1 : Int32)) fun v228 => B_LE_56 KX n σ226 a0 w v228) else none)
def B_LE_8 (KX : St → Option (St × Int32)) (σ : St) (a0 : Nat) (w : (Nat × (Nat → Int32)))  : Option (St × Int32) := bcall (M_X10_undo σ a0) fun σ1 r2 => if r2 = (-4 : Int32) then (bcall (M_X10_restore σ1 a0) fun σ3 r4 => if r4 = (-4 : Int32) then (bcall (M_X10_save σ3 a0) fun σ5 r6 => if r6 = 0 then (bcall (M_X10_day σ5 a0 (30 : Int32)) fun σ7 r8 => if r8 = 0 then (bcall (M_X10_account σ7 a0 (0 : Int32)) fun σ9 r10 => if r10 = (30 : Int32) then (B_LE_56 KX FU σ9 a0 w (0 : Int32)) else none) else none) else none) else none) else none
set_option maxRecDepth 20000 in
set_option maxHeartbeats 4000000 in
theorem w_LE_899 {p : Program} {l : Launch} {e : Env} {s : State} {m : MethodId} {below : List Frame} {meth : Method} {c : Code} {args : Array Value} {E : Ev} {s0 : State} {Q : State → Prop} {jx : Nat} {a0 : Nat} {w : (Nat × (Nat → Int32))} (X : Bx E p m meth c cL_law 11 (some .boolean) s args RL) (hs0 : Dr s0 s) (hAn : ∀ q, s0.heap.size ≤ q → AE E q) (hA0 : lay 10 a0) (hw : jx < nX E ∧ (eX E jx).2 = w) (KX : St → Option (St × Int32)) : ∀ (σ : St) (H : Heap) (locs : List Loc) (ls : Array Slot) (z : St × Int32) (hKX : ∀ (s : State) (X : Bx E p m meth c cL_law 11 (some .boolean) s args RL) (hs0 : Dr s0 s) (σ : St) (H : Heap) (locs : List Loc) (ls : Array Slot), GS E σ s.heap H locs → lv_has ls 11 [(0, .ref (eX E jx).1)] → KX σ = some z → W p l e room_1 s m args below meth c H locs (256) (2064) Q (F0 m 942 ls [])), GS E σ s.heap H locs → lv_has ls 11 [(0, .ref (eX E jx).1), (1, .ref (E.1 a0))] → B_LE_899 KX σ a0 w = some z → W p l e room_1 s m args below meth c H locs (256) (2064) Q (F0 m 899 ls []) := by
  have hx := X.1.1.1
  have hb := X.1.1.2.1
  intro σ  H locs ls z hKX hG hl hM
  unfold B_LE_899 at hM
  refine lv_aload_n hx hb dL_law_899 rfl (lv_at hl 1 rfl) ?_
  refine lv_iconst (v := (1 : Int32)) hx hb dL_law_900 (by decide) ?_
  refine g_callV_i (nA := 1) (o := M_X10_account σ a0 (1 : Int32)) (As := [.int (1 : Int32)]) X.1 hG hA0 rfl rfl (fun _ _ h => C_X10_account l E h hA0) mw959 mw960 mw961 mw12 (gw_ok mw962 rfl) (by decide +kernel) rfl ⟨Nat.le_of_ble_eq_true rfl, Nat.le_of_ble_eq_true rfl⟩ hl.1 rfl (Nat.le_of_ble_eq_true rfl) ⟨Nat.le_of_ble_eq_true rfl, Nat.le_of_ble_eq_true rfl⟩ dL_law_901 hM (fun σ128 r129 H locs hG hM => ?_)
  refine lv_if_ne (tgt := 940) hx hb dL_law_904 (by decide) (fun c142 => ?_) (fun c142 => ?_)
  · have hM := b_else hM c142
    cases hM
  · have hM := b_if hM c142
    refine lv_aload_n hx hb dL_law_907 rfl (lv_at hl 1 rfl) ?_
    refine g_callV_i (nA := 0) (o := M_X10_undo σ128 a0) (As := []) X.1 hG hA0 rfl rfl (fun _ _ h => C_X10_undo l E h hA0) mw990 mw991 mw992 mw12 (gw_ok mw993 rfl) (by decide +kernel) rfl ⟨Nat.le_of_ble_eq_true rfl, Nat.le_of_ble_eq_true rfl⟩ hl.1 rfl (Nat.le_of_ble_eq_true rfl) ⟨Nat.le_of_ble_eq_true rfl, Nat.le_of_ble_eq_true rfl⟩ dL_law_908 hM (fun σ130 r131 H locs hG hM => ?_)
    refine lv_bipush (v := (-4 : Int32)) hx hb dL_law_911 (by decide) ?_
    refine lv_icmp_ne (tgt := 940) hx hb dL_law_913 (by decide) (fun c141 => ?_) (fun c141 => ?_)
    · have hM := b_else hM c141
      cases hM
    · have hM := b_if hM c141
      refine lv_aload_n hx hb dL_law_916 rfl (lv_at hl 1 rfl) ?_
      refine g_callV_i (nA := 0) (o := M_X10_restore σ130 a0) (As := []) X.1 hG hA0 rfl rfl (fun _ _ h => C_X10_restore l E h hA0) mw1002 mw1003 mw1004 mw12 (gw_ok mw1005 rfl) (by decide +kernel) rfl ⟨Nat.le_of_ble_eq_true rfl, Nat.le_of_ble_eq_true rfl⟩ hl.1 rfl (Nat.le_of_ble_eq_true rfl) ⟨Nat.le_of_ble_eq_true rfl, Nat.le_of_ble_eq_true rfl⟩ dL_law_917 hM (fun σ132 r133 H locs hG hM => ?_)
      refine lv_if_ne (tgt := 940) hx hb dL_law_920 (by decide) (fun c140 => ?_) (fun c140 => ?_)
      · have hM := b_else hM c140
        cases hM
      · have hM := b_if hM c140
        refine lv_aload_n hx hb dL_law_923 rfl (lv_at hl 1 rfl) ?_
        refine lv_iconst (v := (4 : Int32)) hx hb dL_law_924 (by decide) ?_
        refine g_callV_i (nA := 1) (o := M_X10_account σ132 a0 (4 : Int32)) (As := [.int (4 : Int32)]) X.1 hG hA0 rfl rfl (fun _ _ h => C_X10_account l E h hA0) mw959 mw960 mw961 mw12 (gw_ok mw962 rfl) (by decide +kernel) rfl ⟨Nat.le_of_ble_eq_true rfl, Nat.le_of_ble_eq_true rfl⟩ hl.1 rfl (Nat.le_of_ble_eq_true rfl) ⟨Nat.le_of_ble_eq_true rfl, Nat.le_of_ble_eq_true rfl⟩ dL_law_925 hM (fun σ134 r135 H locs hG hM => ?_)
        refine lv_if_ne (tgt := 940) hx hb dL_law_928 (by decide) (fun c139 => ?_) (fun c139 => ?_)
        · have hM := b_else hM c139
          cases hM
        · have hM := b_if hM c139
          refine lv_aload_n hx hb dL_law_931 rfl (lv_at hl 1 rfl) ?_
          refine g_callV_i (nA := 0) (o := M_X10_undo σ134 a0) (As := []) X.1 hG hA0 rfl rfl (fun _ _ h => C_X10_undo l E h hA0) mw990 mw991 mw992 mw12 (gw_ok mw993 rfl) (by decide +kernel) rfl ⟨Nat.le_of_ble_eq_true rfl, Nat.le_of_ble_eq_true rfl⟩ hl.1 rfl (Nat.le_of_ble_eq_true rfl) ⟨Nat.le_of_ble_eq_true rfl, Nat.le_of_ble_eq_true rfl⟩ dL_law_932 hM (fun σ136 r137 H locs hG hM => ?_)
          refine lv_bipush (v := (-4 : Int32)) hx hb dL_law_935 (by decide) ?_
          refine lv_icmp_eq (tgt := 942) hx hb dL_law_937 (by decide) (fun c138 => ?_) (fun c138 => ?_)
          · have hM := b_if hM c138
            exact hKX _ X hs0 σ136  _ _ _ hG (lv_sub hl [0] rfl) hM
          · have hM := b_else hM c138
            cases hM
set_option maxRecDepth 20000 in
set_option maxHeartbeats 4000000 in
theorem w_LE_832 {p : Program} {l : Launch} {e : Env} {s : State} {m : MethodId} {below : List Frame} {meth : Method} {c : Code} {args : Array Value} {E : Ev} {s0 : State} {Q : State → Prop} {jx : Nat} {a0 : Nat} {w : (Nat × (Nat → Int32))} (X : Bx E p m meth c cL_law 11 (some .boolean) s args RL) (hs0 : Dr s0 s) (hAn : ∀ q, s0.heap.size ≤ q → AE E q) (hA0 : lay 10 a0) (hw : jx < nX E ∧ (eX E jx).2 = w) (KX : St → Option (St × Int32)) : ∀ (σ : St) (H : Heap) (locs : List Loc) (ls : Array Slot) (z : St × Int32) (hKX : ∀ (s : State) (X : Bx E p m meth c cL_law 11 (some .boolean) s args RL) (hs0 : Dr s0 s) (σ : St) (H : Heap) (locs : List Loc) (ls : Array Slot), GS E σ s.heap H locs → lv_has ls 11 [(0, .ref (eX E jx).1)] → KX σ = some z → W p l e room_1 s m args below meth c H locs (256) (2064) Q (F0 m 942 ls [])), GS E σ s.heap H locs → lv_has ls 11 [(0, .ref (eX E jx).1), (1, .ref (E.1 a0))] → B_LE_832 KX σ a0 w = some z → W p l e room_1 s m args below meth c H locs (256) (2064) Q (F0 m 832 ls []) := by
  have hx := X.1.1.1
  have hb := X.1.1.2.1
  intro σ  H locs ls z hKX hG hl hM
  unfold B_LE_832 at hM
  refine lv_aload_n hx hb dL_law_832 rfl (lv_at hl 1 rfl) ?_
  refine lv_iconst (v := (0 : Int32)) hx hb dL_law_833 (by decide) ?_
  refine g_callV_i (nA := 1) (o := M_X10_work σ a0 (0 : Int32)) (As := [.int (0 : Int32)]) X.1 hG hA0 rfl rfl (fun _ _ h => C_X10_work l E h hA0) mw944 mw945 mw946 mw12 (gw_ok mw947 rfl) (by decide +kernel) rfl ⟨Nat.le_of_ble_eq_true rfl, Nat.le_of_ble_eq_true rfl⟩ hl.1 rfl (Nat.le_of_ble_eq_true rfl) ⟨Nat.le_of_ble_eq_true rfl, Nat.le_of_ble_eq_true rfl⟩ dL_law_834 hM (fun σ113 r114 H locs hG hM => ?_)
  refine lv_if_ne (tgt := 869) hx hb dL_law_837 (by decide) (fun c148 => ?_) (fun c148 => ?_)
  · have hM := b_else hM c148
    cases hM
  · have hM := b_if hM c148
    refine lv_aload_n hx hb dL_law_840 rfl (lv_at hl 1 rfl) ?_
    refine g_callDS X hs0 hG hA0 mw955 ⟨Nat.le_of_ble_eq_true rfl, Nat.le_of_ble_eq_true rfl⟩ hl.1 (Nat.le_of_ble_eq_true rfl) ⟨Nat.le_of_ble_eq_true rfl, Nat.le_of_ble_eq_true rfl⟩ dL_law_841 hM (fun σ115 r116 s H locs u117 X hs0 hG hau117 hM => ?_)
    obtain ⟨hck, hM9⟩ := b_chk hM
    clear hM
    have hM := hM9
    clear hM9
    obtain rfl : r116 = (4581421828931458171 : UInt64) := eq_of_beq hck
    obtain rfl := al_eq hau117 (by decide +kernel)
    refine lv_ldc2d (v := (4581421828931458171 : UInt64)) hx hb X.1.1.2.2.2.1 (X.1.1.2.2.2.2 _ (gw_in mw1342 rfl)) dL_law_844 ?_
    refine lv_dcmp hx hb dL_law_847 ?_
    refine lv_if_ne (tgt := 869) hx hb dL_law_848 (by decide) (fun c1 => absurd (by decide +kernel) c1) (fun _ => ?_)
    refine lv_aload_n hx hb dL_law_851 rfl (lv_at hl 1 rfl) ?_
    refine g_callV_i (nA := 0) (o := M_X10_weakest σ115 a0) (As := []) X.1 hG hA0 rfl rfl (fun _ _ h => C_X10_weakest l E h hA0) mw891 mw892 mw893 mw12 (gw_ok mw894 rfl) (by decide +kernel) rfl ⟨Nat.le_of_ble_eq_true rfl, Nat.le_of_ble_eq_true rfl⟩ hl.1 rfl (Nat.le_of_ble_eq_true rfl) ⟨Nat.le_of_ble_eq_true rfl, Nat.le_of_ble_eq_true rfl⟩ dL_law_852 hM (fun σ118 r119 H locs hG hM => ?_)
    refine lv_bipush (v := (-4 : Int32)) hx hb dL_law_855 (by decide) ?_
    refine lv_icmp_ne (tgt := 869) hx hb dL_law_857 (by decide) (fun c147 => ?_) (fun c147 => ?_)
    · have hM := b_else hM c147
      cases hM
    · have hM := b_if hM c147
      refine lv_aload_n hx hb dL_law_860 rfl (lv_at hl 1 rfl) ?_
      refine g_ldcS X.1 (i := 6) (by decide) rfl rfl dL_law_861 ?_
      refine g_callS_i (nA := 2) (o := M_L_isLine σ118 a0 6) (As := [.ref (E.1 a0), .ref (eK E 6)]) X.1 hG (fun _ _ h => C_L_isLine l E h hA0 (okS_of (show 6 < 16 by decide))) mw1023 mw1024 mw11 (gw_ok mw1025 rfl) (by decide +kernel) rfl ⟨Nat.le_of_ble_eq_true rfl, Nat.le_of_ble_eq_true rfl⟩ hl.1 rfl (Nat.le_of_ble_eq_true rfl) ⟨Nat.le_of_ble_eq_true rfl, Nat.le_of_ble_eq_true rfl⟩ dL_law_863 hM (fun σ120 r121 H locs hG hM => ?_)
      refine lv_if_ne (tgt := 871) hx hb dL_law_866 (by decide) (fun c146 => ?_) (fun c146 => ?_)
      · have hM := b_else hM c146
        refine lv_aload_n hx hb dL_law_871 rfl (lv_at hl 1 rfl) ?_
        refine g_callV_i (nA := 0) (o := M_X10_clear σ120 a0) (As := []) X.1 hG hA0 rfl rfl (fun _ _ h => C_X10_clear l E h hA0) mw330 mw331 mw332 mw12 (gw_ok mw333 rfl) (by decide +kernel) rfl ⟨Nat.le_of_ble_eq_true rfl, Nat.le_of_ble_eq_true rfl⟩ hl.1 rfl (Nat.le_of_ble_eq_true rfl) ⟨Nat.le_of_ble_eq_true rfl, Nat.le_of_ble_eq_true rfl⟩ dL_law_872 hM (fun σ122 r123 H locs hG hM => ?_)
        refine lv_bipush (v := (72 : Int32)) hx hb dL_law_875 (by decide) ?_
        refine lv_icmp_ne (tgt := 940) hx hb dL_law_877 (by decide) (fun c145 => ?_) (fun c145 => ?_)
        · have hM := b_else hM c145
          cases hM
        · have hM := b_if hM c145
          refine lv_aload_n hx hb dL_law_880 rfl (lv_at hl 1 rfl) ?_
          refine lv_iconst (v := (0 : Int32)) hx hb dL_law_881 (by decide) ?_
          refine g_callV_i (nA := 1) (o := M_X10_account σ122 a0 (0 : Int32)) (As := [.int (0 : Int32)]) X.1 hG hA0 rfl rfl (fun _ _ h => C_X10_account l E h hA0) mw959 mw960 mw961 mw12 (gw_ok mw962 rfl) (by decide +kernel) rfl ⟨Nat.le_of_ble_eq_true rfl, Nat.le_of_ble_eq_true rfl⟩ hl.1 rfl (Nat.le_of_ble_eq_true rfl) ⟨Nat.le_of_ble_eq_true rfl, Nat.le_of_ble_eq_true rfl⟩ dL_law_882 hM (fun σ124 r125 H locs hG hM => ?_)
          refine lv_if_ne (tgt := 940) hx hb dL_law_885 (by decide) (fun c144 => ?_) (fun c144 => ?_)
          · have hM := b_else hM c144
            cases hM
          · have hM := b_if hM c144
            refine lv_aload_n hx hb dL_law_888 rfl (lv_at hl 1 rfl) ?_
            refine lv_bipush (v := (9 : Int32)) hx hb dL_law_889 (by decide) ?_
            refine g_callV_i (nA := 1) (o := M_X10_account σ124 a0 (9 : Int32)) (As := [.int (9 : Int32)]) X.1 hG hA0 rfl rfl (fun _ _ h => C_X10_account l E h hA0) mw959 mw960 mw961 mw12 (gw_ok mw962 rfl) (by decide +kernel) rfl ⟨Nat.le_of_ble_eq_true rfl, Nat.le_of_ble_eq_true rfl⟩ hl.1 rfl (Nat.le_of_ble_eq_true rfl) ⟨Nat.le_of_ble_eq_true rfl, Nat.le_of_ble_eq_true rfl⟩ dL_law_891 hM (fun σ126 r127 H locs hG hM => ?_)
            refine lv_bipush (v := (60 : Int32)) hx hb dL_law_894 (by decide) ?_
            refine lv_icmp_ne (tgt := 940) hx hb dL_law_896 (by decide) (fun c143 => ?_) (fun c143 => ?_)
            · have hM := b_else hM c143
              cases hM
            · have hM := b_if hM c143
              exact w_LE_899 X hs0 hAn hA0 hw KX σ126 _ _ _ z hKX hG (lv_sub hl [0, 1] rfl) hM
      · have hM := b_if hM c146
        cases hM
set_option maxRecDepth 20000 in
set_option maxHeartbeats 4000000 in
theorem w_LE_661 {p : Program} {l : Launch} {e : Env} {s : State} {m : MethodId} {below : List Frame} {meth : Method} {c : Code} {args : Array Value} {E : Ev} {s0 : State} {Q : State → Prop} {jx : Nat} {a0 : Nat} {w : (Nat × (Nat → Int32))} (X : Bx E p m meth c cL_law 11 (some .boolean) s args RL) (hs0 : Dr s0 s) (hAn : ∀ q, s0.heap.size ≤ q → AE E q) (hA0 : lay 10 a0) (hw : jx < nX E ∧ (eX E jx).2 = w) (KX : St → Option (St × Int32)) : ∀ (σ : St) (H : Heap) (locs : List Loc) (ls : Array Slot) (z : St × Int32) (hKX : ∀ (s : State) (X : Bx E p m meth c cL_law 11 (some .boolean) s args RL) (hs0 : Dr s0 s) (σ : St) (H : Heap) (locs : List Loc) (ls : Array Slot), GS E σ s.heap H locs → lv_has ls 11 [(0, .ref (eX E jx).1)] → KX σ = some z → W p l e room_1 s m args below meth c H locs (256) (2064) Q (F0 m 942 ls [])), GS E σ s.heap H locs → lv_has ls 11 [(0, .ref (eX E jx).1), (1, .ref (E.1 a0))] → B_LE_661 KX σ a0 w = some z → W p l e room_1 s m args below meth c H locs (254) (2058) Q (F0 m 661 ls []) := by
  have hx := X.1.1.1
  have hb := X.1.1.2.1
  intro σ  H locs ls z hKX hG hl hM
  unfold B_LE_661 at hM
  refine lv_aload_n hx hb dL_law_661 rfl (lv_at hl 1 rfl) ?_
  refine lv_bipush (v := (13 : Int32)) hx hb dL_law_662 (by decide) ?_
  refine g_callV_i (nA := 1) (o := M_X10_account σ a0 (13 : Int32)) (As := [.int (13 : Int32)]) X.1 hG hA0 rfl rfl (fun _ _ h => C_X10_account l E h hA0) mw959 mw960 mw961 mw12 (gw_ok mw962 rfl) (by decide +kernel) rfl ⟨Nat.le_of_ble_eq_true rfl, Nat.le_of_ble_eq_true rfl⟩ hl.1 rfl (Nat.le_of_ble_eq_true rfl) ⟨Nat.le_of_ble_eq_true rfl, Nat.le_of_ble_eq_true rfl⟩ dL_law_664 hM (fun σ85 r86 H locs hG hM => ?_)
  refine lv_bipush (v := (18 : Int32)) hx hb dL_law_667 (by decide) ?_
  refine lv_icmp_ne (tgt := 761) hx hb dL_law_669 (by decide) (fun c162 => ?_) (fun c162 => ?_)
  · have hM := b_else hM c162
    cases hM
  · have hM := b_if hM c162
    refine lv_aload_n hx hb dL_law_672 rfl (lv_at hl 1 rfl) ?_
    refine lv_iconst (v := (0 : Int32)) hx hb dL_law_673 (by decide) ?_
    refine lv_iconst (v := (1 : Int32)) hx hb dL_law_674 (by decide) ?_
    refine g_callV_i (nA := 2) (o := M_X10_inspectorOf σ85 a0 (0 : Int32) (1 : Int32)) (As := [.int (0 : Int32), .int (1 : Int32)]) X.1 hG hA0 rfl rfl (fun _ _ h => C_X10_inspectorOf l E h hA0) mw928 mw929 mw930 mw12 (gw_ok mw931 rfl) (by decide +kernel) rfl ⟨Nat.le_of_ble_eq_true rfl, Nat.le_of_ble_eq_true rfl⟩ hl.1 rfl (Nat.le_of_ble_eq_true rfl) ⟨Nat.le_of_ble_eq_true rfl, Nat.le_of_ble_eq_true rfl⟩ dL_law_675 hM (fun σ87 r88 H locs hG hM => ?_)
    refine lv_if_ne (tgt := 761) hx hb dL_law_678 (by decide) (fun c161 => ?_) (fun c161 => ?_)
    · have hM := b_else hM c161
      cases hM
    · have hM := b_if hM c161
      refine lv_aload_n hx hb dL_law_681 rfl (lv_at hl 1 rfl) ?_
      refine lv_iconst (v := (1 : Int32)) hx hb dL_law_682 (by decide) ?_
      refine lv_iconst (v := (1 : Int32)) hx hb dL_law_683 (by decide) ?_
      refine g_callV_i (nA := 2) (o := M_X10_inspectorOf σ87 a0 (1 : Int32) (1 : Int32)) (As := [.int (1 : Int32), .int (1 : Int32)]) X.1 hG hA0 rfl rfl (fun _ _ h => C_X10_inspectorOf l E h hA0) mw928 mw929 mw930 mw12 (gw_ok mw931 rfl) (by decide +kernel) rfl ⟨Nat.le_of_ble_eq_true rfl, Nat.le_of_ble_eq_true rfl⟩ hl.1 rfl (Nat.le_of_ble_eq_true rfl) ⟨Nat.le_of_ble_eq_true rfl, Nat.le_of_ble_eq_true rfl⟩ dL_law_684 hM (fun σ89 r90 H locs hG hM => ?_)
      refine lv_iconst (v := (1 : Int32)) hx hb dL_law_687 (by decide) ?_
      refine lv_icmp_ne (tgt := 761) hx hb dL_law_688 (by decide) (fun c160 => ?_) (fun c160 => ?_)
      · have hM := b_else hM c160
        cases hM
      · have hM := b_if hM c160
        refine lv_aload_n hx hb dL_law_691 rfl (lv_at hl 1 rfl) ?_
        refine lv_iconst (v := (0 : Int32)) hx hb dL_law_692 (by decide) ?_
        refine lv_bipush (v := (9 : Int32)) hx hb dL_law_693 (by decide) ?_
        refine g_callV_i (nA := 2) (o := M_X10_up σ89 a0 (0 : Int32) (9 : Int32)) (As := [.int (0 : Int32), .int (9 : Int32)]) X.1 hG hA0 rfl rfl (fun _ _ h => C_X10_up l E h hA0) mw510 mw511 mw512 mw12 (gw_ok mw513 rfl) (by decide +kernel) rfl ⟨Nat.le_of_ble_eq_true rfl, Nat.le_of_ble_eq_true rfl⟩ hl.1 rfl (Nat.le_of_ble_eq_true rfl) ⟨Nat.le_of_ble_eq_true rfl, Nat.le_of_ble_eq_true rfl⟩ dL_law_695 hM (fun σ91 r92 H locs hG hM => ?_)
        refine lv_bipush (v := (-3 : Int32)) hx hb dL_law_698 (by decide) ?_
        refine lv_icmp_ne (tgt := 761) hx hb dL_law_700 (by decide) (fun c159 => ?_) (fun c159 => ?_)
        · have hM := b_else hM c159
          cases hM
        · have hM := b_if hM c159
          refine lv_aload_n hx hb dL_law_703 rfl (lv_at hl 1 rfl) ?_
          refine lv_iconst (v := (4 : Int32)) hx hb dL_law_704 (by decide) ?_
          refine a_new X.1 (dr_an hs0 hAn) hG (N := 4) (by decide) (by decide) (Nat.le_of_ble_eq_true rfl) (Nat.le_of_ble_eq_true rfl) (Nat.le_of_ble_eq_true rfl) dL_law_705 (fun q H hG => ?_)
          refine lv_dup hx hb dL_law_707 rfl ?_
          refine lv_iconst (v := (0 : Int32)) hx hb dL_law_708 (by decide) ?_
          refine lv_bipush (v := (6 : Int32)) hx hb dL_law_709 (by decide) ?_
          refine a_ast X.1 hG (by unfold vp_in; decide) dL_law_711 (fun H locs hG => ?_)
          refine lv_dup hx hb dL_law_712 rfl ?_
          refine lv_iconst (v := (1 : Int32)) hx hb dL_law_713 (by decide) ?_
          refine lv_bipush (v := (9 : Int32)) hx hb dL_law_714 (by decide) ?_
          refine a_ast X.1 hG (by unfold vp_in; decide) dL_law_716 (fun H locs hG => ?_)
          refine lv_dup hx hb dL_law_717 rfl ?_
          refine lv_iconst (v := (2 : Int32)) hx hb dL_law_718 (by decide) ?_
          refine lv_bipush (v := (13 : Int32)) hx hb dL_law_719 (by decide) ?_
          refine a_ast X.1 hG (by unfold vp_in; decide) dL_law_721 (fun H locs hG => ?_)
          refine lv_dup hx hb dL_law_722 rfl ?_
          refine lv_iconst (v := (3 : Int32)) hx hb dL_law_723 (by decide) ?_
          refine lv_iconst (v := (1 : Int32)) hx hb dL_law_724 (by decide) ?_
          refine a_ast X.1 hG (by unfold vp_in; decide) dL_law_725 (fun H locs hG => ?_)
          refine a_are X.1 hG hA0 mw1012 ⟨Nat.le_of_ble_eq_true rfl, Nat.le_of_ble_eq_true rfl⟩ hl.1 (Nat.le_of_ble_eq_true rfl) ⟨Nat.le_of_ble_eq_true rfl, Nat.le_of_ble_eq_true rfl⟩ dL_law_726 hM (fun σ93 r94 H locs hG hM => ?_)
          refine lv_if_eq (tgt := 761) hx hb dL_law_729 (by decide) (fun c158 => ?_) (fun c158 => ?_)
          · have hM := b_if hM c158
            cases hM
          · have hM := b_else hM c158
            refine lv_aload_n hx hb dL_law_732 rfl (lv_at hl 1 rfl) ?_
            refine lv_iconst (v := (0 : Int32)) hx hb dL_law_733 (by decide) ?_
            refine g_callV_i (nA := 1) (o := M_X10_down σ93 a0 (0 : Int32)) (As := [.int (0 : Int32)]) X.1 hG hA0 rfl rfl (fun _ _ h => C_X10_down l E h hA0) mw569 mw570 mw571 mw12 (gw_ok mw572 rfl) (by decide +kernel) rfl ⟨Nat.le_of_ble_eq_true rfl, Nat.le_of_ble_eq_true rfl⟩ hl.1 rfl (Nat.le_of_ble_eq_true rfl) ⟨Nat.le_of_ble_eq_true rfl, Nat.le_of_ble_eq_true rfl⟩ dL_law_734 hM (fun σ95 r96 H locs hG hM => ?_)
            refine lv_bipush (v := (-3 : Int32)) hx hb dL_law_737 (by decide) ?_
            refine lv_icmp_ne (tgt := 761) hx hb dL_law_739 (by decide) (fun c157 => ?_) (fun c157 => ?_)
            · have hM := b_else hM c157
              cases hM
            · have hM := b_if hM c157
              refine lv_aload_n hx hb dL_law_742 rfl (lv_at hl 1 rfl) ?_
              refine lv_iconst (v := (2 : Int32)) hx hb dL_law_743 (by decide) ?_
              refine a_new X.1 (dr_an hs0 hAn) hG (N := 2) (by decide) (by decide) (Nat.le_of_ble_eq_true rfl) (Nat.le_of_ble_eq_true rfl) (Nat.le_of_ble_eq_true rfl) dL_law_744 (fun q H hG => ?_)
              refine lv_dup hx hb dL_law_746 rfl ?_
              refine lv_iconst (v := (0 : Int32)) hx hb dL_law_747 (by decide) ?_
              refine lv_bipush (v := (11 : Int32)) hx hb dL_law_748 (by decide) ?_
              refine a_ast X.1 hG (by unfold vp_in; decide) dL_law_750 (fun H locs hG => ?_)
              refine lv_dup hx hb dL_law_751 rfl ?_
              refine lv_iconst (v := (1 : Int32)) hx hb dL_law_752 (by decide) ?_
              refine lv_iconst (v := (0 : Int32)) hx hb dL_law_753 (by decide) ?_
              refine a_ast X.1 hG (by unfold vp_in; decide) dL_law_754 (fun H locs hG => ?_)
              refine a_are X.1 hG hA0 mw1012 ⟨Nat.le_of_ble_eq_true rfl, Nat.le_of_ble_eq_true rfl⟩ hl.1 (Nat.le_of_ble_eq_true rfl) ⟨Nat.le_of_ble_eq_true rfl, Nat.le_of_ble_eq_true rfl⟩ dL_law_755 hM (fun σ97 r98 H locs hG hM => ?_)
              refine lv_if_ne (tgt := 763) hx hb dL_law_758 (by decide) (fun c156 => ?_) (fun c156 => ?_)
              · have hM := b_else hM c156
                refine lv_aload_n hx hb dL_law_763 rfl (lv_at hl 1 rfl) ?_
                refine lv_bipush (v := (10 : Int32)) hx hb dL_law_764 (by decide) ?_
                refine g_callV_i (nA := 1) (o := M_X10_signal σ97 a0 (10 : Int32)) (As := [.int (10 : Int32)]) X.1 hG hA0 rfl rfl (fun _ _ h => C_X10_signal l E h hA0) mw598 mw599 mw600 mw12 (gw_ok mw601 rfl) (by decide +kernel) rfl ⟨Nat.le_of_ble_eq_true rfl, Nat.le_of_ble_eq_true rfl⟩ hl.1 rfl (Nat.le_of_ble_eq_true rfl) ⟨Nat.le_of_ble_eq_true rfl, Nat.le_of_ble_eq_true rfl⟩ dL_law_766 hM (fun σ99 r100 H locs hG hM => ?_)
                refine lv_if_ne (tgt := 869) hx hb dL_law_769 (by decide) (fun c155 => ?_) (fun c155 => ?_)
                · have hM := b_else hM c155
                  cases hM
                · have hM := b_if hM c155
                  refine lv_aload_n hx hb dL_law_772 rfl (lv_at hl 1 rfl) ?_
                  refine lv_bipush (v := (10 : Int32)) hx hb dL_law_773 (by decide) ?_
                  refine g_callV_i (nA := 1) (o := M_X10_wouldFall σ99 a0 (10 : Int32)) (As := [.int (10 : Int32)]) X.1 hG hA0 rfl rfl (fun _ _ h => C_X10_wouldFall l E h hA0) mw939 mw940 mw941 mw12 (gw_ok mw942 rfl) (by decide +kernel) rfl ⟨Nat.le_of_ble_eq_true rfl, Nat.le_of_ble_eq_true rfl⟩ hl.1 rfl (Nat.le_of_ble_eq_true rfl) ⟨Nat.le_of_ble_eq_true rfl, Nat.le_of_ble_eq_true rfl⟩ dL_law_775 hM (fun σ101 r102 H locs hG hM => ?_)
                  refine lv_bipush (v := (-4 : Int32)) hx hb dL_law_778 (by decide) ?_
                  refine lv_icmp_ne (tgt := 869) hx hb dL_law_780 (by decide) (fun c154 => ?_) (fun c154 => ?_)
                  · have hM := b_else hM c154
                    cases hM
                  · have hM := b_if hM c154
                    refine lv_aload_n hx hb dL_law_783 rfl (lv_at hl 1 rfl) ?_
                    refine lv_bipush (v := (30 : Int32)) hx hb dL_law_784 (by decide) ?_
                    refine g_callV_i (nA := 1) (o := M_X10_day σ101 a0 (30 : Int32)) (As := [.int (30 : Int32)]) X.1 hG hA0 rfl rfl (fun _ _ h => C_X10_day l E h hA0) mw661 mw662 mw663 mw12 (gw_ok mw664 rfl) (by decide +kernel) rfl ⟨Nat.le_of_ble_eq_true rfl, Nat.le_of_ble_eq_true rfl⟩ hl.1 rfl (Nat.le_of_ble_eq_true rfl) ⟨Nat.le_of_ble_eq_true rfl, Nat.le_of_ble_eq_true rfl⟩ dL_law_786 hM (fun σ103 r104 H locs hG hM => ?_)
                    refine lv_bipush (v := (10 : Int32)) hx hb dL_law_789 (by decide) ?_
                    refine lv_icmp_ne (tgt := 869) hx hb dL_law_791 (by decide) (fun c153 => ?_) (fun c153 => ?_)
                    · have hM := b_else hM c153
                      cases hM
                    · have hM := b_if hM c153
                      refine lv_aload_n hx hb dL_law_794 rfl (lv_at hl 1 rfl) ?_
                      refine lv_iconst (v := (4 : Int32)) hx hb dL_law_795 (by decide) ?_
                      refine g_callV_i (nA := 1) (o := M_X10_account σ103 a0 (4 : Int32)) (As := [.int (4 : Int32)]) X.1 hG hA0 rfl rfl (fun _ _ h => C_X10_account l E h hA0) mw959 mw960 mw961 mw12 (gw_ok mw962 rfl) (by decide +kernel) rfl ⟨Nat.le_of_ble_eq_true rfl, Nat.le_of_ble_eq_true rfl⟩ hl.1 rfl (Nat.le_of_ble_eq_true rfl) ⟨Nat.le_of_ble_eq_true rfl, Nat.le_of_ble_eq_true rfl⟩ dL_law_796 hM (fun σ105 r106 H locs hG hM => ?_)
                      refine lv_if_ne (tgt := 869) hx hb dL_law_799 (by decide) (fun c152 => ?_) (fun c152 => ?_)
                      · have hM := b_else hM c152
                        cases hM
                      · have hM := b_if hM c152
                        refine lv_aload_n hx hb dL_law_802 rfl (lv_at hl 1 rfl) ?_
                        refine lv_bipush (v := (15 : Int32)) hx hb dL_law_803 (by decide) ?_
                        refine g_callV_i (nA := 1) (o := M_X10_account σ105 a0 (15 : Int32)) (As := [.int (15 : Int32)]) X.1 hG hA0 rfl rfl (fun _ _ h => C_X10_account l E h hA0) mw959 mw960 mw961 mw12 (gw_ok mw962 rfl) (by decide +kernel) rfl ⟨Nat.le_of_ble_eq_true rfl, Nat.le_of_ble_eq_true rfl⟩ hl.1 rfl (Nat.le_of_ble_eq_true rfl) ⟨Nat.le_of_ble_eq_true rfl, Nat.le_of_ble_eq_true rfl⟩ dL_law_805 hM (fun σ107 r108 H locs hG hM => ?_)
                        refine lv_bipush (v := (10 : Int32)) hx hb dL_law_808 (by decide) ?_
                        refine lv_icmp_ne (tgt := 869) hx hb dL_law_810 (by decide) (fun c151 => ?_) (fun c151 => ?_)
                        · have hM := b_else hM c151
                          cases hM
                        · have hM := b_if hM c151
                          refine lv_aload_n hx hb dL_law_813 rfl (lv_at hl 1 rfl) ?_
                          refine lv_bipush (v := (16 : Int32)) hx hb dL_law_814 (by decide) ?_
                          refine g_callV_i (nA := 1) (o := M_X10_account σ107 a0 (16 : Int32)) (As := [.int (16 : Int32)]) X.1 hG hA0 rfl rfl (fun _ _ h => C_X10_account l E h hA0) mw959 mw960 mw961 mw12 (gw_ok mw962 rfl) (by decide +kernel) rfl ⟨Nat.le_of_ble_eq_true rfl, Nat.le_of_ble_eq_true rfl⟩ hl.1 rfl (Nat.le_of_ble_eq_true rfl) ⟨Nat.le_of_ble_eq_true rfl, Nat.le_of_ble_eq_true rfl⟩ dL_law_816 hM (fun σ109 r110 H locs hG hM => ?_)
                          refine lv_bipush (v := (80 : Int32)) hx hb dL_law_819 (by decide) ?_
                          refine lv_icmp_ne (tgt := 869) hx hb dL_law_821 (by decide) (fun c150 => ?_) (fun c150 => ?_)
                          · have hM := b_else hM c150
                            cases hM
                          · have hM := b_if hM c150
                            refine lv_aload_n hx hb dL_law_824 rfl (lv_at hl 1 rfl) ?_
                            refine lv_iconst (v := (1 : Int32)) hx hb dL_law_825 (by decide) ?_
                            refine g_callV_i (nA := 1) (o := M_X10_work σ109 a0 (1 : Int32)) (As := [.int (1 : Int32)]) X.1 hG hA0 rfl rfl (fun _ _ h => C_X10_work l E h hA0) mw944 mw945 mw946 mw12 (gw_ok mw947 rfl) (by decide +kernel) rfl ⟨Nat.le_of_ble_eq_true rfl, Nat.le_of_ble_eq_true rfl⟩ hl.1 rfl (Nat.le_of_ble_eq_true rfl) ⟨Nat.le_of_ble_eq_true rfl, Nat.le_of_ble_eq_true rfl⟩ dL_law_826 hM (fun σ111 r112 H locs hG hM => ?_)
                            refine lv_if_ne (tgt := 869) hx hb dL_law_829 (by decide) (fun c149 => ?_) (fun c149 => ?_)
                            · have hM := b_else hM c149
                              cases hM
                            · have hM := b_if hM c149
                              exact w_LE_832 X hs0 hAn hA0 hw KX σ111 _ _ _ z hKX hG (lv_sub hl [0, 1] rfl) hM
              · have hM := b_if hM c156
                cases hM
set_option maxRecDepth 20000 in
set_option maxHeartbeats 4000000 in
theorem w_LE_514 {p : Program} {l : Launch} {e : Env} {s : State} {m : MethodId} {below : List Frame} {meth : Method} {c : Code} {args : Array Value} {E : Ev} {s0 : State} {Q : State → Prop} {jx : Nat} {a0 : Nat} {w : (Nat × (Nat → Int32))} (X : Bx E p m meth c cL_law 11 (some .boolean) s args RL) (hs0 : Dr s0 s) (hAn : ∀ q, s0.heap.size ≤ q → AE E q) (hA0 : lay 10 a0) (hw : jx < nX E ∧ (eX E jx).2 = w) (KX : St → Option (St × Int32)) : ∀ (σ : St) (H : Heap) (locs : List Loc) (ls : Array Slot) (z : St × Int32) (hKX : ∀ (s : State) (X : Bx E p m meth c cL_law 11 (some .boolean) s args RL) (hs0 : Dr s0 s) (σ : St) (H : Heap) (locs : List Loc) (ls : Array Slot), GS E σ s.heap H locs → lv_has ls 11 [(0, .ref (eX E jx).1)] → KX σ = some z → W p l e room_1 s m args below meth c H locs (256) (2064) Q (F0 m 942 ls [])), GS E σ s.heap H locs → lv_has ls 11 [(0, .ref (eX E jx).1), (1, .ref (E.1 a0))] → B_LE_514 KX σ a0 w = some z → W p l e room_1 s m args below meth c H locs (253) (2056) Q (F0 m 514 ls []) := by
  have hx := X.1.1.1
  have hb := X.1.1.2.1
  intro σ  H locs ls z hKX hG hl hM
  unfold B_LE_514 at hM
  refine lv_aload_n hx hb dL_law_514 rfl (lv_at hl 1 rfl) ?_
  refine lv_iconst (v := (2 : Int32)) hx hb dL_law_515 (by decide) ?_
  refine a_new X.1 (dr_an hs0 hAn) hG (N := 2) (by decide) (by decide) (Nat.le_of_ble_eq_true rfl) (Nat.le_of_ble_eq_true rfl) (Nat.le_of_ble_eq_true rfl) dL_law_516 (fun q H hG => ?_)
  refine lv_dup hx hb dL_law_518 rfl ?_
  refine lv_iconst (v := (0 : Int32)) hx hb dL_law_519 (by decide) ?_
  refine lv_bipush (v := (8 : Int32)) hx hb dL_law_520 (by decide) ?_
  refine a_ast X.1 hG (by unfold vp_in; decide) dL_law_522 (fun H locs hG => ?_)
  refine lv_dup hx hb dL_law_523 rfl ?_
  refine lv_iconst (v := (1 : Int32)) hx hb dL_law_524 (by decide) ?_
  refine lv_iconst (v := (0 : Int32)) hx hb dL_law_525 (by decide) ?_
  refine a_ast X.1 hG (by unfold vp_in; decide) dL_law_526 (fun H locs hG => ?_)
  refine a_are X.1 hG hA0 mw1012 ⟨Nat.le_of_ble_eq_true rfl, Nat.le_of_ble_eq_true rfl⟩ hl.1 (Nat.le_of_ble_eq_true rfl) ⟨Nat.le_of_ble_eq_true rfl, Nat.le_of_ble_eq_true rfl⟩ dL_law_527 hM (fun σ57 r58 H locs hG hM => ?_)
  refine lv_if_eq (tgt := 590) hx hb dL_law_530 (by decide) (fun c176 => ?_) (fun c176 => ?_)
  · have hM := b_if hM c176
    cases hM
  · have hM := b_else hM c176
    refine lv_aload_n hx hb dL_law_533 rfl (lv_at hl 1 rfl) ?_
    refine lv_iconst (v := (1 : Int32)) hx hb dL_law_534 (by decide) ?_
    refine lv_iconst (v := (2 : Int32)) hx hb dL_law_535 (by decide) ?_
    refine g_callV_i (nA := 2) (o := M_X10_crewOf σ57 a0 (1 : Int32) (2 : Int32)) (As := [.int (1 : Int32), .int (2 : Int32)]) X.1 hG hA0 rfl rfl (fun _ _ h => C_X10_crewOf l E h hA0) mw911 mw912 mw913 mw12 (gw_ok mw914 rfl) (by decide +kernel) rfl ⟨Nat.le_of_ble_eq_true rfl, Nat.le_of_ble_eq_true rfl⟩ hl.1 rfl (Nat.le_of_ble_eq_true rfl) ⟨Nat.le_of_ble_eq_true rfl, Nat.le_of_ble_eq_true rfl⟩ dL_law_536 hM (fun σ59 r60 H locs hG hM => ?_)
    refine lv_iconst (v := (1 : Int32)) hx hb dL_law_539 (by decide) ?_
    refine lv_icmp_ne (tgt := 590) hx hb dL_law_540 (by decide) (fun c175 => ?_) (fun c175 => ?_)
    · have hM := b_else hM c175
      cases hM
    · have hM := b_if hM c175
      refine lv_aload_n hx hb dL_law_543 rfl (lv_at hl 1 rfl) ?_
      refine lv_iconst (v := (2 : Int32)) hx hb dL_law_544 (by decide) ?_
      refine lv_iconst (v := (2 : Int32)) hx hb dL_law_545 (by decide) ?_
      refine g_callV_i (nA := 2) (o := M_X10_crewOf σ59 a0 (2 : Int32) (2 : Int32)) (As := [.int (2 : Int32), .int (2 : Int32)]) X.1 hG hA0 rfl rfl (fun _ _ h => C_X10_crewOf l E h hA0) mw911 mw912 mw913 mw12 (gw_ok mw914 rfl) (by decide +kernel) rfl ⟨Nat.le_of_ble_eq_true rfl, Nat.le_of_ble_eq_true rfl⟩ hl.1 rfl (Nat.le_of_ble_eq_true rfl) ⟨Nat.le_of_ble_eq_true rfl, Nat.le_of_ble_eq_true rfl⟩ dL_law_546 hM (fun σ61 r62 H locs hG hM => ?_)
      refine lv_if_ne (tgt := 590) hx hb dL_law_549 (by decide) (fun c174 => ?_) (fun c174 => ?_)
      · have hM := b_else hM c174
        cases hM
      · have hM := b_if hM c174
        refine lv_aload_n hx hb dL_law_552 rfl (lv_at hl 1 rfl) ?_
        refine lv_iconst (v := (1 : Int32)) hx hb dL_law_553 (by decide) ?_
        refine g_callV_i (nA := 1) (o := M_X10_day σ61 a0 (1 : Int32)) (As := [.int (1 : Int32)]) X.1 hG hA0 rfl rfl (fun _ _ h => C_X10_day l E h hA0) mw661 mw662 mw663 mw12 (gw_ok mw664 rfl) (by decide +kernel) rfl ⟨Nat.le_of_ble_eq_true rfl, Nat.le_of_ble_eq_true rfl⟩ hl.1 rfl (Nat.le_of_ble_eq_true rfl) ⟨Nat.le_of_ble_eq_true rfl, Nat.le_of_ble_eq_true rfl⟩ dL_law_554 hM (fun σ63 r64 H locs hG hM => ?_)
        refine lv_if_ne (tgt := 590) hx hb dL_law_557 (by decide) (fun c173 => ?_) (fun c173 => ?_)
        · have hM := b_else hM c173
          cases hM
        · have hM := b_if hM c173
          refine lv_aload_n hx hb dL_law_560 rfl (lv_at hl 1 rfl) ?_
          refine lv_bipush (v := (9 : Int32)) hx hb dL_law_561 (by decide) ?_
          refine lv_iconst (v := (3 : Int32)) hx hb dL_law_563 (by decide) ?_
          refine g_callV_i (nA := 2) (o := M_X10_storeyOf σ63 a0 (9 : Int32) (3 : Int32)) (As := [.int (9 : Int32), .int (3 : Int32)]) X.1 hG hA0 rfl rfl (fun _ _ h => C_X10_storeyOf l E h hA0) mw865 mw866 mw867 mw12 (gw_ok mw868 rfl) (by decide +kernel) rfl ⟨Nat.le_of_ble_eq_true rfl, Nat.le_of_ble_eq_true rfl⟩ hl.1 rfl (Nat.le_of_ble_eq_true rfl) ⟨Nat.le_of_ble_eq_true rfl, Nat.le_of_ble_eq_true rfl⟩ dL_law_564 hM (fun σ65 r66 H locs hG hM => ?_)
          refine lv_bipush (v := (32 : Int32)) hx hb dL_law_567 (by decide) ?_
          refine lv_icmp_ne (tgt := 590) hx hb dL_law_569 (by decide) (fun c172 => ?_) (fun c172 => ?_)
          · have hM := b_else hM c172
            cases hM
          · have hM := b_if hM c172
            refine lv_aload_n hx hb dL_law_572 rfl (lv_at hl 1 rfl) ?_
            refine lv_iconst (v := (2 : Int32)) hx hb dL_law_573 (by decide) ?_
            refine lv_iconst (v := (3 : Int32)) hx hb dL_law_574 (by decide) ?_
            refine g_callV_i (nA := 2) (o := M_X10_crewOf σ65 a0 (2 : Int32) (3 : Int32)) (As := [.int (2 : Int32), .int (3 : Int32)]) X.1 hG hA0 rfl rfl (fun _ _ h => C_X10_crewOf l E h hA0) mw911 mw912 mw913 mw12 (gw_ok mw914 rfl) (by decide +kernel) rfl ⟨Nat.le_of_ble_eq_true rfl, Nat.le_of_ble_eq_true rfl⟩ hl.1 rfl (Nat.le_of_ble_eq_true rfl) ⟨Nat.le_of_ble_eq_true rfl, Nat.le_of_ble_eq_true rfl⟩ dL_law_575 hM (fun σ67 r68 H locs hG hM => ?_)
            refine lv_if_ne (tgt := 590) hx hb dL_law_578 (by decide) (fun c171 => ?_) (fun c171 => ?_)
            · have hM := b_else hM c171
              cases hM
            · have hM := b_if hM c171
              refine lv_aload_n hx hb dL_law_581 rfl (lv_at hl 1 rfl) ?_
              refine g_ldcS X.1 (i := 15) (by decide) rfl rfl dL_law_582 ?_
              refine g_callS_i (nA := 2) (o := M_L_isLine σ67 a0 15) (As := [.ref (E.1 a0), .ref (eK E 15)]) X.1 hG (fun _ _ h => C_L_isLine l E h hA0 (okS_of (show 15 < 16 by decide))) mw1023 mw1024 mw11 (gw_ok mw1025 rfl) (by decide +kernel) rfl ⟨Nat.le_of_ble_eq_true rfl, Nat.le_of_ble_eq_true rfl⟩ hl.1 rfl (Nat.le_of_ble_eq_true rfl) ⟨Nat.le_of_ble_eq_true rfl, Nat.le_of_ble_eq_true rfl⟩ dL_law_584 hM (fun σ69 r70 H locs hG hM => ?_)
              refine lv_if_ne (tgt := 592) hx hb dL_law_587 (by decide) (fun c170 => ?_) (fun c170 => ?_)
              · have hM := b_else hM c170
                refine lv_aload_n hx hb dL_law_592 rfl (lv_at hl 1 rfl) ?_
                refine lv_bipush (v := (10 : Int32)) hx hb dL_law_593 (by decide) ?_
                refine g_callV_i (nA := 1) (o := M_X10_day σ69 a0 (10 : Int32)) (As := [.int (10 : Int32)]) X.1 hG hA0 rfl rfl (fun _ _ h => C_X10_day l E h hA0) mw661 mw662 mw663 mw12 (gw_ok mw664 rfl) (by decide +kernel) rfl ⟨Nat.le_of_ble_eq_true rfl, Nat.le_of_ble_eq_true rfl⟩ hl.1 rfl (Nat.le_of_ble_eq_true rfl) ⟨Nat.le_of_ble_eq_true rfl, Nat.le_of_ble_eq_true rfl⟩ dL_law_595 hM (fun σ71 r72 H locs hG hM => ?_)
                refine lv_if_ne (tgt := 761) hx hb dL_law_598 (by decide) (fun c169 => ?_) (fun c169 => ?_)
                · have hM := b_else hM c169
                  cases hM
                · have hM := b_if hM c169
                  refine lv_aload_n hx hb dL_law_601 rfl (lv_at hl 1 rfl) ?_
                  refine lv_iconst (v := (1 : Int32)) hx hb dL_law_602 (by decide) ?_
                  refine lv_bipush (v := (9 : Int32)) hx hb dL_law_603 (by decide) ?_
                  refine g_callV_i (nA := 2) (o := M_X10_inspect σ71 a0 (1 : Int32) (9 : Int32)) (As := [.int (1 : Int32), .int (9 : Int32)]) X.1 hG hA0 rfl rfl (fun _ _ h => C_X10_inspect l E h hA0) mw624 mw625 mw626 mw12 (gw_ok mw627 rfl) (by decide +kernel) rfl ⟨Nat.le_of_ble_eq_true rfl, Nat.le_of_ble_eq_true rfl⟩ hl.1 rfl (Nat.le_of_ble_eq_true rfl) ⟨Nat.le_of_ble_eq_true rfl, Nat.le_of_ble_eq_true rfl⟩ dL_law_605 hM (fun σ73 r74 H locs hG hM => ?_)
                  refine lv_if_ne (tgt := 761) hx hb dL_law_608 (by decide) (fun c168 => ?_) (fun c168 => ?_)
                  · have hM := b_else hM c168
                    cases hM
                  · have hM := b_if hM c168
                    refine lv_aload_n hx hb dL_law_611 rfl (lv_at hl 1 rfl) ?_
                    refine lv_iconst (v := (1 : Int32)) hx hb dL_law_612 (by decide) ?_
                    refine g_callV_i (nA := 1) (o := M_X10_day σ73 a0 (1 : Int32)) (As := [.int (1 : Int32)]) X.1 hG hA0 rfl rfl (fun _ _ h => C_X10_day l E h hA0) mw661 mw662 mw663 mw12 (gw_ok mw664 rfl) (by decide +kernel) rfl ⟨Nat.le_of_ble_eq_true rfl, Nat.le_of_ble_eq_true rfl⟩ hl.1 rfl (Nat.le_of_ble_eq_true rfl) ⟨Nat.le_of_ble_eq_true rfl, Nat.le_of_ble_eq_true rfl⟩ dL_law_613 hM (fun σ75 r76 H locs hG hM => ?_)
                    refine lv_if_ne (tgt := 761) hx hb dL_law_616 (by decide) (fun c167 => ?_) (fun c167 => ?_)
                    · have hM := b_else hM c167
                      cases hM
                    · have hM := b_if hM c167
                      refine lv_aload_n hx hb dL_law_619 rfl (lv_at hl 1 rfl) ?_
                      refine lv_iconst (v := (1 : Int32)) hx hb dL_law_620 (by decide) ?_
                      refine lv_bipush (v := (9 : Int32)) hx hb dL_law_621 (by decide) ?_
                      refine g_callV_i (nA := 2) (o := M_X10_inspect σ75 a0 (1 : Int32) (9 : Int32)) (As := [.int (1 : Int32), .int (9 : Int32)]) X.1 hG hA0 rfl rfl (fun _ _ h => C_X10_inspect l E h hA0) mw624 mw625 mw626 mw12 (gw_ok mw627 rfl) (by decide +kernel) rfl ⟨Nat.le_of_ble_eq_true rfl, Nat.le_of_ble_eq_true rfl⟩ hl.1 rfl (Nat.le_of_ble_eq_true rfl) ⟨Nat.le_of_ble_eq_true rfl, Nat.le_of_ble_eq_true rfl⟩ dL_law_623 hM (fun σ77 r78 H locs hG hM => ?_)
                      refine lv_iconst (v := (1 : Int32)) hx hb dL_law_626 (by decide) ?_
                      refine lv_icmp_ne (tgt := 761) hx hb dL_law_627 (by decide) (fun c166 => ?_) (fun c166 => ?_)
                      · have hM := b_else hM c166
                        cases hM
                      · have hM := b_if hM c166
                        refine lv_aload_n hx hb dL_law_630 rfl (lv_at hl 1 rfl) ?_
                        refine lv_bipush (v := (8 : Int32)) hx hb dL_law_631 (by decide) ?_
                        refine g_callV_i (nA := 1) (o := M_X10_account σ77 a0 (8 : Int32)) (As := [.int (8 : Int32)]) X.1 hG hA0 rfl rfl (fun _ _ h => C_X10_account l E h hA0) mw959 mw960 mw961 mw12 (gw_ok mw962 rfl) (by decide +kernel) rfl ⟨Nat.le_of_ble_eq_true rfl, Nat.le_of_ble_eq_true rfl⟩ hl.1 rfl (Nat.le_of_ble_eq_true rfl) ⟨Nat.le_of_ble_eq_true rfl, Nat.le_of_ble_eq_true rfl⟩ dL_law_633 hM (fun σ79 r80 H locs hG hM => ?_)
                        refine lv_if_ne (tgt := 761) hx hb dL_law_636 (by decide) (fun c165 => ?_) (fun c165 => ?_)
                        · have hM := b_else hM c165
                          cases hM
                        · have hM := b_if hM c165
                          refine lv_aload_n hx hb dL_law_639 rfl (lv_at hl 1 rfl) ?_
                          refine lv_bipush (v := (13 : Int32)) hx hb dL_law_640 (by decide) ?_
                          refine g_callV_i (nA := 1) (o := M_X10_account σ79 a0 (13 : Int32)) (As := [.int (13 : Int32)]) X.1 hG hA0 rfl rfl (fun _ _ h => C_X10_account l E h hA0) mw959 mw960 mw961 mw12 (gw_ok mw962 rfl) (by decide +kernel) rfl ⟨Nat.le_of_ble_eq_true rfl, Nat.le_of_ble_eq_true rfl⟩ hl.1 rfl (Nat.le_of_ble_eq_true rfl) ⟨Nat.le_of_ble_eq_true rfl, Nat.le_of_ble_eq_true rfl⟩ dL_law_642 hM (fun σ81 r82 H locs hG hM => ?_)
                          refine lv_bipush (v := (9 : Int32)) hx hb dL_law_645 (by decide) ?_
                          refine lv_icmp_ne (tgt := 761) hx hb dL_law_647 (by decide) (fun c164 => ?_) (fun c164 => ?_)
                          · have hM := b_else hM c164
                            cases hM
                          · have hM := b_if hM c164
                            refine lv_aload_n hx hb dL_law_650 rfl (lv_at hl 1 rfl) ?_
                            refine lv_iconst (v := (0 : Int32)) hx hb dL_law_651 (by decide) ?_
                            refine lv_bipush (v := (9 : Int32)) hx hb dL_law_652 (by decide) ?_
                            refine g_callV_i (nA := 2) (o := M_X10_inspect σ81 a0 (0 : Int32) (9 : Int32)) (As := [.int (0 : Int32), .int (9 : Int32)]) X.1 hG hA0 rfl rfl (fun _ _ h => C_X10_inspect l E h hA0) mw624 mw625 mw626 mw12 (gw_ok mw627 rfl) (by decide +kernel) rfl ⟨Nat.le_of_ble_eq_true rfl, Nat.le_of_ble_eq_true rfl⟩ hl.1 rfl (Nat.le_of_ble_eq_true rfl) ⟨Nat.le_of_ble_eq_true rfl, Nat.le_of_ble_eq_true rfl⟩ dL_law_654 hM (fun σ83 r84 H locs hG hM => ?_)
                            refine lv_iconst (v := (1 : Int32)) hx hb dL_law_657 (by decide) ?_
                            refine lv_icmp_ne (tgt := 761) hx hb dL_law_658 (by decide) (fun c163 => ?_) (fun c163 => ?_)
                            · have hM := b_else hM c163
                              cases hM
                            · have hM := b_if hM c163
                              exact w_LE_661 X hs0 hAn hA0 hw KX σ83 _ _ _ z hKX hG (lv_sub hl [0, 1] rfl) hM
              · have hM := b_if hM c170
                cases hM
set_option maxRecDepth 20000 in
set_option maxHeartbeats 4000000 in
theorem w_LE_435 {p : Program} {l : Launch} {e : Env} {s : State} {m : MethodId} {below : List Frame} {meth : Method} {c : Code} {args : Array Value} {E : Ev} {s0 : State} {Q : State → Prop} {jx : Nat} {a0 : Nat} {w : (Nat × (Nat → Int32))} (X : Bx E p m meth c cL_law 11 (some .boolean) s args RL) (hs0 : Dr s0 s) (hAn : ∀ q, s0.heap.size ≤ q → AE E q) (hA0 : lay 10 a0) (hw : jx < nX E ∧ (eX E jx).2 = w) (KX : St → Option (St × Int32)) : ∀ (n : Nat) (σ : St) (x2 : Int32) (H : Heap) (locs : List Loc) (ls : Array Slot) (z : St × Int32) (hKX : ∀ (s : State) (X : Bx E p m meth c cL_law 11 (some .boolean) s args RL) (hs0 : Dr s0 s) (σ : St) (H : Heap) (locs : List Loc) (ls : Array Slot), GS E σ s.heap H locs → lv_has ls 11 [(0, .ref (eX E jx).1)] → KX σ = some z → W p l e room_1 s m args below meth c H locs (256) (2064) Q (F0 m 942 ls [])), GS E σ s.heap H locs → lv_has ls 11 [(0, .ref (eX E jx).1), (1, .ref (E.1 a0)), (2, .int x2)] → B_LE_435 KX n σ a0 w x2 = some z → W p l e room_1 s m args below meth c H locs (252) (2054) Q (F0 m 435 ls []) := by
  have hx := X.1.1.1
  have hb := X.1.1.2.1
  intro n
  induction n with
  | zero => intro σ x2 H locs ls z hKX hG hl hM; cases hM
  | succ n ih0 =>
    intro σ x2 H locs ls z hKX hG hl hM
    unfold B_LE_435 at hM
    refine lv_iload_n hx hb dL_law_435 rfl (lv_at hl 2 rfl) ?_
    refine lv_iconst (v := (5 : Int32)) hx hb dL_law_436 (by decide) ?_
    refine lv_icmp_ge (tgt := 461) hx hb dL_law_437 (by decide) (fun c185 => ?_) (fun c185 => ?_)
    · have hM := b_if hM c185
      refine lv_aload_n hx hb dL_law_461 rfl (lv_at hl 1 rfl) ?_
      refine lv_iconst (v := (0 : Int32)) hx hb dL_law_462 (by decide) ?_
      refine lv_bipush (v := (9 : Int32)) hx hb dL_law_463 (by decide) ?_
      refine g_callV_i (nA := 2) (o := M_X10_up σ a0 (0 : Int32) (9 : Int32)) (As := [.int (0 : Int32), .int (9 : Int32)]) X.1 hG hA0 rfl rfl (fun _ _ h => C_X10_up l E h hA0) mw510 mw511 mw512 mw12 (gw_ok mw513 rfl) (by decide +kernel) rfl ⟨Nat.le_of_ble_eq_true rfl, Nat.le_of_ble_eq_true rfl⟩ hl.1 rfl (Nat.le_of_ble_eq_true rfl) ⟨Nat.le_of_ble_eq_true rfl, Nat.le_of_ble_eq_true rfl⟩ dL_law_465 hM (fun σ49 r50 H locs hG hM => ?_)
      refine lv_bipush (v := (-3 : Int32)) hx hb dL_law_468 (by decide) ?_
      refine lv_icmp_ne (tgt := 590) hx hb dL_law_470 (by decide) (fun c180 => ?_) (fun c180 => ?_)
      · have hM := b_else hM c180
        cases hM
      · have hM := b_if hM c180
        refine lv_aload_n hx hb dL_law_473 rfl (lv_at hl 1 rfl) ?_
        refine lv_iconst (v := (2 : Int32)) hx hb dL_law_474 (by decide) ?_
        refine a_new X.1 (dr_an hs0 hAn) hG (N := 2) (by decide) (by decide) (Nat.le_of_ble_eq_true rfl) (Nat.le_of_ble_eq_true rfl) (Nat.le_of_ble_eq_true rfl) dL_law_475 (fun q H hG => ?_)
        refine lv_dup hx hb dL_law_477 rfl ?_
        refine lv_iconst (v := (0 : Int32)) hx hb dL_law_478 (by decide) ?_
        refine lv_bipush (v := (7 : Int32)) hx hb dL_law_479 (by decide) ?_
        refine a_ast X.1 hG (by unfold vp_in; decide) dL_law_481 (fun H locs hG => ?_)
        refine lv_dup hx hb dL_law_482 rfl ?_
        refine lv_iconst (v := (1 : Int32)) hx hb dL_law_483 (by decide) ?_
        refine lv_bipush (v := (9 : Int32)) hx hb dL_law_484 (by decide) ?_
        refine a_ast X.1 hG (by unfold vp_in; decide) dL_law_486 (fun H locs hG => ?_)
        refine a_are X.1 hG hA0 mw1012 ⟨Nat.le_of_ble_eq_true rfl, Nat.le_of_ble_eq_true rfl⟩ hl.1 (Nat.le_of_ble_eq_true rfl) ⟨Nat.le_of_ble_eq_true rfl, Nat.le_of_ble_eq_true rfl⟩ dL_law_487 hM (fun σ51 r52 H locs hG hM => ?_)
        refine lv_if_eq (tgt := 590) hx hb dL_law_490 (by decide) (fun c179 => ?_) (fun c179 => ?_)
        · have hM := b_if hM c179
          cases hM
        · have hM := b_else hM c179
          refine lv_aload_n hx hb dL_law_493 rfl (lv_at hl 1 rfl) ?_
          refine lv_bipush (v := (9 : Int32)) hx hb dL_law_494 (by decide) ?_
          refine lv_iconst (v := (2 : Int32)) hx hb dL_law_496 (by decide) ?_
          refine g_callV_i (nA := 2) (o := M_X10_lift σ51 a0 (9 : Int32) (2 : Int32)) (As := [.int (9 : Int32), .int (2 : Int32)]) X.1 hG hA0 rfl rfl (fun _ _ h => C_X10_lift l E h hA0) mw581 mw582 mw583 mw12 (gw_ok mw584 rfl) (by decide +kernel) rfl ⟨Nat.le_of_ble_eq_true rfl, Nat.le_of_ble_eq_true rfl⟩ hl.1 rfl (Nat.le_of_ble_eq_true rfl) ⟨Nat.le_of_ble_eq_true rfl, Nat.le_of_ble_eq_true rfl⟩ dL_law_497 hM (fun σ53 r54 H locs hG hM => ?_)
          refine lv_if_ne (tgt := 590) hx hb dL_law_500 (by decide) (fun c178 => ?_) (fun c178 => ?_)
          · have hM := b_else hM c178
            cases hM
          · have hM := b_if hM c178
            refine lv_aload_n hx hb dL_law_503 rfl (lv_at hl 1 rfl) ?_
            refine lv_iconst (v := (0 : Int32)) hx hb dL_law_504 (by decide) ?_
            refine lv_iconst (v := (1 : Int32)) hx hb dL_law_505 (by decide) ?_
            refine g_callV_i (nA := 2) (o := M_X10_lift σ53 a0 (0 : Int32) (1 : Int32)) (As := [.int (0 : Int32), .int (1 : Int32)]) X.1 hG hA0 rfl rfl (fun _ _ h => C_X10_lift l E h hA0) mw581 mw582 mw583 mw12 (gw_ok mw584 rfl) (by decide +kernel) rfl ⟨Nat.le_of_ble_eq_true rfl, Nat.le_of_ble_eq_true rfl⟩ hl.1 rfl (Nat.le_of_ble_eq_true rfl) ⟨Nat.le_of_ble_eq_true rfl, Nat.le_of_ble_eq_true rfl⟩ dL_law_506 hM (fun σ55 r56 H locs hG hM => ?_)
            refine lv_bipush (v := (-3 : Int32)) hx hb dL_law_509 (by decide) ?_
            refine lv_icmp_ne (tgt := 590) hx hb dL_law_511 (by decide) (fun c177 => ?_) (fun c177 => ?_)
            · have hM := b_else hM c177
              cases hM
            · have hM := b_if hM c177
              exact w_LE_514 X hs0 hAn hA0 hw KX σ55 _ _ _ z hKX hG (lv_sub hl [0, 1] rfl) hM
    · have hM := b_else hM c185
      refine lv_aload_n hx hb dL_law_440 rfl (lv_at hl 1 rfl) ?_
      refine lv_iload_n hx hb dL_law_441 rfl (lv_at hl 2 rfl) ?_
      refine lv_bipush (v := (9 : Int32)) hx hb dL_law_442 (by decide) ?_
      refine g_callV_i (nA := 2) (o := M_X10_up σ a0 x2 (9 : Int32)) (As := [.int x2, .int (9 : Int32)]) X.1 hG hA0 rfl rfl (fun _ _ h => C_X10_up l E h hA0) mw510 mw511 mw512 mw12 (gw_ok mw513 rfl) (by decide +kernel) rfl ⟨Nat.le_of_ble_eq_true rfl, Nat.le_of_ble_eq_true rfl⟩ hl.1 rfl (Nat.le_of_ble_eq_true rfl) ⟨Nat.le_of_ble_eq_true rfl, Nat.le_of_ble_eq_true rfl⟩ dL_law_444 hM (fun σ181 r182 H locs hG hM => ?_)
      refine lv_iload_n hx hb dL_law_447 rfl (lv_at hl 2 rfl) ?_
      refine lv_iconst (v := (1 : Int32)) hx hb dL_law_448 (by decide) ?_
      refine lv_iadd hx hb dL_law_449 ?_
      refine lv_icmp_eq (tgt := 455) hx hb dL_law_450 (by decide) (fun c184 => ?_) (fun c184 => ?_)
      · have hM := b_if hM c184
        obtain ⟨v183, ev183, hM⟩ := g_nm hM
        refine lv_iinc (v := v183) (lv' := [(2, .int v183), (0, .ref (eX E jx).1), (1, .ref (E.1 a0))]) hx hb dL_law_455 hl (k := 2) rfl (by rw [ev183]; rfl) (by decide) rfl (fun ls hl => ?_)
        refine lv_goto (tgt := 435) hx hb dL_law_458 (by decide) ?_
        exact ih0 σ181 v183 _ _ _ z hKX hG (lv_sub hl [1, 2, 0] rfl) hM
      · have hM := b_else hM c184
        cases hM
set_option maxRecDepth 20000 in
set_option maxHeartbeats 4000000 in
theorem w_LE_398 {p : Program} {l : Launch} {e : Env} {s : State} {m : MethodId} {below : List Frame} {meth : Method} {c : Code} {args : Array Value} {E : Ev} {s0 : State} {Q : State → Prop} {jx : Nat} {a0 : Nat} {w : (Nat × (Nat → Int32))} (X : Bx E p m meth c cL_law 11 (some .boolean) s args RL) (hs0 : Dr s0 s) (hAn : ∀ q, s0.heap.size ≤ q → AE E q) (hA0 : lay 10 a0) (hw : jx < nX E ∧ (eX E jx).2 = w) (KX : St → Option (St × Int32)) : ∀ (σ : St) (H : Heap) (locs : List Loc) (ls : Array Slot) (z : St × Int32) (hKX : ∀ (s : State) (X : Bx E p m meth c cL_law 11 (some .boolean) s args RL) (hs0 : Dr s0 s) (σ : St) (H : Heap) (locs : List Loc) (ls : Array Slot), GS E σ s.heap H locs → lv_has ls 11 [(0, .ref (eX E jx).1)] → KX σ = some z → W p l e room_1 s m args below meth c H locs (256) (2064) Q (F0 m 942 ls [])), GS E σ s.heap H locs → lv_has ls 11 [(0, .ref (eX E jx).1), (1, .ref (E.1 a0))] → B_LE_398 KX σ a0 w = some z → W p l e room_1 s m args below meth c H locs (252) (2054) Q (F0 m 398 ls []) := by
  have hx := X.1.1.1
  have hb := X.1.1.2.1
  intro σ  H locs ls z hKX hG hl hM
  unfold B_LE_398 at hM
  refine lv_aload_n hx hb dL_law_398 rfl (lv_at hl 1 rfl) ?_
  refine lv_bipush (v := (18 : Int32)) hx hb dL_law_399 (by decide) ?_
  refine g_callV_i (nA := 1) (o := M_X10_account σ a0 (18 : Int32)) (As := [.int (18 : Int32)]) X.1 hG hA0 rfl rfl (fun _ _ h => C_X10_account l E h hA0) mw959 mw960 mw961 mw12 (gw_ok mw962 rfl) (by decide +kernel) rfl ⟨Nat.le_of_ble_eq_true rfl, Nat.le_of_ble_eq_true rfl⟩ hl.1 rfl (Nat.le_of_ble_eq_true rfl) ⟨Nat.le_of_ble_eq_true rfl, Nat.le_of_ble_eq_true rfl⟩ dL_law_401 hM (fun σ43 r44 H locs hG hM => ?_)
  refine lv_bipush (v := (8 : Int32)) hx hb dL_law_404 (by decide) ?_
  refine lv_icmp_ne (tgt := 431) hx hb dL_law_406 (by decide) (fun c188 => ?_) (fun c188 => ?_)
  · have hM := b_else hM c188
    cases hM
  · have hM := b_if hM c188
    refine lv_aload_n hx hb dL_law_409 rfl (lv_at hl 1 rfl) ?_
    refine lv_bipush (v := (9 : Int32)) hx hb dL_law_410 (by decide) ?_
    refine lv_iconst (v := (1 : Int32)) hx hb dL_law_412 (by decide) ?_
    refine g_callV_i (nA := 2) (o := M_X10_strength σ43 a0 (9 : Int32) (1 : Int32)) (As := [.int (9 : Int32), .int (1 : Int32)]) X.1 hG hA0 rfl rfl (fun _ _ h => C_X10_strength l E h hA0) mw880 mw881 mw882 mw12 (gw_ok mw883 rfl) (by decide +kernel) rfl ⟨Nat.le_of_ble_eq_true rfl, Nat.le_of_ble_eq_true rfl⟩ hl.1 rfl (Nat.le_of_ble_eq_true rfl) ⟨Nat.le_of_ble_eq_true rfl, Nat.le_of_ble_eq_true rfl⟩ dL_law_413 hM (fun σ45 r46 H locs hG hM => ?_)
    refine lv_bipush (v := (16 : Int32)) hx hb dL_law_416 (by decide) ?_
    refine lv_icmp_ne (tgt := 431) hx hb dL_law_418 (by decide) (fun c187 => ?_) (fun c187 => ?_)
    · have hM := b_else hM c187
      cases hM
    · have hM := b_if hM c187
      refine lv_aload_n hx hb dL_law_421 rfl (lv_at hl 1 rfl) ?_
      refine lv_iconst (v := (0 : Int32)) hx hb dL_law_422 (by decide) ?_
      refine g_callV_i (nA := 1) (o := M_X10_oldest σ45 a0 (0 : Int32)) (As := [.int (0 : Int32)]) X.1 hG hA0 rfl rfl (fun _ _ h => C_X10_oldest l E h hA0) mw899 mw900 mw901 mw12 (gw_ok mw902 rfl) (by decide +kernel) rfl ⟨Nat.le_of_ble_eq_true rfl, Nat.le_of_ble_eq_true rfl⟩ hl.1 rfl (Nat.le_of_ble_eq_true rfl) ⟨Nat.le_of_ble_eq_true rfl, Nat.le_of_ble_eq_true rfl⟩ dL_law_423 hM (fun σ47 r48 H locs hG hM => ?_)
      refine lv_bipush (v := (9 : Int32)) hx hb dL_law_426 (by decide) ?_
      refine lv_icmp_eq (tgt := 433) hx hb dL_law_428 (by decide) (fun c186 => ?_) (fun c186 => ?_)
      · have hM := b_if hM c186
        refine lv_iconst (v := (0 : Int32)) hx hb dL_law_433 (by decide) ?_
        refine lv_istore_n (lv' := [(2, .int (0 : Int32)), (0, .ref (eX E jx).1), (1, .ref (E.1 a0))]) hx hb dL_law_434 rfl hl (by decide) rfl (fun ls hl => ?_)
        exact w_LE_435 X hs0 hAn hA0 hw KX FU σ47 (0 : Int32) _ _ _ z hKX hG (lv_sub hl [1, 2, 0] rfl) hM
      · have hM := b_else hM c186
        cases hM
set_option maxRecDepth 20000 in
set_option maxHeartbeats 4000000 in
theorem w_LE_326 {p : Program} {l : Launch} {e : Env} {s : State} {m : MethodId} {below : List Frame} {meth : Method} {c : Code} {args : Array Value} {E : Ev} {s0 : State} {Q : State → Prop} {jx : Nat} {a0 : Nat} {w : (Nat × (Nat → Int32))} (X : Bx E p m meth c cL_law 11 (some .boolean) s args RL) (hs0 : Dr s0 s) (hAn : ∀ q, s0.heap.size ≤ q → AE E q) (hA0 : lay 10 a0) (hw : jx < nX E ∧ (eX E jx).2 = w) (KX : St → Option (St × Int32)) : ∀ (n : Nat) (σ : St) (x2 : Int32) (H : Heap) (locs : List Loc) (ls : Array Slot) (z : St × Int32) (hKX : ∀ (s : State) (X : Bx E p m meth c cL_law 11 (some .boolean) s args RL) (hs0 : Dr s0 s) (σ : St) (H : Heap) (locs : List Loc) (ls : Array Slot), GS E σ s.heap H locs → lv_has ls 11 [(0, .ref (eX E jx).1)] → KX σ = some z → W p l e room_1 s m args below meth c H locs (256) (2064) Q (F0 m 942 ls [])), GS E σ s.heap H locs → lv_has ls 11 [(0, .ref (eX E jx).1), (1, .ref (E.1 a0)), (2, .int x2)] → B_LE_326 KX n σ a0 w x2 = some z → W p l e room_1 s m args below meth c H locs (251) (2052) Q (F0 m 326 ls []) := by
  have hx := X.1.1.1
  have hb := X.1.1.2.1
  intro n
  induction n with
  | zero => intro σ x2 H locs ls z hKX hG hl hM; cases hM
  | succ n ih0 =>
    intro σ x2 H locs ls z hKX hG hl hM
    unfold B_LE_326 at hM
    refine lv_iload_n hx hb dL_law_326 rfl (lv_at hl 2 rfl) ?_
    refine lv_bipush (v := (10 : Int32)) hx hb dL_law_327 (by decide) ?_
    refine lv_icmp_ge (tgt := 356) hx hb dL_law_329 (by decide) (fun c196 => ?_) (fun c196 => ?_)
    · have hM := b_if hM c196
      refine lv_aload_n hx hb dL_law_356 rfl (lv_at hl 1 rfl) ?_
      refine lv_iconst (v := (0 : Int32)) hx hb dL_law_357 (by decide) ?_
      refine lv_iconst (v := (4 : Int32)) hx hb dL_law_358 (by decide) ?_
      refine lv_iconst (v := (0 : Int32)) hx hb dL_law_359 (by decide) ?_
      refine g_callV_i (nA := 3) (o := M_X10_build σ a0 (0 : Int32) (4 : Int32) (0 : Int32)) (As := [.int (0 : Int32), .int (4 : Int32), .int (0 : Int32)]) X.1 hG hA0 rfl rfl (fun _ _ h => C_X10_build l E h hA0) mw456 mw457 mw458 mw12 (gw_ok mw459 rfl) (by decide +kernel) rfl ⟨Nat.le_of_ble_eq_true rfl, Nat.le_of_ble_eq_true rfl⟩ hl.1 rfl (Nat.le_of_ble_eq_true rfl) ⟨Nat.le_of_ble_eq_true rfl, Nat.le_of_ble_eq_true rfl⟩ dL_law_360 hM (fun σ37 r38 H locs hG hM => ?_)
      refine lv_bipush (v := (-3 : Int32)) hx hb dL_law_363 (by decide) ?_
      refine lv_icmp_ne (tgt := 431) hx hb dL_law_365 (by decide) (fun c191 => ?_) (fun c191 => ?_)
      · have hM := b_else hM c191
        cases hM
      · have hM := b_if hM c191
        refine lv_aload_n hx hb dL_law_368 rfl (lv_at hl 1 rfl) ?_
        refine lv_iconst (v := (2 : Int32)) hx hb dL_law_369 (by decide) ?_
        refine a_new X.1 (dr_an hs0 hAn) hG (N := 2) (by decide) (by decide) (Nat.le_of_ble_eq_true rfl) (Nat.le_of_ble_eq_true rfl) (Nat.le_of_ble_eq_true rfl) dL_law_370 (fun q H hG => ?_)
        refine lv_dup hx hb dL_law_372 rfl ?_
        refine lv_iconst (v := (0 : Int32)) hx hb dL_law_373 (by decide) ?_
        refine lv_iconst (v := (1 : Int32)) hx hb dL_law_374 (by decide) ?_
        refine a_ast X.1 hG (by unfold vp_in; decide) dL_law_375 (fun H locs hG => ?_)
        refine lv_dup hx hb dL_law_376 rfl ?_
        refine lv_iconst (v := (1 : Int32)) hx hb dL_law_377 (by decide) ?_
        refine lv_bipush (v := (10 : Int32)) hx hb dL_law_378 (by decide) ?_
        refine a_ast X.1 hG (by unfold vp_in; decide) dL_law_380 (fun H locs hG => ?_)
        refine a_are X.1 hG hA0 mw1012 ⟨Nat.le_of_ble_eq_true rfl, Nat.le_of_ble_eq_true rfl⟩ hl.1 (Nat.le_of_ble_eq_true rfl) ⟨Nat.le_of_ble_eq_true rfl, Nat.le_of_ble_eq_true rfl⟩ dL_law_381 hM (fun σ39 r40 H locs hG hM => ?_)
        refine lv_if_eq (tgt := 431) hx hb dL_law_384 (by decide) (fun c190 => ?_) (fun c190 => ?_)
        · have hM := b_if hM c190
          cases hM
        · have hM := b_else hM c190
          refine lv_aload_n hx hb dL_law_387 rfl (lv_at hl 1 rfl) ?_
          refine lv_bipush (v := (9 : Int32)) hx hb dL_law_388 (by decide) ?_
          refine g_callV_i (nA := 1) (o := M_X10_account σ39 a0 (9 : Int32)) (As := [.int (9 : Int32)]) X.1 hG hA0 rfl rfl (fun _ _ h => C_X10_account l E h hA0) mw959 mw960 mw961 mw12 (gw_ok mw962 rfl) (by decide +kernel) rfl ⟨Nat.le_of_ble_eq_true rfl, Nat.le_of_ble_eq_true rfl⟩ hl.1 rfl (Nat.le_of_ble_eq_true rfl) ⟨Nat.le_of_ble_eq_true rfl, Nat.le_of_ble_eq_true rfl⟩ dL_law_390 hM (fun σ41 r42 H locs hG hM => ?_)
          refine lv_bipush (v := (40 : Int32)) hx hb dL_law_393 (by decide) ?_
          refine lv_icmp_ne (tgt := 431) hx hb dL_law_395 (by decide) (fun c189 => ?_) (fun c189 => ?_)
          · have hM := b_else hM c189
            cases hM
          · have hM := b_if hM c189
            exact w_LE_398 X hs0 hAn hA0 hw KX σ41 _ _ _ z hKX hG (lv_sub hl [0, 1] rfl) hM
    · have hM := b_else hM c196
      refine lv_aload_n hx hb dL_law_332 rfl (lv_at hl 1 rfl) ?_
      refine lv_iload_n hx hb dL_law_333 rfl (lv_at hl 2 rfl) ?_
      refine lv_bipush (v := (8 : Int32)) hx hb dL_law_334 (by decide) ?_
      refine lv_irem hx hb dL_law_336 (by decide) ?_
      refine lv_bipush (v := (8 : Int32)) hx hb dL_law_337 (by decide) ?_
      refine lv_bipush (v := (40 : Int32)) hx hb dL_law_339 (by decide) ?_
      refine g_callV_i (nA := 3) (o := M_X10_build σ a0 (x2 - x2 / (8 : Int32) * (8 : Int32)) (8 : Int32) (40 : Int32)) (As := [.int (x2 - x2 / (8 : Int32) * (8 : Int32)), .int (8 : Int32), .int (40 : Int32)]) X.1 hG hA0 rfl rfl (fun _ _ h => C_X10_build l E h hA0) mw456 mw457 mw458 mw12 (gw_ok mw459 rfl) (by decide +kernel) rfl ⟨Nat.le_of_ble_eq_true rfl, Nat.le_of_ble_eq_true rfl⟩ hl.1 rfl (Nat.le_of_ble_eq_true rfl) ⟨Nat.le_of_ble_eq_true rfl, Nat.le_of_ble_eq_true rfl⟩ dL_law_341 hM (fun σ192 r193 H locs hG hM => ?_)
      refine lv_iload_n hx hb dL_law_344 rfl (lv_at hl 2 rfl) ?_
      refine lv_icmp_eq (tgt := 350) hx hb dL_law_345 (by decide) (fun c195 => ?_) (fun c195 => ?_)
      · have hM := b_if hM c195
        obtain ⟨v194, ev194, hM⟩ := g_nm hM
        refine lv_iinc (v := v194) (lv' := [(2, .int v194), (0, .ref (eX E jx).1), (1, .ref (E.1 a0))]) hx hb dL_law_350 hl (k := 2) rfl (by rw [ev194]; rfl) (by decide) rfl (fun ls hl => ?_)
        refine lv_goto (tgt := 326) hx hb dL_law_353 (by decide) ?_
        exact ih0 σ192 v194 _ _ _ z hKX hG (lv_sub hl [1, 2, 0] rfl) hM
      · have hM := b_else hM c195
        cases hM
set_option maxRecDepth 20000 in
set_option maxHeartbeats 4000000 in
theorem w_LE_243 {p : Program} {l : Launch} {e : Env} {s : State} {m : MethodId} {below : List Frame} {meth : Method} {c : Code} {args : Array Value} {E : Ev} {s0 : State} {Q : State → Prop} {jx : Nat} {a0 : Nat} {w : (Nat × (Nat → Int32))} (X : Bx E p m meth c cL_law 11 (some .boolean) s args RL) (hs0 : Dr s0 s) (hAn : ∀ q, s0.heap.size ≤ q → AE E q) (hA0 : lay 10 a0) (hw : jx < nX E ∧ (eX E jx).2 = w) (KX : St → Option (St × Int32)) : ∀ (n : Nat) (σ : St) (x2 : Int32) (H : Heap) (locs : List Loc) (ls : Array Slot) (z : St × Int32) (hKX : ∀ (s : State) (X : Bx E p m meth c cL_law 11 (some .boolean) s args RL) (hs0 : Dr s0 s) (σ : St) (H : Heap) (locs : List Loc) (ls : Array Slot), GS E σ s.heap H locs → lv_has ls 11 [(0, .ref (eX E jx).1)] → KX σ = some z → W p l e room_1 s m args below meth c H locs (256) (2064) Q (F0 m 942 ls [])), GS E σ s.heap H locs → lv_has ls 11 [(0, .ref (eX E jx).1), (1, .ref (E.1 a0)), (2, .int x2)] → B_LE_243 KX n σ a0 w x2 = some z → W p l e room_1 s m args below meth c H locs (249) (2048) Q (F0 m 243 ls []) := by
  have hx := X.1.1.1
  have hb := X.1.1.2.1
  intro n
  induction n with
  | zero => intro σ x2 H locs ls z hKX hG hl hM; cases hM
  | succ n ih0 =>
    intro σ x2 H locs ls z hKX hG hl hM
    unfold B_LE_243 at hM
    refine lv_iload_n hx hb dL_law_243 rfl (lv_at hl 2 rfl) ?_
    refine lv_iconst (v := (3 : Int32)) hx hb dL_law_244 (by decide) ?_
    refine lv_icmp_ge (tgt := 266) hx hb dL_law_245 (by decide) (fun c205 => ?_) (fun c205 => ?_)
    · have hM := b_if hM c205
      refine lv_aload_n hx hb dL_law_266 rfl (lv_at hl 1 rfl) ?_
      refine lv_iconst (v := (1 : Int32)) hx hb dL_law_267 (by decide) ?_
      refine g_callV_i (nA := 1) (o := M_X10_crew σ a0 (1 : Int32)) (As := [.int (1 : Int32)]) X.1 hG hA0 rfl rfl (fun _ _ h => C_X10_crew l E h hA0) mw497 mw498 mw499 mw12 (gw_ok mw500 rfl) (by decide +kernel) rfl ⟨Nat.le_of_ble_eq_true rfl, Nat.le_of_ble_eq_true rfl⟩ hl.1 rfl (Nat.le_of_ble_eq_true rfl) ⟨Nat.le_of_ble_eq_true rfl, Nat.le_of_ble_eq_true rfl⟩ dL_law_268 hM (fun σ29 r30 H locs hG hM => ?_)
      refine lv_bipush (v := (-3 : Int32)) hx hb dL_law_271 (by decide) ?_
      refine lv_icmp_ne (tgt := 322) hx hb dL_law_273 (by decide) (fun c200 => ?_) (fun c200 => ?_)
      · have hM := b_else hM c200
        cases hM
      · have hM := b_if hM c200
        refine lv_aload_n hx hb dL_law_276 rfl (lv_at hl 1 rfl) ?_
        refine lv_iconst (v := (2 : Int32)) hx hb dL_law_277 (by decide) ?_
        refine a_new X.1 (dr_an hs0 hAn) hG (N := 2) (by decide) (by decide) (Nat.le_of_ble_eq_true rfl) (Nat.le_of_ble_eq_true rfl) (Nat.le_of_ble_eq_true rfl) dL_law_278 (fun q H hG => ?_)
        refine lv_dup hx hb dL_law_280 rfl ?_
        refine lv_iconst (v := (0 : Int32)) hx hb dL_law_281 (by decide) ?_
        refine lv_iconst (v := (1 : Int32)) hx hb dL_law_282 (by decide) ?_
        refine a_ast X.1 hG (by unfold vp_in; decide) dL_law_283 (fun H locs hG => ?_)
        refine lv_dup hx hb dL_law_284 rfl ?_
        refine lv_iconst (v := (1 : Int32)) hx hb dL_law_285 (by decide) ?_
        refine lv_iconst (v := (5 : Int32)) hx hb dL_law_286 (by decide) ?_
        refine a_ast X.1 hG (by unfold vp_in; decide) dL_law_287 (fun H locs hG => ?_)
        refine a_are X.1 hG hA0 mw1012 ⟨Nat.le_of_ble_eq_true rfl, Nat.le_of_ble_eq_true rfl⟩ hl.1 (Nat.le_of_ble_eq_true rfl) ⟨Nat.le_of_ble_eq_true rfl, Nat.le_of_ble_eq_true rfl⟩ dL_law_288 hM (fun σ31 r32 H locs hG hM => ?_)
        refine lv_if_eq (tgt := 322) hx hb dL_law_291 (by decide) (fun c199 => ?_) (fun c199 => ?_)
        · have hM := b_if hM c199
          cases hM
        · have hM := b_else hM c199
          refine lv_aload_n hx hb dL_law_294 rfl (lv_at hl 1 rfl) ?_
          refine lv_iconst (v := (1 : Int32)) hx hb dL_law_295 (by decide) ?_
          refine g_callV_i (nA := 1) (o := M_X10_inspector σ31 a0 (1 : Int32)) (As := [.int (1 : Int32)]) X.1 hG hA0 rfl rfl (fun _ _ h => C_X10_inspector l E h hA0) mw611 mw612 mw613 mw12 (gw_ok mw614 rfl) (by decide +kernel) rfl ⟨Nat.le_of_ble_eq_true rfl, Nat.le_of_ble_eq_true rfl⟩ hl.1 rfl (Nat.le_of_ble_eq_true rfl) ⟨Nat.le_of_ble_eq_true rfl, Nat.le_of_ble_eq_true rfl⟩ dL_law_296 hM (fun σ33 r34 H locs hG hM => ?_)
          refine lv_bipush (v := (-3 : Int32)) hx hb dL_law_299 (by decide) ?_
          refine lv_icmp_ne (tgt := 322) hx hb dL_law_301 (by decide) (fun c198 => ?_) (fun c198 => ?_)
          · have hM := b_else hM c198
            cases hM
          · have hM := b_if hM c198
            refine lv_aload_n hx hb dL_law_304 rfl (lv_at hl 1 rfl) ?_
            refine lv_iconst (v := (2 : Int32)) hx hb dL_law_305 (by decide) ?_
            refine a_new X.1 (dr_an hs0 hAn) hG (N := 2) (by decide) (by decide) (Nat.le_of_ble_eq_true rfl) (Nat.le_of_ble_eq_true rfl) (Nat.le_of_ble_eq_true rfl) dL_law_306 (fun q H hG => ?_)
            refine lv_dup hx hb dL_law_308 rfl ?_
            refine lv_iconst (v := (0 : Int32)) hx hb dL_law_309 (by decide) ?_
            refine lv_iconst (v := (1 : Int32)) hx hb dL_law_310 (by decide) ?_
            refine a_ast X.1 hG (by unfold vp_in; decide) dL_law_311 (fun H locs hG => ?_)
            refine lv_dup hx hb dL_law_312 rfl ?_
            refine lv_iconst (v := (1 : Int32)) hx hb dL_law_313 (by decide) ?_
            refine lv_iconst (v := (3 : Int32)) hx hb dL_law_314 (by decide) ?_
            refine a_ast X.1 hG (by unfold vp_in; decide) dL_law_315 (fun H locs hG => ?_)
            refine a_are X.1 hG hA0 mw1012 ⟨Nat.le_of_ble_eq_true rfl, Nat.le_of_ble_eq_true rfl⟩ hl.1 (Nat.le_of_ble_eq_true rfl) ⟨Nat.le_of_ble_eq_true rfl, Nat.le_of_ble_eq_true rfl⟩ dL_law_316 hM (fun σ35 r36 H locs hG hM => ?_)
            refine lv_if_ne (tgt := 324) hx hb dL_law_319 (by decide) (fun c197 => ?_) (fun c197 => ?_)
            · have hM := b_else hM c197
              refine lv_iconst (v := (0 : Int32)) hx hb dL_law_324 (by decide) ?_
              refine lv_istore_n (lv' := [(2, .int (0 : Int32)), (0, .ref (eX E jx).1), (1, .ref (E.1 a0))]) hx hb dL_law_325 rfl hl (by decide) rfl (fun ls hl => ?_)
              exact w_LE_326 X hs0 hAn hA0 hw KX FU σ35 (0 : Int32) _ _ _ z hKX hG (lv_sub hl [1, 2, 0] rfl) hM
            · have hM := b_if hM c197
              cases hM
    · have hM := b_else hM c205
      refine lv_aload_n hx hb dL_law_248 rfl (lv_at hl 1 rfl) ?_
      refine lv_bipush (v := (9 : Int32)) hx hb dL_law_249 (by decide) ?_
      refine g_callV_i (nA := 1) (o := M_X10_inspector σ a0 (9 : Int32)) (As := [.int (9 : Int32)]) X.1 hG hA0 rfl rfl (fun _ _ h => C_X10_inspector l E h hA0) mw611 mw612 mw613 mw12 (gw_ok mw614 rfl) (by decide +kernel) rfl ⟨Nat.le_of_ble_eq_true rfl, Nat.le_of_ble_eq_true rfl⟩ hl.1 rfl (Nat.le_of_ble_eq_true rfl) ⟨Nat.le_of_ble_eq_true rfl, Nat.le_of_ble_eq_true rfl⟩ dL_law_251 hM (fun σ201 r202 H locs hG hM => ?_)
      refine lv_iload_n hx hb dL_law_254 rfl (lv_at hl 2 rfl) ?_
      refine lv_icmp_eq (tgt := 260) hx hb dL_law_255 (by decide) (fun c204 => ?_) (fun c204 => ?_)
      · have hM := b_if hM c204
        obtain ⟨v203, ev203, hM⟩ := g_nm hM
        refine lv_iinc (v := v203) (lv' := [(2, .int v203), (0, .ref (eX E jx).1), (1, .ref (E.1 a0))]) hx hb dL_law_260 hl (k := 2) rfl (by rw [ev203]; rfl) (by decide) rfl (fun ls hl => ?_)
        refine lv_goto (tgt := 243) hx hb dL_law_263 (by decide) ?_
        exact ih0 σ201 v203 _ _ _ z hKX hG (lv_sub hl [1, 2, 0] rfl) hM
      · have hM := b_else hM c204
        cases hM
set_option maxRecDepth 20000 in
set_option maxHeartbeats 4000000 in
theorem w_LE_219 {p : Program} {l : Launch} {e : Env} {s : State} {m : MethodId} {below : List Frame} {meth : Method} {c : Code} {args : Array Value} {E : Ev} {s0 : State} {Q : State → Prop} {jx : Nat} {a0 : Nat} {w : (Nat × (Nat → Int32))} (X : Bx E p m meth c cL_law 11 (some .boolean) s args RL) (hs0 : Dr s0 s) (hAn : ∀ q, s0.heap.size ≤ q → AE E q) (hA0 : lay 10 a0) (hw : jx < nX E ∧ (eX E jx).2 = w) (KX : St → Option (St × Int32)) : ∀ (n : Nat) (σ : St) (x2 : Int32) (H : Heap) (locs : List Loc) (ls : Array Slot) (z : St × Int32) (hKX : ∀ (s : State) (X : Bx E p m meth c cL_law 11 (some .boolean) s args RL) (hs0 : Dr s0 s) (σ : St) (H : Heap) (locs : List Loc) (ls : Array Slot), GS E σ s.heap H locs → lv_has ls 11 [(0, .ref (eX E jx).1)] → KX σ = some z → W p l e room_1 s m args below meth c H locs (256) (2064) Q (F0 m 942 ls [])), GS E σ s.heap H locs → lv_has ls 11 [(0, .ref (eX E jx).1), (1, .ref (E.1 a0)), (2, .int x2)] → B_LE_219 KX n σ a0 w x2 = some z → W p l e room_1 s m args below meth c H locs (249) (2048) Q (F0 m 219 ls []) := by
  have hx := X.1.1.1
  have hb := X.1.1.2.1
  intro n
  induction n with
  | zero => intro σ x2 H locs ls z hKX hG hl hM; cases hM
  | succ n ih0 =>
    intro σ x2 H locs ls z hKX hG hl hM
    unfold B_LE_219 at hM
    refine lv_iload_n hx hb dL_law_219 rfl (lv_at hl 2 rfl) ?_
    refine lv_iconst (v := (5 : Int32)) hx hb dL_law_220 (by decide) ?_
    refine lv_icmp_ge (tgt := 241) hx hb dL_law_221 (by decide) (fun c210 => ?_) (fun c210 => ?_)
    · have hM := b_if hM c210
      refine lv_iconst (v := (0 : Int32)) hx hb dL_law_241 (by decide) ?_
      refine lv_istore_n (lv' := [(2, .int (0 : Int32)), (0, .ref (eX E jx).1), (1, .ref (E.1 a0))]) hx hb dL_law_242 rfl hl (by decide) rfl (fun ls hl => ?_)
      exact w_LE_243 X hs0 hAn hA0 hw KX FU σ (0 : Int32) _ _ _ z hKX hG (lv_sub hl [1, 2, 0] rfl) hM
    · have hM := b_else hM c210
      refine lv_aload_n hx hb dL_law_224 rfl (lv_at hl 1 rfl) ?_
      refine lv_iconst (v := (4 : Int32)) hx hb dL_law_225 (by decide) ?_
      refine g_callV_i (nA := 1) (o := M_X10_crew σ a0 (4 : Int32)) (As := [.int (4 : Int32)]) X.1 hG hA0 rfl rfl (fun _ _ h => C_X10_crew l E h hA0) mw497 mw498 mw499 mw12 (gw_ok mw500 rfl) (by decide +kernel) rfl ⟨Nat.le_of_ble_eq_true rfl, Nat.le_of_ble_eq_true rfl⟩ hl.1 rfl (Nat.le_of_ble_eq_true rfl) ⟨Nat.le_of_ble_eq_true rfl, Nat.le_of_ble_eq_true rfl⟩ dL_law_226 hM (fun σ206 r207 H locs hG hM => ?_)
      refine lv_iload_n hx hb dL_law_229 rfl (lv_at hl 2 rfl) ?_
      refine lv_icmp_eq (tgt := 235) hx hb dL_law_230 (by decide) (fun c209 => ?_) (fun c209 => ?_)
      · have hM := b_if hM c209
        obtain ⟨v208, ev208, hM⟩ := g_nm hM
        refine lv_iinc (v := v208) (lv' := [(2, .int v208), (0, .ref (eX E jx).1), (1, .ref (E.1 a0))]) hx hb dL_law_235 hl (k := 2) rfl (by rw [ev208]; rfl) (by decide) rfl (fun ls hl => ?_)
        refine lv_goto (tgt := 219) hx hb dL_law_238 (by decide) ?_
        exact ih0 σ206 v208 _ _ _ z hKX hG (lv_sub hl [1, 2, 0] rfl) hM
      · have hM := b_else hM c209
        cases hM
set_option maxRecDepth 20000 in
set_option maxHeartbeats 4000000 in
theorem w_LE_125 {p : Program} {l : Launch} {e : Env} {s : State} {m : MethodId} {below : List Frame} {meth : Method} {c : Code} {args : Array Value} {E : Ev} {s0 : State} {Q : State → Prop} {jx : Nat} {a0 : Nat} {w : (Nat × (Nat → Int32))} (X : Bx E p m meth c cL_law 11 (some .boolean) s args RL) (hs0 : Dr s0 s) (hAn : ∀ q, s0.heap.size ≤ q → AE E q) (hA0 : lay 10 a0) (hw : jx < nX E ∧ (eX E jx).2 = w) (KX : St → Option (St × Int32)) : ∀ (n : Nat) (σ : St) (x2 : Int32) (H : Heap) (locs : List Loc) (ls : Array Slot) (z : St × Int32) (hKX : ∀ (s : State) (X : Bx E p m meth c cL_law 11 (some .boolean) s args RL) (hs0 : Dr s0 s) (σ : St) (H : Heap) (locs : List Loc) (ls : Array Slot), GS E σ s.heap H locs → lv_has ls 11 [(0, .ref (eX E jx).1)] → KX σ = some z → W p l e room_1 s m args below meth c H locs (256) (2064) Q (F0 m 942 ls [])), GS E σ s.heap H locs → lv_has ls 11 [(0, .ref (eX E jx).1), (1, .ref (E.1 a0)), (2, .int x2)] → B_LE_125 KX n σ a0 w x2 = some z → W p l e room_1 s m args below meth c H locs (248) (2046) Q (F0 m 125 ls []) := by
  have hx := X.1.1.1
  have hb := X.1.1.2.1
  intro n
  induction n with
  | zero => intro σ x2 H locs ls z hKX hG hl hM; cases hM
  | succ n ih0 =>
    intro σ x2 H locs ls z hKX hG hl hM
    unfold B_LE_125 at hM
    refine lv_iload_n hx hb dL_law_125 rfl (lv_at hl 2 rfl) ?_
    refine lv_bipush (v := (8 : Int32)) hx hb dL_law_126 (by decide) ?_
    refine lv_icmp_ge (tgt := 150) hx hb dL_law_128 (by decide) (fun c220 => ?_) (fun c220 => ?_)
    · have hM := b_if hM c220
      refine lv_aload_n hx hb dL_law_150 rfl (lv_at hl 1 rfl) ?_
      refine lv_iconst (v := (1 : Int32)) hx hb dL_law_151 (by decide) ?_
      refine lv_iconst (v := (0 : Int32)) hx hb dL_law_152 (by decide) ?_
      refine g_callV_i (nA := 2) (o := M_X10_bundle σ a0 (1 : Int32) (0 : Int32)) (As := [.int (1 : Int32), .int (0 : Int32)]) X.1 hG hA0 rfl rfl (fun _ _ h => C_X10_bundle l E h hA0) mw375 mw376 mw377 mw12 (gw_ok mw378 rfl) (by decide +kernel) rfl ⟨Nat.le_of_ble_eq_true rfl, Nat.le_of_ble_eq_true rfl⟩ hl.1 rfl (Nat.le_of_ble_eq_true rfl) ⟨Nat.le_of_ble_eq_true rfl, Nat.le_of_ble_eq_true rfl⟩ dL_law_153 hM (fun σ19 r20 H locs hG hM => ?_)
      refine lv_bipush (v := (-3 : Int32)) hx hb dL_law_156 (by decide) ?_
      refine lv_icmp_ne (tgt := 215) hx hb dL_law_158 (by decide) (fun c215 => ?_) (fun c215 => ?_)
      · have hM := b_else hM c215
        cases hM
      · have hM := b_if hM c215
        refine lv_aload_n hx hb dL_law_161 rfl (lv_at hl 1 rfl) ?_
        refine lv_iconst (v := (2 : Int32)) hx hb dL_law_162 (by decide) ?_
        refine a_new X.1 (dr_an hs0 hAn) hG (N := 2) (by decide) (by decide) (Nat.le_of_ble_eq_true rfl) (Nat.le_of_ble_eq_true rfl) (Nat.le_of_ble_eq_true rfl) dL_law_163 (fun q H hG => ?_)
        refine lv_dup hx hb dL_law_165 rfl ?_
        refine lv_iconst (v := (0 : Int32)) hx hb dL_law_166 (by decide) ?_
        refine lv_iconst (v := (1 : Int32)) hx hb dL_law_167 (by decide) ?_
        refine a_ast X.1 hG (by unfold vp_in; decide) dL_law_168 (fun H locs hG => ?_)
        refine lv_dup hx hb dL_law_169 rfl ?_
        refine lv_iconst (v := (1 : Int32)) hx hb dL_law_170 (by decide) ?_
        refine lv_bipush (v := (8 : Int32)) hx hb dL_law_171 (by decide) ?_
        refine a_ast X.1 hG (by unfold vp_in; decide) dL_law_173 (fun H locs hG => ?_)
        refine a_are X.1 hG hA0 mw1012 ⟨Nat.le_of_ble_eq_true rfl, Nat.le_of_ble_eq_true rfl⟩ hl.1 (Nat.le_of_ble_eq_true rfl) ⟨Nat.le_of_ble_eq_true rfl, Nat.le_of_ble_eq_true rfl⟩ dL_law_174 hM (fun σ21 r22 H locs hG hM => ?_)
        refine lv_if_eq (tgt := 215) hx hb dL_law_177 (by decide) (fun c214 => ?_) (fun c214 => ?_)
        · have hM := b_if hM c214
          cases hM
        · have hM := b_else hM c214
          refine lv_aload_n hx hb dL_law_180 rfl (lv_at hl 1 rfl) ?_
          refine lv_bipush (v := (99 : Int32)) hx hb dL_law_181 (by decide) ?_
          refine g_callV_i (nA := 1) (o := M_X10_strips σ21 a0 (99 : Int32)) (As := [.int (99 : Int32)]) X.1 hG hA0 rfl rfl (fun _ _ h => C_X10_strips l E h hA0) mw447 mw448 mw449 mw12 (gw_ok mw450 rfl) (by decide +kernel) rfl ⟨Nat.le_of_ble_eq_true rfl, Nat.le_of_ble_eq_true rfl⟩ hl.1 rfl (Nat.le_of_ble_eq_true rfl) ⟨Nat.le_of_ble_eq_true rfl, Nat.le_of_ble_eq_true rfl⟩ dL_law_183 hM (fun σ23 r24 H locs hG hM => ?_)
          refine lv_sipush (v := (159 : Int32)) hx hb dL_law_186 (by decide) ?_
          refine lv_icmp_ne (tgt := 215) hx hb dL_law_189 (by decide) (fun c213 => ?_) (fun c213 => ?_)
          · have hM := b_else hM c213
            cases hM
          · have hM := b_if hM c213
            refine lv_aload_n hx hb dL_law_192 rfl (lv_at hl 1 rfl) ?_
            refine lv_bipush (v := (99 : Int32)) hx hb dL_law_193 (by decide) ?_
            refine g_callV_i (nA := 1) (o := M_X10_strips σ23 a0 (99 : Int32)) (As := [.int (99 : Int32)]) X.1 hG hA0 rfl rfl (fun _ _ h => C_X10_strips l E h hA0) mw447 mw448 mw449 mw12 (gw_ok mw450 rfl) (by decide +kernel) rfl ⟨Nat.le_of_ble_eq_true rfl, Nat.le_of_ble_eq_true rfl⟩ hl.1 rfl (Nat.le_of_ble_eq_true rfl) ⟨Nat.le_of_ble_eq_true rfl, Nat.le_of_ble_eq_true rfl⟩ dL_law_195 hM (fun σ25 r26 H locs hG hM => ?_)
            refine lv_sipush (v := (200 : Int32)) hx hb dL_law_198 (by decide) ?_
            refine lv_icmp_ne (tgt := 215) hx hb dL_law_201 (by decide) (fun c212 => ?_) (fun c212 => ?_)
            · have hM := b_else hM c212
              cases hM
            · have hM := b_if hM c212
              refine lv_aload_n hx hb dL_law_204 rfl (lv_at hl 1 rfl) ?_
              refine lv_iconst (v := (1 : Int32)) hx hb dL_law_205 (by decide) ?_
              refine g_callV_i (nA := 1) (o := M_X10_strips σ25 a0 (1 : Int32)) (As := [.int (1 : Int32)]) X.1 hG hA0 rfl rfl (fun _ _ h => C_X10_strips l E h hA0) mw447 mw448 mw449 mw12 (gw_ok mw450 rfl) (by decide +kernel) rfl ⟨Nat.le_of_ble_eq_true rfl, Nat.le_of_ble_eq_true rfl⟩ hl.1 rfl (Nat.le_of_ble_eq_true rfl) ⟨Nat.le_of_ble_eq_true rfl, Nat.le_of_ble_eq_true rfl⟩ dL_law_206 hM (fun σ27 r28 H locs hG hM => ?_)
              refine lv_sipush (v := (200 : Int32)) hx hb dL_law_209 (by decide) ?_
              refine lv_icmp_eq (tgt := 217) hx hb dL_law_212 (by decide) (fun c211 => ?_) (fun c211 => ?_)
              · have hM := b_if hM c211
                refine lv_iconst (v := (0 : Int32)) hx hb dL_law_217 (by decide) ?_
                refine lv_istore_n (lv' := [(2, .int (0 : Int32)), (0, .ref (eX E jx).1), (1, .ref (E.1 a0))]) hx hb dL_law_218 rfl hl (by decide) rfl (fun ls hl => ?_)
                exact w_LE_219 X hs0 hAn hA0 hw KX FU σ27 (0 : Int32) _ _ _ z hKX hG (lv_sub hl [1, 2, 0] rfl) hM
              · have hM := b_else hM c211
                cases hM
    · have hM := b_else hM c220
      refine lv_aload_n hx hb dL_law_131 rfl (lv_at hl 1 rfl) ?_
      refine lv_bipush (v := (30 : Int32)) hx hb dL_law_132 (by decide) ?_
      refine lv_iconst (v := (0 : Int32)) hx hb dL_law_134 (by decide) ?_
      refine g_callV_i (nA := 2) (o := M_X10_bundle σ a0 (30 : Int32) (0 : Int32)) (As := [.int (30 : Int32), .int (0 : Int32)]) X.1 hG hA0 rfl rfl (fun _ _ h => C_X10_bundle l E h hA0) mw375 mw376 mw377 mw12 (gw_ok mw378 rfl) (by decide +kernel) rfl ⟨Nat.le_of_ble_eq_true rfl, Nat.le_of_ble_eq_true rfl⟩ hl.1 rfl (Nat.le_of_ble_eq_true rfl) ⟨Nat.le_of_ble_eq_true rfl, Nat.le_of_ble_eq_true rfl⟩ dL_law_135 hM (fun σ216 r217 H locs hG hM => ?_)
      refine lv_iload_n hx hb dL_law_138 rfl (lv_at hl 2 rfl) ?_
      refine lv_icmp_eq (tgt := 144) hx hb dL_law_139 (by decide) (fun c219 => ?_) (fun c219 => ?_)
      · have hM := b_if hM c219
        obtain ⟨v218, ev218, hM⟩ := g_nm hM
        refine lv_iinc (v := v218) (lv' := [(2, .int v218), (0, .ref (eX E jx).1), (1, .ref (E.1 a0))]) hx hb dL_law_144 hl (k := 2) rfl (by rw [ev218]; rfl) (by decide) rfl (fun ls hl => ?_)
        refine lv_goto (tgt := 125) hx hb dL_law_147 (by decide) ?_
        exact ih0 σ216 v218 _ _ _ z hKX hG (lv_sub hl [1, 2, 0] rfl) hM
      · have hM := b_else hM c219
        cases hM
set_option maxRecDepth 20000 in
set_option maxHeartbeats 4000000 in
theorem w_LE_105 {p : Program} {l : Launch} {e : Env} {s : State} {m : MethodId} {below : List Frame} {meth : Method} {c : Code} {args : Array Value} {E : Ev} {s0 : State} {Q : State → Prop} {jx : Nat} {a0 : Nat} {w : (Nat × (Nat → Int32))} (X : Bx E p m meth c cL_law 11 (some .boolean) s args RL) (hs0 : Dr s0 s) (hAn : ∀ q, s0.heap.size ≤ q → AE E q) (hA0 : lay 10 a0) (hw : jx < nX E ∧ (eX E jx).2 = w) (KX : St → Option (St × Int32)) : ∀ (σ : St) (H : Heap) (locs : List Loc) (ls : Array Slot) (z : St × Int32) (hKX : ∀ (s : State) (X : Bx E p m meth c cL_law 11 (some .boolean) s args RL) (hs0 : Dr s0 s) (σ : St) (H : Heap) (locs : List Loc) (ls : Array Slot), GS E σ s.heap H locs → lv_has ls 11 [(0, .ref (eX E jx).1)] → KX σ = some z → W p l e room_1 s m args below meth c H locs (256) (2064) Q (F0 m 942 ls [])), GS E σ s.heap H locs → lv_has ls 11 [(0, .ref (eX E jx).1), (1, .ref (E.1 a0))] → B_LE_105 KX σ a0 w = some z → W p l e room_1 s m args below meth c H locs (248) (2046) Q (F0 m 105 ls []) := by
  have hx := X.1.1.1
  have hb := X.1.1.2.1
  intro σ  H locs ls z hKX hG hl hM
  unfold B_LE_105 at hM
  refine lv_aload_n hx hb dL_law_105 rfl (lv_at hl 1 rfl) ?_
  refine g_callV_i (nA := 0) (o := M_X10_fault σ a0) (As := []) X.1 hG hA0 rfl rfl (fun _ _ h => C_X10_fault l E h hA0) mw861 mw862 mw863 mw12 (gw_ok mw864 rfl) (by decide +kernel) rfl ⟨Nat.le_of_ble_eq_true rfl, Nat.le_of_ble_eq_true rfl⟩ hl.1 rfl (Nat.le_of_ble_eq_true rfl) ⟨Nat.le_of_ble_eq_true rfl, Nat.le_of_ble_eq_true rfl⟩ dL_law_106 hM (fun σ15 r16 H locs hG hM => ?_)
  refine lv_if_ne (tgt := 121) hx hb dL_law_109 (by decide) (fun c222 => ?_) (fun c222 => ?_)
  · have hM := b_else hM c222
    cases hM
  · have hM := b_if hM c222
    refine lv_aload_n hx hb dL_law_112 rfl (lv_at hl 1 rfl) ?_
    refine lv_bipush (v := (17 : Int32)) hx hb dL_law_113 (by decide) ?_
    refine g_callV_i (nA := 1) (o := M_X10_account σ15 a0 (17 : Int32)) (As := [.int (17 : Int32)]) X.1 hG hA0 rfl rfl (fun _ _ h => C_X10_account l E h hA0) mw959 mw960 mw961 mw12 (gw_ok mw962 rfl) (by decide +kernel) rfl ⟨Nat.le_of_ble_eq_true rfl, Nat.le_of_ble_eq_true rfl⟩ hl.1 rfl (Nat.le_of_ble_eq_true rfl) ⟨Nat.le_of_ble_eq_true rfl, Nat.le_of_ble_eq_true rfl⟩ dL_law_115 hM (fun σ17 r18 H locs hG hM => ?_)
    refine lv_if_eq (tgt := 123) hx hb dL_law_118 (by decide) (fun c221 => ?_) (fun c221 => ?_)
    · have hM := b_if hM c221
      refine lv_iconst (v := (0 : Int32)) hx hb dL_law_123 (by decide) ?_
      refine lv_istore_n (lv' := [(2, .int (0 : Int32)), (0, .ref (eX E jx).1), (1, .ref (E.1 a0))]) hx hb dL_law_124 rfl hl (by decide) rfl (fun ls hl => ?_)
      exact w_LE_125 X hs0 hAn hA0 hw KX FU σ17 (0 : Int32) _ _ _ z hKX hG (lv_sub hl [1, 2, 0] rfl) hM
    · have hM := b_else hM c221
      cases hM
set_option maxRecDepth 20000 in
set_option maxHeartbeats 4000000 in
theorem w_LE_56 {p : Program} {l : Launch} {e : Env} {s : State} {m : MethodId} {below : List Frame} {meth : Method} {c : Code} {args : Array Value} {E : Ev} {s0 : State} {Q : State → Prop} {jx : Nat} {a0 : Nat} {w : (Nat × (Nat → Int32))} (X : Bx E p m meth c cL_law 11 (some .boolean) s args RL) (hs0 : Dr s0 s) (hAn : ∀ q, s0.heap.size ≤ q → AE E q) (hA0 : lay 10 a0) (hw : jx < nX E ∧ (eX E jx).2 = w) (KX : St → Option (St × Int32)) : ∀ (n : Nat) (σ : St) (x2 : Int32) (H : Heap) (locs : List Loc) (ls : Array Slot) (z : St × Int32) (hKX : ∀ (s : State) (X : Bx E p m meth c cL_law 11 (some .boolean) s args RL) (hs0 : Dr s0 s) (σ : St) (H : Heap) (locs : List Loc) (ls : Array Slot), GS E σ s.heap H locs → lv_has ls 11 [(0, .ref (eX E jx).1)] → KX σ = some z → W p l e room_1 s m args below meth c H locs (256) (2064) Q (F0 m 942 ls [])), GS E σ s.heap H locs → lv_has ls 11 [(0, .ref (eX E jx).1), (1, .ref (E.1 a0)), (2, .int x2)] → B_LE_56 KX n σ a0 w x2 = some z → W p l e room_1 s m args below meth c H locs (248) (2046) Q (F0 m 56 ls []) := by
  have hx := X.1.1.1
  have hb := X.1.1.2.1
  intro n
  induction n with
  | zero => intro σ x2 H locs ls z hKX hG hl hM; cases hM
  | succ n ih0 =>
    intro σ x2 H locs ls z hKX hG hl hM
    unfold B_LE_56 at hM
    refine lv_iload_n hx hb dL_law_56 rfl (lv_at hl 2 rfl) ?_
    refine lv_bipush (v := (60 : Int32)) hx hb dL_law_57 (by decide) ?_
    refine lv_icmp_ge (tgt := 85) hx hb dL_law_59 (by decide) (fun c230 => ?_) (fun c230 => ?_)
    · have hM := b_if hM c230
      refine lv_aload_n hx hb dL_law_85 rfl (lv_at hl 1 rfl) ?_
      refine lv_bipush (v := (110 : Int32)) hx hb dL_law_86 (by decide) ?_
      refine g_callV_i (nA := 1) (o := M_X10_append σ a0 (110 : Int32)) (As := [.int (110 : Int32)]) X.1 hG hA0 rfl rfl (fun _ _ h => C_X10_append l E h hA0) mw364 mw365 mw366 mw12 (gw_ok mw367 rfl) (by decide +kernel) rfl ⟨Nat.le_of_ble_eq_true rfl, Nat.le_of_ble_eq_true rfl⟩ hl.1 rfl (Nat.le_of_ble_eq_true rfl) ⟨Nat.le_of_ble_eq_true rfl, Nat.le_of_ble_eq_true rfl⟩ dL_law_88 hM (fun σ11 r12 H locs hG hM => ?_)
      refine lv_bipush (v := (-2 : Int32)) hx hb dL_law_91 (by decide) ?_
      refine lv_icmp_ne (tgt := 121) hx hb dL_law_93 (by decide) (fun c224 => ?_) (fun c224 => ?_)
      · have hM := b_else hM c224
        cases hM
      · have hM := b_if hM c224
        refine lv_aload_n hx hb dL_law_96 rfl (lv_at hl 1 rfl) ?_
        refine g_callV_i (nA := 0) (o := M_X10_script σ11 a0) (As := []) X.1 hG hA0 rfl rfl (fun _ _ h => C_X10_script l E h hA0) mw736 mw737 mw738 mw12 (gw_ok mw739 rfl) (by decide +kernel) rfl ⟨Nat.le_of_ble_eq_true rfl, Nat.le_of_ble_eq_true rfl⟩ hl.1 rfl (Nat.le_of_ble_eq_true rfl) ⟨Nat.le_of_ble_eq_true rfl, Nat.le_of_ble_eq_true rfl⟩ dL_law_97 hM (fun σ13 r14 H locs hG hM => ?_)
        refine lv_bipush (v := (-2 : Int32)) hx hb dL_law_100 (by decide) ?_
        refine lv_icmp_ne (tgt := 121) hx hb dL_law_102 (by decide) (fun c223 => ?_) (fun c223 => ?_)
        · have hM := b_else hM c223
          cases hM
        · have hM := b_if hM c223
          exact w_LE_105 X hs0 hAn hA0 hw KX σ13 _ _ _ z hKX hG (lv_sub hl [0, 1] rfl) hM
    · have hM := b_else hM c230
      refine lv_aload_n hx hb dL_law_62 rfl (lv_at hl 1 rfl) ?_
      refine lv_bipush (v := (32 : Int32)) hx hb dL_law_63 (by decide) ?_
      refine lv_iload_n hx hb dL_law_65 rfl (lv_at hl 2 rfl) ?_
      refine lv_iadd hx hb dL_law_66 ?_
      refine lv_i2c hx hb dL_law_67 rfl ?_
      refine g_name hM (fun v225 hM => ?_)
      refine g_callV_i (nA := 1) (o := M_X10_append σ a0 v225) (As := [.int v225]) X.1 hG hA0 rfl rfl (fun _ _ h => C_X10_append l E h hA0) mw364 mw365 mw366 mw12 (gw_ok mw367 rfl) (by decide +kernel) rfl ⟨Nat.le_of_ble_eq_true rfl, Nat.le_of_ble_eq_true rfl⟩ hl.1 rfl (Nat.le_of_ble_eq_true rfl) ⟨Nat.le_of_ble_eq_true rfl, Nat.le_of_ble_eq_true rfl⟩ dL_law_68 hM (fun σ226 r227 H locs hG hM => ?_)
      refine lv_iload_n hx hb dL_law_71 rfl (lv_at hl 2 rfl) ?_
      refine lv_iconst (v := (1 : Int32)) hx hb dL_law_72 (by decide) ?_
      refine lv_iadd hx hb dL_law_73 ?_
      refine lv_icmp_eq (tgt := 79) hx hb dL_law_74 (by decide) (fun c229 => ?_) (fun c229 => ?_)
      · have hM := b_if hM c229
        obtain ⟨v228, ev228, hM⟩ := g_nm hM
        refine lv_iinc (v := v228) (lv' := [(2, .int v228), (0, .ref (eX E jx).1), (1, .ref (E.1 a0))]) hx hb dL_law_79 hl (k := 2) rfl (by rw [ev228]; rfl) (by decide) rfl (fun ls hl => ?_)
        refine lv_goto (tgt := 56) hx hb dL_law_82 (by decide) ?_
        exact ih0 σ226 v228 _ _ _ z hKX hG (lv_sub hl [1, 2, 0] rfl) hM
      · have hM := b_else hM c229
        cases hM
set_option maxRecDepth 20000 in
set_option maxHeartbeats 4000000 in
theorem w_LE_8 {p : Program} {l : Launch} {e : Env} {s : State} {m : MethodId} {below : List Frame} {meth : Method} {c : Code} {args : Array Value} {E : Ev} {s0 : State} {Q : State → Prop} {jx : Nat} {a0 : Nat} {w : (Nat × (Nat → Int32))} (X : Bx E p m meth c cL_law 11 (some .boolean) s args RL) (hs0 : Dr s0 s) (hAn : ∀ q, s0.heap.size ≤ q → AE E q) (hA0 : lay 10 a0) (hw : jx < nX E ∧ (eX E jx).2 = w) (KX : St → Option (St × Int32)) : ∀ (σ : St) (H : Heap) (locs : List Loc) (ls : Array Slot) (z : St × Int32) (hKX : ∀ (s : State) (X : Bx E p m meth c cL_law 11 (some .boolean) s args RL) (hs0 : Dr s0 s) (σ : St) (H : Heap) (locs : List Loc) (ls : Array Slot), GS E σ s.heap H locs → lv_has ls 11 [(0, .ref (eX E jx).1)] → KX σ = some z → W p l e room_1 s m args below meth c H locs (256) (2064) Q (F0 m 942 ls [])), GS E σ s.heap H locs → lv_has ls 11 [(0, .ref (eX E jx).1), (1, .ref (E.1 a0))] → B_LE_8 KX σ a0 w = some z → W p l e room_1 s m args below meth c H locs (248) (2046) Q (F0 m 8 ls []) := by
  have hx := X.1.1.1
  have hb := X.1.1.2.1
  intro σ  H locs ls z hKX hG hl hM
  unfold B_LE_8 at hM
  refine lv_aload_n hx hb dL_law_8 rfl (lv_at hl 1 rfl) ?_
  refine g_callV_i (nA := 0) (o := M_X10_undo σ a0) (As := []) X.1 hG hA0 rfl rfl (fun _ _ h => C_X10_undo l E h hA0) mw990 mw991 mw992 mw12 (gw_ok mw993 rfl) (by decide +kernel) rfl ⟨Nat.le_of_ble_eq_true rfl, Nat.le_of_ble_eq_true rfl⟩ hl.1 rfl (Nat.le_of_ble_eq_true rfl) ⟨Nat.le_of_ble_eq_true rfl, Nat.le_of_ble_eq_true rfl⟩ dL_law_9 hM (fun σ1 r2 H locs hG hM => ?_)
  refine lv_bipush (v := (-4 : Int32)) hx hb dL_law_12 (by decide) ?_
  refine lv_icmp_ne (tgt := 52) hx hb dL_law_14 (by decide) (fun c235 => ?_) (fun c235 => ?_)
  · have hM := b_else hM c235
    cases hM
  · have hM := b_if hM c235
    refine lv_aload_n hx hb dL_law_17 rfl (lv_at hl 1 rfl) ?_
    refine g_callV_i (nA := 0) (o := M_X10_restore σ1 a0) (As := []) X.1 hG hA0 rfl rfl (fun _ _ h => C_X10_restore l E h hA0) mw1002 mw1003 mw1004 mw12 (gw_ok mw1005 rfl) (by decide +kernel) rfl ⟨Nat.le_of_ble_eq_true rfl, Nat.le_of_ble_eq_true rfl⟩ hl.1 rfl (Nat.le_of_ble_eq_true rfl) ⟨Nat.le_of_ble_eq_true rfl, Nat.le_of_ble_eq_true rfl⟩ dL_law_18 hM (fun σ3 r4 H locs hG hM => ?_)
    refine lv_bipush (v := (-4 : Int32)) hx hb dL_law_21 (by decide) ?_
    refine lv_icmp_ne (tgt := 52) hx hb dL_law_23 (by decide) (fun c234 => ?_) (fun c234 => ?_)
    · have hM := b_else hM c234
      cases hM
    · have hM := b_if hM c234
      refine lv_aload_n hx hb dL_law_26 rfl (lv_at hl 1 rfl) ?_
      refine g_callV_i (nA := 0) (o := M_X10_save σ3 a0) (As := []) X.1 hG hA0 rfl rfl (fun _ _ h => C_X10_save l E h hA0) mw998 mw999 mw1000 mw12 (gw_ok mw1001 rfl) (by decide +kernel) rfl ⟨Nat.le_of_ble_eq_true rfl, Nat.le_of_ble_eq_true rfl⟩ hl.1 rfl (Nat.le_of_ble_eq_true rfl) ⟨Nat.le_of_ble_eq_true rfl, Nat.le_of_ble_eq_true rfl⟩ dL_law_27 hM (fun σ5 r6 H locs hG hM => ?_)
      refine lv_if_ne (tgt := 52) hx hb dL_law_30 (by decide) (fun c233 => ?_) (fun c233 => ?_)
      · have hM := b_else hM c233
        cases hM
      · have hM := b_if hM c233
        refine lv_aload_n hx hb dL_law_33 rfl (lv_at hl 1 rfl) ?_
        refine lv_bipush (v := (30 : Int32)) hx hb dL_law_34 (by decide) ?_
        refine g_callV_i (nA := 1) (o := M_X10_day σ5 a0 (30 : Int32)) (As := [.int (30 : Int32)]) X.1 hG hA0 rfl rfl (fun _ _ h => C_X10_day l E h hA0) mw661 mw662 mw663 mw12 (gw_ok mw664 rfl) (by decide +kernel) rfl ⟨Nat.le_of_ble_eq_true rfl, Nat.le_of_ble_eq_true rfl⟩ hl.1 rfl (Nat.le_of_ble_eq_true rfl) ⟨Nat.le_of_ble_eq_true rfl, Nat.le_of_ble_eq_true rfl⟩ dL_law_36 hM (fun σ7 r8 H locs hG hM => ?_)
        refine lv_if_ne (tgt := 52) hx hb dL_law_39 (by decide) (fun c232 => ?_) (fun c232 => ?_)
        · have hM := b_else hM c232
          cases hM
        · have hM := b_if hM c232
          refine lv_aload_n hx hb dL_law_42 rfl (lv_at hl 1 rfl) ?_
          refine lv_iconst (v := (0 : Int32)) hx hb dL_law_43 (by decide) ?_
          refine g_callV_i (nA := 1) (o := M_X10_account σ7 a0 (0 : Int32)) (As := [.int (0 : Int32)]) X.1 hG hA0 rfl rfl (fun _ _ h => C_X10_account l E h hA0) mw959 mw960 mw961 mw12 (gw_ok mw962 rfl) (by decide +kernel) rfl ⟨Nat.le_of_ble_eq_true rfl, Nat.le_of_ble_eq_true rfl⟩ hl.1 rfl (Nat.le_of_ble_eq_true rfl) ⟨Nat.le_of_ble_eq_true rfl, Nat.le_of_ble_eq_true rfl⟩ dL_law_44 hM (fun σ9 r10 H locs hG hM => ?_)
          refine lv_bipush (v := (30 : Int32)) hx hb dL_law_47 (by decide) ?_
          refine lv_icmp_eq (tgt := 54) hx hb dL_law_49 (by decide) (fun c231 => ?_) (fun c231 => ?_)
          · have hM := b_if hM c231
            refine lv_iconst (v := (0 : Int32)) hx hb dL_law_54 (by decide) ?_
            refine lv_istore_n (lv' := [(2, .int (0 : Int32)), (0, .ref (eX E jx).1), (1, .ref (E.1 a0))]) hx hb dL_law_55 rfl hl (by decide) rfl (fun ls hl => ?_)
            exact w_LE_56 X hs0 hAn hA0 hw KX FU σ9 (0 : Int32) _ _ _ z hKX hG (lv_sub hl [1, 2, 0] rfl) hM
          · have hM := b_else hM c231
            cases hM
