def M_J0_charAt_5068e (σ : St) (k : Nat) (p0 : Int32) : Option (St × Int32) := bcall (M_J0_isLatin1_aae02 σ k) fun σ1 r2 => if r2 = 0 then none else (bcall (M_J1_charAt_3b067 σ1 k p0) fun σ3 r4 => bchk (okC r4) (some (σ3, r4)))
set_option maxRecDepth 20000 in
set_option maxHeartbeats 4000000 in
theorem C_J0_charAt_5068e (l : Launch) (E : Ev) {σ σ' : St} {k : Nat} {p0 : Int32} {r : Int32} (h : M_J0_charAt_5068e σ k p0 = some (σ', r)) (hL : okS E k) : Mi l E yJ0_charAt_5068e cJ0_charAt_5068e 2 (some .char) 4 [.ref (eK E k), .int p0] σ σ' r := by
  refine Mi_of (C := RJ0) rfl (by decide) (Nat.le_of_ble_eq_true rfl) (z := (σ', r)) (fun p e s m below meth c ls X hG hl => ?_)
  have hx := X.1.1.1
  have hb := X.1.1.2.1
  have hM := h
  unfold M_J0_charAt_5068e at hM
  generalize (σ', r) = z at hM ⊢
  have hl : lv_has ls 2 [(0, .ref (eK E k)), (1, .int p0)] := hl
  refine lv_aload_n hx hb dJ0_charAt_5068e_0 rfl (lv_at hl 0 rfl) ?_
  refine g_callT_i (nA := 0) (o := M_J0_isLatin1_aae02 σ k) (As := []) X.1 hG hL rfl (fun _ _ h => C_J0_isLatin1_aae02 l E h hL) mw780 mw781 mw782 mw25 (gw_ok mw783 rfl) (by decide +kernel) rfl ⟨Nat.le_of_ble_eq_true rfl, Nat.le_of_ble_eq_true rfl⟩ hl.1 rfl (Nat.le_of_ble_eq_true rfl) ⟨Nat.le_refl _, Nat.le_refl _⟩ dJ0_charAt_5068e_1 hM (fun σ1 r2 H locs hG hM => ?_)
  refine lv_if_eq (tgt := 16) hx hb dJ0_charAt_5068e_4 (by decide) (fun c6 => ?_) (fun c6 => ?_)
  · have hM := b_if hM c6
    refine lv_aload_n hx hb dJ0_charAt_5068e_16 rfl (lv_at hl 0 rfl) ?_
    refine g_sval X.1 hG hL mw1317 dJ0_charAt_5068e_17 ?_
    refine lv_iload_n hx hb dJ0_charAt_5068e_20 rfl (lv_at hl 1 rfl) ?_
    cases hM
  · have hM := b_else hM c6
    refine lv_aload_n hx hb dJ0_charAt_5068e_7 rfl (lv_at hl 0 rfl) ?_
    refine g_sval X.1 hG hL mw1317 dJ0_charAt_5068e_8 ?_
    refine lv_iload_n hx hb dJ0_charAt_5068e_11 rfl (lv_at hl 1 rfl) ?_
    refine g_callS_i (nA := 2) (o := M_J1_charAt_3b067 σ1 k p0) (As := [.ref (eV E k), .int p0]) X.1 hG (fun _ _ h => C_J1_charAt_3b067 l E h hL) mw784 mw785 mw26 (gw_ok mw786 rfl) (by decide +kernel) rfl ⟨Nat.le_of_ble_eq_true rfl, Nat.le_of_ble_eq_true rfl⟩ hl.1 rfl (Nat.le_of_ble_eq_true rfl) ⟨Nat.le_refl _, Nat.le_refl _⟩ dJ0_charAt_5068e_12 hM (fun σ3 r4 H locs hG hM => ?_)
    obtain ⟨c5, hM⟩ := b_chk hM
    exact e_zret X hG (okC_n c5).1 dJ0_charAt_5068e_15 hM
def M_X2_note (σ : St) (k a0 : Nat)  : Option (St × Int32) := bcall (M_X2_noted σ k) fun σ1 r2 => bcall (M_X7_take σ1 r2 a0) fun σ3 r4 => some (σ3, 0)
set_option maxRecDepth 20000 in
set_option maxHeartbeats 4000000 in
theorem C_X2_note (l : Launch) (E : Ev) {σ σ' : St} {k : Nat} {a0 : Nat} {r : Int32} (h : M_X2_note σ k a0 = some (σ', r)) (hL : lay 2 k) (hA0 : lay 7 a0) : Mv l E yX2_note cX2_note 2 4 [.ref (E.1 k), .ref (E.1 a0)] σ σ' := by
  refine Mv_of (C := RX2) rfl (by decide) (Nat.le_of_ble_eq_true rfl) (z := (σ', r)) (fun p e s m below meth c ls X hG hl => ?_)
  have hx := X.1.1.1
  have hb := X.1.1.2.1
  have hM := h
  unfold M_X2_note at hM
  generalize (σ', r) = z at hM ⊢
  have hl : lv_has ls 2 [(0, .ref (E.1 k)), (1, .ref (E.1 a0))] := hl
  refine lv_aload_n hx hb dX2_note_0 rfl (lv_at hl 0 rfl) ?_
  refine g_callV_r (nA := 0) (o := M_X2_noted σ k) (As := []) X.1 hG hL rfl rfl (fun _ _ h => C_X2_noted l E h hL) mw383 mw384 mw385 mw20 (gw_ok mw386 rfl) (by decide +kernel) rfl ⟨Nat.le_of_ble_eq_true rfl, Nat.le_of_ble_eq_true rfl⟩ hl.1 rfl (Nat.le_of_ble_eq_true rfl) ⟨Nat.le_refl _, Nat.le_refl _⟩ dX2_note_1 hM (fun σ1 r2 H locs hG hEr2 hM => ?_)
  have hNr2 := L_X2_noted (hL) hEr2
  refine lv_aload_n hx hb dX2_note_4 rfl (lv_at hl 1 rfl) ?_
  refine g_callV_v (nA := 1) (o := M_X7_take σ1 r2 a0) (As := [.ref (E.1 a0)]) X.1 hG hNr2 rfl rfl (fun _ _ h => C_X7_take l E h hNr2 hA0) mw387 mw388 mw389 mw15 (gw_ok mw390 rfl) (by decide +kernel) rfl ⟨Nat.le_of_ble_eq_true rfl, Nat.le_of_ble_eq_true rfl⟩ hl.1 rfl (Nat.le_of_ble_eq_true rfl) ⟨Nat.le_refl _, Nat.le_refl _⟩ dX2_note_5 hM (fun σ3 r4 H locs hG hM => ?_)
  exact e_vret X hG dX2_note_8 hM
def B_X5_readOrder_51  : Nat → St → Nat → Nat → Nat → Int32 → Int32 → Option (St × Int32)
  | 0, _, _, _, _, _, _ => none
  | n + 1, σ, k, a0, z3, x4, x5 => bcall (M_J0_length_8abf5 σ z3) fun σ10 r11 => if r11 ≤ x5 then some (σ10, (1 : Int32)) else (bcall (M_J0_charAt_5068e σ10 z3 x5) fun σ12 r13 => if r13 = (35 : Int32) then (if (0 : Int32) = 0 then (if r13 = (37 : Int32) then (bcall (M_X5_readNumber σ12 k a0 x4 (1 : Int32)) fun σ22 r23 => if r23 = 0 then some (σ22, (0 : Int32)) else (if (0 : Int32) = 0 then (blet (x4 + (1 : Int32)) fun v24 => blet (x5 + (1 : Int32)) fun v25 => B_X5_readOrder_51 n σ22 k a0 z3 v24 v25) else (blet (x4 + (0 : Int32)) fun v26 => blet (x5 + (1 : Int32)) fun v27 => B_X5_readOrder_51 n σ22 k a0 z3 v26 v27))) else (bcall (M_X5_readNumber σ12 k a0 x4 (0 : Int32)) fun σ14 r15 => if r15 = 0 then some (σ14, (0 : Int32)) else (if (0 : Int32) = 0 then (blet (x4 + (1 : Int32)) fun v16 => blet (x5 + (1 : Int32)) fun v17 => B_X5_readOrder_51 n σ14 k a0 z3 v16 v17) else (blet (x4 + (0 : Int32)) fun v18 => blet (x5 + (1 : Int32)) fun v19 => B_X5_readOrder_51 n σ14 k a0 z3 v18 v19)))) else (bcall (M_X5_readSign σ12 k a0 r13) fun σ31 r32 => if r32 = 0 then some (σ31, (0 : Int32)) else (if (0 : Int32) = 0 then (blet (x4 + (1 : Int32)) fun v33 => blet (x5 + (1 : Int32)) fun v34 => B_X5_readOrder_51 n σ31 k a0 z3 v33 v34) else (blet (x4 + (0 : Int32)) fun v35 => blet (x5 + (1 : Int32)) fun v36 => B_X5_readOrder_51 n σ31 k a0 z3 v35 v36)))) else (if r13 = (37 : Int32) then (if (0 : Int32) = 0 then (if r13 = (37 : Int32) then (bcall (M_X5_readNumber σ12 k a0 x4 (1 : Int32)) fun σ48 r49 => if r49 = 0 then some (σ48, (0 : Int32)) else (if (0 : Int32) = 0 then (blet (x4 + (1 : Int32)) fun v50 => blet (x5 + (1 : Int32)) fun v51 => B_X5_readOrder_51 n σ48 k a0 z3 v50 v51) else (blet (x4 + (0 : Int32)) fun v52 => blet (x5 + (1 : Int32)) fun v53 => B_X5_readOrder_51 n σ48 k a0 z3 v52 v53))) else (bcall (M_X5_readNumber σ12 k a0 x4 (0 : Int32)) fun σ40 r41 => if r41 = 0 then some (σ40, (0 : Int32)) else (if (0 : Int32) = 0 then (blet (x4 + (1 : Int32)) fun v42 => blet (x5 + (1 : Int32)) fun v43 => B_X5_readOrder_51 n σ40 k a0 z3 v42 v43) else (blet (x4 + (0 : Int32)) fun v44 => blet (x5 + (1 : Int32)) fun v45 => B_X5_readOrder_51 n σ40 k a0 z3 v44 v45)))) else (bcall (M_X5_readSign σ12 k a0 r13) fun σ57 r58 => if r58 = 0 then some (σ57, (0 : Int32)) else (if (0 : Int32) = 0 then (blet (x4 + (1 : Int32)) fun v59 => blet (x5 + (1 : Int32)) fun v60 => B_X5_readOrder_51 n σ57 k a0 z3 v59 v60) else (blet (x4 + (0 : Int32)) fun v61 => blet (x5 + (1 : Int32)) fun v62 => B_X5_readOrder_51 n σ57 k a0 z3 v61 v62)))) else (if (1 : Int32) = 0 then (if r13 = (37 : Int32) then (bcall (M_X5_readNumber σ12 k a0 x4 (1 : Int32)) fun σ74 r75 => if r75 = 0 then some (σ74, (0 : Int32)) else (if (1 : Int32) = 0 then (blet (x4 + (1 : Int32)) fun v76 => blet (x5 + (1 : Int32)) fun v77 => B_X5_readOrder_51 n σ74 k a0 z3 v76 v77) else (blet (x4 + (0 : Int32)) fun v78 => blet (x5 + (1 : Int32)) fun v79 => B_X5_readOrder_51 n σ74 k a0 z3 v78 v79))) else (bcall (M_X5_readNumber σ12 k a0 x4 (0 : Int32)) fun σ66 r67 => if r67 = 0 then some (σ66, (0 : Int32)) else (if (1 : Int32) = 0 then (blet (x4 + (1 : Int32)) fun v68 => blet (x5 + (1 : Int32)) fun v69 => B_X5_readOrder_51 n σ66 k a0 z3 v68 v69) else (blet (x4 + (0 : Int32)) fun v70 => blet (x5 + (1 : Int32)) fun v71 => B_X5_readOrder_51 n σ66 k a0 z3 v70 v71)))) else (bcall (M_X5_readSign σ12 k a0 r13) fun σ83 r84 => if r84 = 0 then some (σ83, (0 : Int32)) else (if (1 : Int32) = 0 then (blet (x4 + (1 : Int32)) fun v85 => blet (x5 + (1 : Int32)) fun v86 => B_X5_readOrder_51 n σ83 k a0 z3 v85 v86) else (blet (x4 + (0 : Int32)) fun v87 => blet (x5 + (1 : Int32)) fun v88 => B_X5_readOrder_51 n σ83 k a0 z3 v87 v88))))))
def M_X5_readOrder (σ : St) (k a0 : Nat)  : Option (St × Int32) := bcall (M_X4_signAt σ a0 (σ k 3)) fun σ1 r2 => bcall (M_X5_formOf σ1 r2) fun σ3 r4 => bcall (M_J0_isEmpty_aae02 σ3 r4) fun σ5 r6 => if r6 = 0 then (bcall (M_X10_put σ5 (k + 1) (σ5 k 2) r2) fun σ7 r8 => bput σ7 k 3 ((σ7 k 3) + (1 : Int32)) fun σ9 => B_X5_readOrder_51 FU σ9 k a0 r4 (0 : Int32) (0 : Int32)) else some (σ5, (0 : Int32))
set_option maxRecDepth 20000 in
set_option maxHeartbeats 4000000 in
theorem w_X5_readOrder_51 {p : Program} {l : Launch} {e : Env} {s : State} {m : MethodId} {below : List Frame} {meth : Method} {c : Code} {args : Array Value} {E : Ev} {k : Nat} {a0 : Nat} (X : Bx E p m meth c cX5_readOrder 8 (some .boolean) s args RX5) (hL : lay 5 k) (hA0 : lay 4 a0) : ∀ (n : Nat) (σ : St) (z3 : Nat) (x4 x5 : Int32) (H : Heap) (locs : List Loc) (ls : Array Slot) (z : St × Int32) (hz3 : okS E z3), GS E σ s.heap H locs → lv_has ls 8 [(0, .ref (E.1 k)), (1, .ref (E.1 a0)), (3, .ref (eK E z3)), (4, .int x4), (5, .int x5)] → B_X5_readOrder_51 n σ k a0 z3 x4 x5 = some z → W p l e (rmd 5) s m args below meth c H locs 0 0 (QI E z below args s) (F0 m 51 ls []) := by
  have hx := X.1.1.1
  have hb := X.1.1.2.1
  intro n
  induction n with
  | zero => intro σ z3 x4 x5 H locs ls z hz3 hG hl hM; cases hM
  | succ n ih =>
    intro σ z3 x4 x5 H locs ls z hz3 hG hl hM
    unfold B_X5_readOrder_51 at hM
    refine lv_iload hx hb dX5_readOrder_51 (lv_at hl 4 rfl) ?_
    refine lv_aload_n hx hb dX5_readOrder_53 rfl (lv_at hl 2 rfl) ?_
    refine g_callT_i (nA := 0) (o := M_J0_length_8abf5 σ z3) (As := []) X.1 hG hz3 rfl (fun _ _ h => C_J0_length_8abf5 l E h hz3) mw766 mw767 mw768 mw25 (gw_ok mw769 rfl) (by decide +kernel) rfl ⟨Nat.le_of_ble_eq_true rfl, Nat.le_of_ble_eq_true rfl⟩ hl.1 rfl (Nat.le_of_ble_eq_true rfl) ⟨Nat.le_refl _, Nat.le_refl _⟩ dX5_readOrder_54 hM (fun σ10 r11 H locs hG hM => ?_)
    refine lv_icmp_ge (tgt := 152) hx hb dX5_readOrder_57 (by decide) (fun c94 => ?_) (fun c94 => ?_)
    · have hM := b_if hM c94
      refine lv_iconst (v := (1 : Int32)) hx hb dX5_readOrder_152 (by decide) ?_
      exact e_zret X hG (by decide) dX5_readOrder_153 hM
    · have hM := b_else hM c94
      refine lv_aload_n hx hb dX5_readOrder_60 rfl (lv_at hl 2 rfl) ?_
      refine lv_iload hx hb dX5_readOrder_61 (lv_at hl 4 rfl) ?_
      refine g_callT_i (nA := 1) (o := M_J0_charAt_5068e σ10 z3 x5) (As := [.int x5]) X.1 hG hz3 rfl (fun _ _ h => C_J0_charAt_5068e l E h hz3) mw776 mw777 mw778 mw25 (gw_ok mw779 rfl) (by decide +kernel) rfl ⟨Nat.le_of_ble_eq_true rfl, Nat.le_of_ble_eq_true rfl⟩ hl.1 rfl (Nat.le_of_ble_eq_true rfl) ⟨Nat.le_refl _, Nat.le_refl _⟩ dX5_readOrder_63 hM (fun σ12 r13 H locs hG hM => ?_)
      refine lv_istore (lv' := [(6, .int r13), (0, .ref (E.1 k)), (1, .ref (E.1 a0)), (3, .ref (eK E z3)), (4, .int x4), (5, .int x5)]) hx hb dX5_readOrder_66 hl (by decide) rfl (fun ls hl => ?_)
      refine lv_iload hx hb dX5_readOrder_68 (lv_at hl 0 rfl) ?_
      refine lv_bipush (v := (35 : Int32)) hx hb dX5_readOrder_70 (by decide) ?_
      refine lv_icmp_eq (tgt := 86) hx hb dX5_readOrder_72 (by decide) (fun c93 => ?_) (fun c93 => ?_)
      · have hM := b_if hM c93
        refine lv_iconst (v := (0 : Int32)) hx hb dX5_readOrder_86 (by decide) ?_
        refine lv_istore (lv' := [(7, .int (0 : Int32)), (6, .int r13), (0, .ref (E.1 k)), (1, .ref (E.1 a0)), (3, .ref (eK E z3)), (4, .int x4), (5, .int x5)]) hx hb dX5_readOrder_87 hl (by decide) rfl (fun ls hl => ?_)
        refine lv_iload hx hb dX5_readOrder_89 (lv_at hl 0 rfl) ?_
        refine lv_if_eq (tgt := 107) hx hb dX5_readOrder_91 (by decide) (fun c39 => ?_) (fun c39 => ?_)
        · have hM := b_if hM c39
          refine lv_aload_n hx hb dX5_readOrder_107 rfl (lv_at hl 2 rfl) ?_
          refine lv_aload_n hx hb dX5_readOrder_108 rfl (lv_at hl 3 rfl) ?_
          refine lv_iload hx hb dX5_readOrder_109 (lv_at hl 5 rfl) ?_
          refine lv_iload hx hb dX5_readOrder_111 (lv_at hl 1 rfl) ?_
          refine lv_bipush (v := (37 : Int32)) hx hb dX5_readOrder_113 (by decide) ?_
          refine lv_icmp_ne (tgt := 122) hx hb dX5_readOrder_115 (by decide) (fun c30 => ?_) (fun c30 => ?_)
          · have hM := b_else hM c30
            refine lv_iconst (v := (0 : Int32)) hx hb dX5_readOrder_122 (by decide) ?_
            refine g_callV_i (nA := 3) (o := M_X5_readNumber σ12 k a0 x4 (0 : Int32)) (As := [.ref (E.1 a0), .int x4, .int (0 : Int32)]) X.1 hG hL rfl rfl (fun _ _ h => C_X5_readNumber l E h hL hA0) mw818 mw820 mw5 mw22 (gw_ok mw821 rfl) (by decide +kernel) rfl ⟨Nat.le_of_ble_eq_true rfl, Nat.le_of_ble_eq_true rfl⟩ hl.1 rfl (Nat.le_of_ble_eq_true rfl) ⟨Nat.le_refl _, Nat.le_refl _⟩ dX5_readOrder_123 hM (fun σ14 r15 H locs hG hM => ?_)
            refine lv_if_ne (tgt := 131) hx hb dX5_readOrder_126 (by decide) (fun c21 => ?_) (fun c21 => ?_)
            · have hM := b_else hM c21
              refine lv_iload hx hb dX5_readOrder_131 (lv_at hl 5 rfl) ?_
              refine lv_iload hx hb dX5_readOrder_133 (lv_at hl 0 rfl) ?_
              refine lv_if_eq (tgt := 142) hx hb dX5_readOrder_135 (by decide) (fun c20 => ?_) (fun c20 => ?_)
              · have hM := b_if hM c20
                refine lv_iconst (v := (1 : Int32)) hx hb dX5_readOrder_142 (by decide) ?_
                refine lv_iadd hx hb dX5_readOrder_143 ?_
                refine g_name hM (fun v16 hM => ?_)
                refine lv_istore (lv' := [(4, .int v16), (7, .int (0 : Int32)), (6, .int r13), (0, .ref (E.1 k)), (1, .ref (E.1 a0)), (3, .ref (eK E z3)), (5, .int x5)]) hx hb dX5_readOrder_144 hl (by decide) rfl (fun ls hl => ?_)
                obtain ⟨v17, ev17, hM⟩ := g_nm hM
                refine lv_iinc (v := v17) (lv' := [(5, .int v17), (4, .int v16), (7, .int (0 : Int32)), (6, .int r13), (0, .ref (E.1 k)), (1, .ref (E.1 a0)), (3, .ref (eK E z3))]) hx hb dX5_readOrder_146 hl (k := 6) rfl (by rw [ev17]; rfl) (by decide) rfl (fun ls hl => ?_)
                refine lv_goto (tgt := 51) hx hb dX5_readOrder_149 (by decide) ?_
                exact ih σ14 z3 v16 v17 _ _ _ z hz3 hG (lv_sub hl [4, 5, 6, 1, 0] rfl) hM
              · have hM := b_else hM c20
                refine lv_iconst (v := (0 : Int32)) hx hb dX5_readOrder_138 (by decide) ?_
                refine lv_goto (tgt := 143) hx hb dX5_readOrder_139 (by decide) ?_
                refine lv_iadd hx hb dX5_readOrder_143 ?_
                refine g_name hM (fun v18 hM => ?_)
                refine lv_istore (lv' := [(4, .int v18), (7, .int (0 : Int32)), (6, .int r13), (0, .ref (E.1 k)), (1, .ref (E.1 a0)), (3, .ref (eK E z3)), (5, .int x5)]) hx hb dX5_readOrder_144 hl (by decide) rfl (fun ls hl => ?_)
                obtain ⟨v19, ev19, hM⟩ := g_nm hM
                refine lv_iinc (v := v19) (lv' := [(5, .int v19), (4, .int v18), (7, .int (0 : Int32)), (6, .int r13), (0, .ref (E.1 k)), (1, .ref (E.1 a0)), (3, .ref (eK E z3))]) hx hb dX5_readOrder_146 hl (k := 6) rfl (by rw [ev19]; rfl) (by decide) rfl (fun ls hl => ?_)
                refine lv_goto (tgt := 51) hx hb dX5_readOrder_149 (by decide) ?_
                exact ih σ14 z3 v18 v19 _ _ _ z hz3 hG (lv_sub hl [4, 5, 6, 1, 0] rfl) hM
            · have hM := b_if hM c21
              refine lv_iconst (v := (0 : Int32)) hx hb dX5_readOrder_129 (by decide) ?_
              exact e_zret X hG (by decide) dX5_readOrder_130 hM
          · have hM := b_if hM c30
            refine lv_iconst (v := (1 : Int32)) hx hb dX5_readOrder_118 (by decide) ?_
            refine lv_goto (tgt := 123) hx hb dX5_readOrder_119 (by decide) ?_
            refine g_callV_i (nA := 3) (o := M_X5_readNumber σ12 k a0 x4 (1 : Int32)) (As := [.ref (E.1 a0), .int x4, .int (1 : Int32)]) X.1 hG hL rfl rfl (fun _ _ h => C_X5_readNumber l E h hL hA0) mw818 mw820 mw5 mw22 (gw_ok mw821 rfl) (by decide +kernel) rfl ⟨Nat.le_of_ble_eq_true rfl, Nat.le_of_ble_eq_true rfl⟩ hl.1 rfl (Nat.le_of_ble_eq_true rfl) ⟨Nat.le_refl _, Nat.le_refl _⟩ dX5_readOrder_123 hM (fun σ22 r23 H locs hG hM => ?_)
            refine lv_if_ne (tgt := 131) hx hb dX5_readOrder_126 (by decide) (fun c29 => ?_) (fun c29 => ?_)
            · have hM := b_else hM c29
              refine lv_iload hx hb dX5_readOrder_131 (lv_at hl 5 rfl) ?_
              refine lv_iload hx hb dX5_readOrder_133 (lv_at hl 0 rfl) ?_
              refine lv_if_eq (tgt := 142) hx hb dX5_readOrder_135 (by decide) (fun c28 => ?_) (fun c28 => ?_)
              · have hM := b_if hM c28
                refine lv_iconst (v := (1 : Int32)) hx hb dX5_readOrder_142 (by decide) ?_
                refine lv_iadd hx hb dX5_readOrder_143 ?_
                refine g_name hM (fun v24 hM => ?_)
                refine lv_istore (lv' := [(4, .int v24), (7, .int (0 : Int32)), (6, .int r13), (0, .ref (E.1 k)), (1, .ref (E.1 a0)), (3, .ref (eK E z3)), (5, .int x5)]) hx hb dX5_readOrder_144 hl (by decide) rfl (fun ls hl => ?_)
                obtain ⟨v25, ev25, hM⟩ := g_nm hM
                refine lv_iinc (v := v25) (lv' := [(5, .int v25), (4, .int v24), (7, .int (0 : Int32)), (6, .int r13), (0, .ref (E.1 k)), (1, .ref (E.1 a0)), (3, .ref (eK E z3))]) hx hb dX5_readOrder_146 hl (k := 6) rfl (by rw [ev25]; rfl) (by decide) rfl (fun ls hl => ?_)
                refine lv_goto (tgt := 51) hx hb dX5_readOrder_149 (by decide) ?_
                exact ih σ22 z3 v24 v25 _ _ _ z hz3 hG (lv_sub hl [4, 5, 6, 1, 0] rfl) hM
              · have hM := b_else hM c28
                refine lv_iconst (v := (0 : Int32)) hx hb dX5_readOrder_138 (by decide) ?_
                refine lv_goto (tgt := 143) hx hb dX5_readOrder_139 (by decide) ?_
                refine lv_iadd hx hb dX5_readOrder_143 ?_
                refine g_name hM (fun v26 hM => ?_)
                refine lv_istore (lv' := [(4, .int v26), (7, .int (0 : Int32)), (6, .int r13), (0, .ref (E.1 k)), (1, .ref (E.1 a0)), (3, .ref (eK E z3)), (5, .int x5)]) hx hb dX5_readOrder_144 hl (by decide) rfl (fun ls hl => ?_)
                obtain ⟨v27, ev27, hM⟩ := g_nm hM
                refine lv_iinc (v := v27) (lv' := [(5, .int v27), (4, .int v26), (7, .int (0 : Int32)), (6, .int r13), (0, .ref (E.1 k)), (1, .ref (E.1 a0)), (3, .ref (eK E z3))]) hx hb dX5_readOrder_146 hl (k := 6) rfl (by rw [ev27]; rfl) (by decide) rfl (fun ls hl => ?_)
                refine lv_goto (tgt := 51) hx hb dX5_readOrder_149 (by decide) ?_
                exact ih σ22 z3 v26 v27 _ _ _ z hz3 hG (lv_sub hl [4, 5, 6, 1, 0] rfl) hM
            · have hM := b_if hM c29
              refine lv_iconst (v := (0 : Int32)) hx hb dX5_readOrder_129 (by decide) ?_
              exact e_zret X hG (by decide) dX5_readOrder_130 hM
        · have hM := b_else hM c39
          refine lv_aload_n hx hb dX5_readOrder_94 rfl (lv_at hl 2 rfl) ?_
          refine lv_aload_n hx hb dX5_readOrder_95 rfl (lv_at hl 3 rfl) ?_
          refine lv_iload hx hb dX5_readOrder_96 (lv_at hl 1 rfl) ?_
          refine g_callV_i (nA := 2) (o := M_X5_readSign σ12 k a0 r13) (As := [.ref (E.1 a0), .int r13]) X.1 hG hL rfl rfl (fun _ _ h => C_X5_readSign l E h hL hA0) mw814 mw816 mw4 mw22 (gw_ok mw817 rfl) (by decide +kernel) rfl ⟨Nat.le_of_ble_eq_true rfl, Nat.le_of_ble_eq_true rfl⟩ hl.1 rfl (Nat.le_of_ble_eq_true rfl) ⟨Nat.le_refl _, Nat.le_refl _⟩ dX5_readOrder_98 hM (fun σ31 r32 H locs hG hM => ?_)
          refine lv_if_ne (tgt := 131) hx hb dX5_readOrder_101 (by decide) (fun c38 => ?_) (fun c38 => ?_)
          · have hM := b_else hM c38
            refine lv_iload hx hb dX5_readOrder_131 (lv_at hl 5 rfl) ?_
            refine lv_iload hx hb dX5_readOrder_133 (lv_at hl 0 rfl) ?_
            refine lv_if_eq (tgt := 142) hx hb dX5_readOrder_135 (by decide) (fun c37 => ?_) (fun c37 => ?_)
            · have hM := b_if hM c37
              refine lv_iconst (v := (1 : Int32)) hx hb dX5_readOrder_142 (by decide) ?_
              refine lv_iadd hx hb dX5_readOrder_143 ?_
              refine g_name hM (fun v33 hM => ?_)
              refine lv_istore (lv' := [(4, .int v33), (7, .int (0 : Int32)), (6, .int r13), (0, .ref (E.1 k)), (1, .ref (E.1 a0)), (3, .ref (eK E z3)), (5, .int x5)]) hx hb dX5_readOrder_144 hl (by decide) rfl (fun ls hl => ?_)
              obtain ⟨v34, ev34, hM⟩ := g_nm hM
              refine lv_iinc (v := v34) (lv' := [(5, .int v34), (4, .int v33), (7, .int (0 : Int32)), (6, .int r13), (0, .ref (E.1 k)), (1, .ref (E.1 a0)), (3, .ref (eK E z3))]) hx hb dX5_readOrder_146 hl (k := 6) rfl (by rw [ev34]; rfl) (by decide) rfl (fun ls hl => ?_)
              refine lv_goto (tgt := 51) hx hb dX5_readOrder_149 (by decide) ?_
              exact ih σ31 z3 v33 v34 _ _ _ z hz3 hG (lv_sub hl [4, 5, 6, 1, 0] rfl) hM
            · have hM := b_else hM c37
              refine lv_iconst (v := (0 : Int32)) hx hb dX5_readOrder_138 (by decide) ?_
              refine lv_goto (tgt := 143) hx hb dX5_readOrder_139 (by decide) ?_
              refine lv_iadd hx hb dX5_readOrder_143 ?_
              refine g_name hM (fun v35 hM => ?_)
              refine lv_istore (lv' := [(4, .int v35), (7, .int (0 : Int32)), (6, .int r13), (0, .ref (E.1 k)), (1, .ref (E.1 a0)), (3, .ref (eK E z3)), (5, .int x5)]) hx hb dX5_readOrder_144 hl (by decide) rfl (fun ls hl => ?_)
              obtain ⟨v36, ev36, hM⟩ := g_nm hM
              refine lv_iinc (v := v36) (lv' := [(5, .int v36), (4, .int v35), (7, .int (0 : Int32)), (6, .int r13), (0, .ref (E.1 k)), (1, .ref (E.1 a0)), (3, .ref (eK E z3))]) hx hb dX5_readOrder_146 hl (k := 6) rfl (by rw [ev36]; rfl) (by decide) rfl (fun ls hl => ?_)
              refine lv_goto (tgt := 51) hx hb dX5_readOrder_149 (by decide) ?_
              exact ih σ31 z3 v35 v36 _ _ _ z hz3 hG (lv_sub hl [4, 5, 6, 1, 0] rfl) hM
          · have hM := b_if hM c38
            refine lv_goto (tgt := 129) hx hb dX5_readOrder_104 (by decide) ?_
            refine lv_iconst (v := (0 : Int32)) hx hb dX5_readOrder_129 (by decide) ?_
            exact e_zret X hG (by decide) dX5_readOrder_130 hM
      · have hM := b_else hM c93
        refine lv_iload hx hb dX5_readOrder_75 (lv_at hl 0 rfl) ?_
        refine lv_bipush (v := (37 : Int32)) hx hb dX5_readOrder_77 (by decide) ?_
        refine lv_icmp_eq (tgt := 86) hx hb dX5_readOrder_79 (by decide) (fun c92 => ?_) (fun c92 => ?_)
        · have hM := b_if hM c92
          refine lv_iconst (v := (0 : Int32)) hx hb dX5_readOrder_86 (by decide) ?_
          refine lv_istore (lv' := [(7, .int (0 : Int32)), (6, .int r13), (0, .ref (E.1 k)), (1, .ref (E.1 a0)), (3, .ref (eK E z3)), (4, .int x4), (5, .int x5)]) hx hb dX5_readOrder_87 hl (by decide) rfl (fun ls hl => ?_)
          refine lv_iload hx hb dX5_readOrder_89 (lv_at hl 0 rfl) ?_
          refine lv_if_eq (tgt := 107) hx hb dX5_readOrder_91 (by decide) (fun c65 => ?_) (fun c65 => ?_)
          · have hM := b_if hM c65
            refine lv_aload_n hx hb dX5_readOrder_107 rfl (lv_at hl 2 rfl) ?_
            refine lv_aload_n hx hb dX5_readOrder_108 rfl (lv_at hl 3 rfl) ?_
            refine lv_iload hx hb dX5_readOrder_109 (lv_at hl 5 rfl) ?_
            refine lv_iload hx hb dX5_readOrder_111 (lv_at hl 1 rfl) ?_
            refine lv_bipush (v := (37 : Int32)) hx hb dX5_readOrder_113 (by decide) ?_
            refine lv_icmp_ne (tgt := 122) hx hb dX5_readOrder_115 (by decide) (fun c56 => ?_) (fun c56 => ?_)
            · have hM := b_else hM c56
              refine lv_iconst (v := (0 : Int32)) hx hb dX5_readOrder_122 (by decide) ?_
              refine g_callV_i (nA := 3) (o := M_X5_readNumber σ12 k a0 x4 (0 : Int32)) (As := [.ref (E.1 a0), .int x4, .int (0 : Int32)]) X.1 hG hL rfl rfl (fun _ _ h => C_X5_readNumber l E h hL hA0) mw818 mw820 mw5 mw22 (gw_ok mw821 rfl) (by decide +kernel) rfl ⟨Nat.le_of_ble_eq_true rfl, Nat.le_of_ble_eq_true rfl⟩ hl.1 rfl (Nat.le_of_ble_eq_true rfl) ⟨Nat.le_refl _, Nat.le_refl _⟩ dX5_readOrder_123 hM (fun σ40 r41 H locs hG hM => ?_)
              refine lv_if_ne (tgt := 131) hx hb dX5_readOrder_126 (by decide) (fun c47 => ?_) (fun c47 => ?_)
              · have hM := b_else hM c47
                refine lv_iload hx hb dX5_readOrder_131 (lv_at hl 5 rfl) ?_
                refine lv_iload hx hb dX5_readOrder_133 (lv_at hl 0 rfl) ?_
                refine lv_if_eq (tgt := 142) hx hb dX5_readOrder_135 (by decide) (fun c46 => ?_) (fun c46 => ?_)
                · have hM := b_if hM c46
                  refine lv_iconst (v := (1 : Int32)) hx hb dX5_readOrder_142 (by decide) ?_
                  refine lv_iadd hx hb dX5_readOrder_143 ?_
                  refine g_name hM (fun v42 hM => ?_)
                  refine lv_istore (lv' := [(4, .int v42), (7, .int (0 : Int32)), (6, .int r13), (0, .ref (E.1 k)), (1, .ref (E.1 a0)), (3, .ref (eK E z3)), (5, .int x5)]) hx hb dX5_readOrder_144 hl (by decide) rfl (fun ls hl => ?_)
                  obtain ⟨v43, ev43, hM⟩ := g_nm hM
                  refine lv_iinc (v := v43) (lv' := [(5, .int v43), (4, .int v42), (7, .int (0 : Int32)), (6, .int r13), (0, .ref (E.1 k)), (1, .ref (E.1 a0)), (3, .ref (eK E z3))]) hx hb dX5_readOrder_146 hl (k := 6) rfl (by rw [ev43]; rfl) (by decide) rfl (fun ls hl => ?_)
                  refine lv_goto (tgt := 51) hx hb dX5_readOrder_149 (by decide) ?_
                  exact ih σ40 z3 v42 v43 _ _ _ z hz3 hG (lv_sub hl [4, 5, 6, 1, 0] rfl) hM
                · have hM := b_else hM c46
                  refine lv_iconst (v := (0 : Int32)) hx hb dX5_readOrder_138 (by decide) ?_
                  refine lv_goto (tgt := 143) hx hb dX5_readOrder_139 (by decide) ?_
                  refine lv_iadd hx hb dX5_readOrder_143 ?_
                  refine g_name hM (fun v44 hM => ?_)
                  refine lv_istore (lv' := [(4, .int v44), (7, .int (0 : Int32)), (6, .int r13), (0, .ref (E.1 k)), (1, .ref (E.1 a0)), (3, .ref (eK E z3)), (5, .int x5)]) hx hb dX5_readOrder_144 hl (by decide) rfl (fun ls hl => ?_)
                  obtain ⟨v45, ev45, hM⟩ := g_nm hM
                  refine lv_iinc (v := v45) (lv' := [(5, .int v45), (4, .int v44), (7, .int (0 : Int32)), (6, .int r13), (0, .ref (E.1 k)), (1, .ref (E.1 a0)), (3, .ref (eK E z3))]) hx hb dX5_readOrder_146 hl (k := 6) rfl (by rw [ev45]; rfl) (by decide) rfl (fun ls hl => ?_)
                  refine lv_goto (tgt := 51) hx hb dX5_readOrder_149 (by decide) ?_
                  exact ih σ40 z3 v44 v45 _ _ _ z hz3 hG (lv_sub hl [4, 5, 6, 1, 0] rfl) hM
              · have hM := b_if hM c47
                refine lv_iconst (v := (0 : Int32)) hx hb dX5_readOrder_129 (by decide) ?_
                exact e_zret X hG (by decide) dX5_readOrder_130 hM
            · have hM := b_if hM c56
              refine lv_iconst (v := (1 : Int32)) hx hb dX5_readOrder_118 (by decide) ?_
              refine lv_goto (tgt := 123) hx hb dX5_readOrder_119 (by decide) ?_
              refine g_callV_i (nA := 3) (o := M_X5_readNumber σ12 k a0 x4 (1 : Int32)) (As := [.ref (E.1 a0), .int x4, .int (1 : Int32)]) X.1 hG hL rfl rfl (fun _ _ h => C_X5_readNumber l E h hL hA0) mw818 mw820 mw5 mw22 (gw_ok mw821 rfl) (by decide +kernel) rfl ⟨Nat.le_of_ble_eq_true rfl, Nat.le_of_ble_eq_true rfl⟩ hl.1 rfl (Nat.le_of_ble_eq_true rfl) ⟨Nat.le_refl _, Nat.le_refl _⟩ dX5_readOrder_123 hM (fun σ48 r49 H locs hG hM => ?_)
              refine lv_if_ne (tgt := 131) hx hb dX5_readOrder_126 (by decide) (fun c55 => ?_) (fun c55 => ?_)
              · have hM := b_else hM c55
                refine lv_iload hx hb dX5_readOrder_131 (lv_at hl 5 rfl) ?_
                refine lv_iload hx hb dX5_readOrder_133 (lv_at hl 0 rfl) ?_
                refine lv_if_eq (tgt := 142) hx hb dX5_readOrder_135 (by decide) (fun c54 => ?_) (fun c54 => ?_)
                · have hM := b_if hM c54
                  refine lv_iconst (v := (1 : Int32)) hx hb dX5_readOrder_142 (by decide) ?_
                  refine lv_iadd hx hb dX5_readOrder_143 ?_
                  refine g_name hM (fun v50 hM => ?_)
                  refine lv_istore (lv' := [(4, .int v50), (7, .int (0 : Int32)), (6, .int r13), (0, .ref (E.1 k)), (1, .ref (E.1 a0)), (3, .ref (eK E z3)), (5, .int x5)]) hx hb dX5_readOrder_144 hl (by decide) rfl (fun ls hl => ?_)
                  obtain ⟨v51, ev51, hM⟩ := g_nm hM
                  refine lv_iinc (v := v51) (lv' := [(5, .int v51), (4, .int v50), (7, .int (0 : Int32)), (6, .int r13), (0, .ref (E.1 k)), (1, .ref (E.1 a0)), (3, .ref (eK E z3))]) hx hb dX5_readOrder_146 hl (k := 6) rfl (by rw [ev51]; rfl) (by decide) rfl (fun ls hl => ?_)
                  refine lv_goto (tgt := 51) hx hb dX5_readOrder_149 (by decide) ?_
                  exact ih σ48 z3 v50 v51 _ _ _ z hz3 hG (lv_sub hl [4, 5, 6, 1, 0] rfl) hM
                · have hM := b_else hM c54
                  refine lv_iconst (v := (0 : Int32)) hx hb dX5_readOrder_138 (by decide) ?_
                  refine lv_goto (tgt := 143) hx hb dX5_readOrder_139 (by decide) ?_
                  refine lv_iadd hx hb dX5_readOrder_143 ?_
                  refine g_name hM (fun v52 hM => ?_)
                  refine lv_istore (lv' := [(4, .int v52), (7, .int (0 : Int32)), (6, .int r13), (0, .ref (E.1 k)), (1, .ref (E.1 a0)), (3, .ref (eK E z3)), (5, .int x5)]) hx hb dX5_readOrder_144 hl (by decide) rfl (fun ls hl => ?_)
                  obtain ⟨v53, ev53, hM⟩ := g_nm hM
                  refine lv_iinc (v := v53) (lv' := [(5, .int v53), (4, .int v52), (7, .int (0 : Int32)), (6, .int r13), (0, .ref (E.1 k)), (1, .ref (E.1 a0)), (3, .ref (eK E z3))]) hx hb dX5_readOrder_146 hl (k := 6) rfl (by rw [ev53]; rfl) (by decide) rfl (fun ls hl => ?_)
                  refine lv_goto (tgt := 51) hx hb dX5_readOrder_149 (by decide) ?_
                  exact ih σ48 z3 v52 v53 _ _ _ z hz3 hG (lv_sub hl [4, 5, 6, 1, 0] rfl) hM
              · have hM := b_if hM c55
                refine lv_iconst (v := (0 : Int32)) hx hb dX5_readOrder_129 (by decide) ?_
                exact e_zret X hG (by decide) dX5_readOrder_130 hM
          · have hM := b_else hM c65
            refine lv_aload_n hx hb dX5_readOrder_94 rfl (lv_at hl 2 rfl) ?_
            refine lv_aload_n hx hb dX5_readOrder_95 rfl (lv_at hl 3 rfl) ?_
            refine lv_iload hx hb dX5_readOrder_96 (lv_at hl 1 rfl) ?_
            refine g_callV_i (nA := 2) (o := M_X5_readSign σ12 k a0 r13) (As := [.ref (E.1 a0), .int r13]) X.1 hG hL rfl rfl (fun _ _ h => C_X5_readSign l E h hL hA0) mw814 mw816 mw4 mw22 (gw_ok mw817 rfl) (by decide +kernel) rfl ⟨Nat.le_of_ble_eq_true rfl, Nat.le_of_ble_eq_true rfl⟩ hl.1 rfl (Nat.le_of_ble_eq_true rfl) ⟨Nat.le_refl _, Nat.le_refl _⟩ dX5_readOrder_98 hM (fun σ57 r58 H locs hG hM => ?_)
            refine lv_if_ne (tgt := 131) hx hb dX5_readOrder_101 (by decide) (fun c64 => ?_) (fun c64 => ?_)
            · have hM := b_else hM c64
              refine lv_iload hx hb dX5_readOrder_131 (lv_at hl 5 rfl) ?_
              refine lv_iload hx hb dX5_readOrder_133 (lv_at hl 0 rfl) ?_
              refine lv_if_eq (tgt := 142) hx hb dX5_readOrder_135 (by decide) (fun c63 => ?_) (fun c63 => ?_)
              · have hM := b_if hM c63
                refine lv_iconst (v := (1 : Int32)) hx hb dX5_readOrder_142 (by decide) ?_
                refine lv_iadd hx hb dX5_readOrder_143 ?_
                refine g_name hM (fun v59 hM => ?_)
                refine lv_istore (lv' := [(4, .int v59), (7, .int (0 : Int32)), (6, .int r13), (0, .ref (E.1 k)), (1, .ref (E.1 a0)), (3, .ref (eK E z3)), (5, .int x5)]) hx hb dX5_readOrder_144 hl (by decide) rfl (fun ls hl => ?_)
                obtain ⟨v60, ev60, hM⟩ := g_nm hM
                refine lv_iinc (v := v60) (lv' := [(5, .int v60), (4, .int v59), (7, .int (0 : Int32)), (6, .int r13), (0, .ref (E.1 k)), (1, .ref (E.1 a0)), (3, .ref (eK E z3))]) hx hb dX5_readOrder_146 hl (k := 6) rfl (by rw [ev60]; rfl) (by decide) rfl (fun ls hl => ?_)
                refine lv_goto (tgt := 51) hx hb dX5_readOrder_149 (by decide) ?_
                exact ih σ57 z3 v59 v60 _ _ _ z hz3 hG (lv_sub hl [4, 5, 6, 1, 0] rfl) hM
              · have hM := b_else hM c63
                refine lv_iconst (v := (0 : Int32)) hx hb dX5_readOrder_138 (by decide) ?_
                refine lv_goto (tgt := 143) hx hb dX5_readOrder_139 (by decide) ?_
                refine lv_iadd hx hb dX5_readOrder_143 ?_
                refine g_name hM (fun v61 hM => ?_)
                refine lv_istore (lv' := [(4, .int v61), (7, .int (0 : Int32)), (6, .int r13), (0, .ref (E.1 k)), (1, .ref (E.1 a0)), (3, .ref (eK E z3)), (5, .int x5)]) hx hb dX5_readOrder_144 hl (by decide) rfl (fun ls hl => ?_)
                obtain ⟨v62, ev62, hM⟩ := g_nm hM
                refine lv_iinc (v := v62) (lv' := [(5, .int v62), (4, .int v61), (7, .int (0 : Int32)), (6, .int r13), (0, .ref (E.1 k)), (1, .ref (E.1 a0)), (3, .ref (eK E z3))]) hx hb dX5_readOrder_146 hl (k := 6) rfl (by rw [ev62]; rfl) (by decide) rfl (fun ls hl => ?_)
                refine lv_goto (tgt := 51) hx hb dX5_readOrder_149 (by decide) ?_
                exact ih σ57 z3 v61 v62 _ _ _ z hz3 hG (lv_sub hl [4, 5, 6, 1, 0] rfl) hM
            · have hM := b_if hM c64
              refine lv_goto (tgt := 129) hx hb dX5_readOrder_104 (by decide) ?_
              refine lv_iconst (v := (0 : Int32)) hx hb dX5_readOrder_129 (by decide) ?_
              exact e_zret X hG (by decide) dX5_readOrder_130 hM
        · have hM := b_else hM c92
          refine lv_iconst (v := (1 : Int32)) hx hb dX5_readOrder_82 (by decide) ?_
          refine lv_goto (tgt := 87) hx hb dX5_readOrder_83 (by decide) ?_
          refine lv_istore (lv' := [(7, .int (1 : Int32)), (6, .int r13), (0, .ref (E.1 k)), (1, .ref (E.1 a0)), (3, .ref (eK E z3)), (4, .int x4), (5, .int x5)]) hx hb dX5_readOrder_87 hl (by decide) rfl (fun ls hl => ?_)
          refine lv_iload hx hb dX5_readOrder_89 (lv_at hl 0 rfl) ?_
          refine lv_if_eq (tgt := 107) hx hb dX5_readOrder_91 (by decide) (fun c91 => ?_) (fun c91 => ?_)
          · have hM := b_if hM c91
            refine lv_aload_n hx hb dX5_readOrder_107 rfl (lv_at hl 2 rfl) ?_
            refine lv_aload_n hx hb dX5_readOrder_108 rfl (lv_at hl 3 rfl) ?_
            refine lv_iload hx hb dX5_readOrder_109 (lv_at hl 5 rfl) ?_
            refine lv_iload hx hb dX5_readOrder_111 (lv_at hl 1 rfl) ?_
            refine lv_bipush (v := (37 : Int32)) hx hb dX5_readOrder_113 (by decide) ?_
            refine lv_icmp_ne (tgt := 122) hx hb dX5_readOrder_115 (by decide) (fun c82 => ?_) (fun c82 => ?_)
            · have hM := b_else hM c82
              refine lv_iconst (v := (0 : Int32)) hx hb dX5_readOrder_122 (by decide) ?_
              refine g_callV_i (nA := 3) (o := M_X5_readNumber σ12 k a0 x4 (0 : Int32)) (As := [.ref (E.1 a0), .int x4, .int (0 : Int32)]) X.1 hG hL rfl rfl (fun _ _ h => C_X5_readNumber l E h hL hA0) mw818 mw820 mw5 mw22 (gw_ok mw821 rfl) (by decide +kernel) rfl ⟨Nat.le_of_ble_eq_true rfl, Nat.le_of_ble_eq_true rfl⟩ hl.1 rfl (Nat.le_of_ble_eq_true rfl) ⟨Nat.le_refl _, Nat.le_refl _⟩ dX5_readOrder_123 hM (fun σ66 r67 H locs hG hM => ?_)
              refine lv_if_ne (tgt := 131) hx hb dX5_readOrder_126 (by decide) (fun c73 => ?_) (fun c73 => ?_)
              · have hM := b_else hM c73
                refine lv_iload hx hb dX5_readOrder_131 (lv_at hl 5 rfl) ?_
                refine lv_iload hx hb dX5_readOrder_133 (lv_at hl 0 rfl) ?_
                refine lv_if_eq (tgt := 142) hx hb dX5_readOrder_135 (by decide) (fun c72 => ?_) (fun c72 => ?_)
                · have hM := b_if hM c72
                  refine lv_iconst (v := (1 : Int32)) hx hb dX5_readOrder_142 (by decide) ?_
                  refine lv_iadd hx hb dX5_readOrder_143 ?_
                  refine g_name hM (fun v68 hM => ?_)
                  refine lv_istore (lv' := [(4, .int v68), (7, .int (1 : Int32)), (6, .int r13), (0, .ref (E.1 k)), (1, .ref (E.1 a0)), (3, .ref (eK E z3)), (5, .int x5)]) hx hb dX5_readOrder_144 hl (by decide) rfl (fun ls hl => ?_)
                  obtain ⟨v69, ev69, hM⟩ := g_nm hM
                  refine lv_iinc (v := v69) (lv' := [(5, .int v69), (4, .int v68), (7, .int (1 : Int32)), (6, .int r13), (0, .ref (E.1 k)), (1, .ref (E.1 a0)), (3, .ref (eK E z3))]) hx hb dX5_readOrder_146 hl (k := 6) rfl (by rw [ev69]; rfl) (by decide) rfl (fun ls hl => ?_)
                  refine lv_goto (tgt := 51) hx hb dX5_readOrder_149 (by decide) ?_
                  exact ih σ66 z3 v68 v69 _ _ _ z hz3 hG (lv_sub hl [4, 5, 6, 1, 0] rfl) hM
                · have hM := b_else hM c72
                  refine lv_iconst (v := (0 : Int32)) hx hb dX5_readOrder_138 (by decide) ?_
                  refine lv_goto (tgt := 143) hx hb dX5_readOrder_139 (by decide) ?_
                  refine lv_iadd hx hb dX5_readOrder_143 ?_
                  refine g_name hM (fun v70 hM => ?_)
                  refine lv_istore (lv' := [(4, .int v70), (7, .int (1 : Int32)), (6, .int r13), (0, .ref (E.1 k)), (1, .ref (E.1 a0)), (3, .ref (eK E z3)), (5, .int x5)]) hx hb dX5_readOrder_144 hl (by decide) rfl (fun ls hl => ?_)
                  obtain ⟨v71, ev71, hM⟩ := g_nm hM
                  refine lv_iinc (v := v71) (lv' := [(5, .int v71), (4, .int v70), (7, .int (1 : Int32)), (6, .int r13), (0, .ref (E.1 k)), (1, .ref (E.1 a0)), (3, .ref (eK E z3))]) hx hb dX5_readOrder_146 hl (k := 6) rfl (by rw [ev71]; rfl) (by decide) rfl (fun ls hl => ?_)
                  refine lv_goto (tgt := 51) hx hb dX5_readOrder_149 (by decide) ?_
                  exact ih σ66 z3 v70 v71 _ _ _ z hz3 hG (lv_sub hl [4, 5, 6, 1, 0] rfl) hM
              · have hM := b_if hM c73
                refine lv_iconst (v := (0 : Int32)) hx hb dX5_readOrder_129 (by decide) ?_
                exact e_zret X hG (by decide) dX5_readOrder_130 hM
            · have hM := b_if hM c82
              refine lv_iconst (v := (1 : Int32)) hx hb dX5_readOrder_118 (by decide) ?_
              refine lv_goto (tgt := 123) hx hb dX5_readOrder_119 (by decide) ?_
              refine g_callV_i (nA := 3) (o := M_X5_readNumber σ12 k a0 x4 (1 : Int32)) (As := [.ref (E.1 a0), .int x4, .int (1 : Int32)]) X.1 hG hL rfl rfl (fun _ _ h => C_X5_readNumber l E h hL hA0) mw818 mw820 mw5 mw22 (gw_ok mw821 rfl) (by decide +kernel) rfl ⟨Nat.le_of_ble_eq_true rfl, Nat.le_of_ble_eq_true rfl⟩ hl.1 rfl (Nat.le_of_ble_eq_true rfl) ⟨Nat.le_refl _, Nat.le_refl _⟩ dX5_readOrder_123 hM (fun σ74 r75 H locs hG hM => ?_)
              refine lv_if_ne (tgt := 131) hx hb dX5_readOrder_126 (by decide) (fun c81 => ?_) (fun c81 => ?_)
              · have hM := b_else hM c81
                refine lv_iload hx hb dX5_readOrder_131 (lv_at hl 5 rfl) ?_
                refine lv_iload hx hb dX5_readOrder_133 (lv_at hl 0 rfl) ?_
                refine lv_if_eq (tgt := 142) hx hb dX5_readOrder_135 (by decide) (fun c80 => ?_) (fun c80 => ?_)
                · have hM := b_if hM c80
                  refine lv_iconst (v := (1 : Int32)) hx hb dX5_readOrder_142 (by decide) ?_
                  refine lv_iadd hx hb dX5_readOrder_143 ?_
                  refine g_name hM (fun v76 hM => ?_)
                  refine lv_istore (lv' := [(4, .int v76), (7, .int (1 : Int32)), (6, .int r13), (0, .ref (E.1 k)), (1, .ref (E.1 a0)), (3, .ref (eK E z3)), (5, .int x5)]) hx hb dX5_readOrder_144 hl (by decide) rfl (fun ls hl => ?_)
                  obtain ⟨v77, ev77, hM⟩ := g_nm hM
                  refine lv_iinc (v := v77) (lv' := [(5, .int v77), (4, .int v76), (7, .int (1 : Int32)), (6, .int r13), (0, .ref (E.1 k)), (1, .ref (E.1 a0)), (3, .ref (eK E z3))]) hx hb dX5_readOrder_146 hl (k := 6) rfl (by rw [ev77]; rfl) (by decide) rfl (fun ls hl => ?_)
                  refine lv_goto (tgt := 51) hx hb dX5_readOrder_149 (by decide) ?_
                  exact ih σ74 z3 v76 v77 _ _ _ z hz3 hG (lv_sub hl [4, 5, 6, 1, 0] rfl) hM
                · have hM := b_else hM c80
                  refine lv_iconst (v := (0 : Int32)) hx hb dX5_readOrder_138 (by decide) ?_
                  refine lv_goto (tgt := 143) hx hb dX5_readOrder_139 (by decide) ?_
                  refine lv_iadd hx hb dX5_readOrder_143 ?_
                  refine g_name hM (fun v78 hM => ?_)
                  refine lv_istore (lv' := [(4, .int v78), (7, .int (1 : Int32)), (6, .int r13), (0, .ref (E.1 k)), (1, .ref (E.1 a0)), (3, .ref (eK E z3)), (5, .int x5)]) hx hb dX5_readOrder_144 hl (by decide) rfl (fun ls hl => ?_)
                  obtain ⟨v79, ev79, hM⟩ := g_nm hM
                  refine lv_iinc (v := v79) (lv' := [(5, .int v79), (4, .int v78), (7, .int (1 : Int32)), (6, .int r13), (0, .ref (E.1 k)), (1, .ref (E.1 a0)), (3, .ref (eK E z3))]) hx hb dX5_readOrder_146 hl (k := 6) rfl (by rw [ev79]; rfl) (by decide) rfl (fun ls hl => ?_)
                  refine lv_goto (tgt := 51) hx hb dX5_readOrder_149 (by decide) ?_
                  exact ih σ74 z3 v78 v79 _ _ _ z hz3 hG (lv_sub hl [4, 5, 6, 1, 0] rfl) hM
              · have hM := b_if hM c81
                refine lv_iconst (v := (0 : Int32)) hx hb dX5_readOrder_129 (by decide) ?_
                exact e_zret X hG (by decide) dX5_readOrder_130 hM
          · have hM := b_else hM c91
            refine lv_aload_n hx hb dX5_readOrder_94 rfl (lv_at hl 2 rfl) ?_
            refine lv_aload_n hx hb dX5_readOrder_95 rfl (lv_at hl 3 rfl) ?_
            refine lv_iload hx hb dX5_readOrder_96 (lv_at hl 1 rfl) ?_
            refine g_callV_i (nA := 2) (o := M_X5_readSign σ12 k a0 r13) (As := [.ref (E.1 a0), .int r13]) X.1 hG hL rfl rfl (fun _ _ h => C_X5_readSign l E h hL hA0) mw814 mw816 mw4 mw22 (gw_ok mw817 rfl) (by decide +kernel) rfl ⟨Nat.le_of_ble_eq_true rfl, Nat.le_of_ble_eq_true rfl⟩ hl.1 rfl (Nat.le_of_ble_eq_true rfl) ⟨Nat.le_refl _, Nat.le_refl _⟩ dX5_readOrder_98 hM (fun σ83 r84 H locs hG hM => ?_)
            refine lv_if_ne (tgt := 131) hx hb dX5_readOrder_101 (by decide) (fun c90 => ?_) (fun c90 => ?_)
            · have hM := b_else hM c90
              refine lv_iload hx hb dX5_readOrder_131 (lv_at hl 5 rfl) ?_
              refine lv_iload hx hb dX5_readOrder_133 (lv_at hl 0 rfl) ?_
              refine lv_if_eq (tgt := 142) hx hb dX5_readOrder_135 (by decide) (fun c89 => ?_) (fun c89 => ?_)
              · have hM := b_if hM c89
                refine lv_iconst (v := (1 : Int32)) hx hb dX5_readOrder_142 (by decide) ?_
                refine lv_iadd hx hb dX5_readOrder_143 ?_
                refine g_name hM (fun v85 hM => ?_)
                refine lv_istore (lv' := [(4, .int v85), (7, .int (1 : Int32)), (6, .int r13), (0, .ref (E.1 k)), (1, .ref (E.1 a0)), (3, .ref (eK E z3)), (5, .int x5)]) hx hb dX5_readOrder_144 hl (by decide) rfl (fun ls hl => ?_)
                obtain ⟨v86, ev86, hM⟩ := g_nm hM
                refine lv_iinc (v := v86) (lv' := [(5, .int v86), (4, .int v85), (7, .int (1 : Int32)), (6, .int r13), (0, .ref (E.1 k)), (1, .ref (E.1 a0)), (3, .ref (eK E z3))]) hx hb dX5_readOrder_146 hl (k := 6) rfl (by rw [ev86]; rfl) (by decide) rfl (fun ls hl => ?_)
                refine lv_goto (tgt := 51) hx hb dX5_readOrder_149 (by decide) ?_
                exact ih σ83 z3 v85 v86 _ _ _ z hz3 hG (lv_sub hl [4, 5, 6, 1, 0] rfl) hM
              · have hM := b_else hM c89
                refine lv_iconst (v := (0 : Int32)) hx hb dX5_readOrder_138 (by decide) ?_
                refine lv_goto (tgt := 143) hx hb dX5_readOrder_139 (by decide) ?_
                refine lv_iadd hx hb dX5_readOrder_143 ?_
                refine g_name hM (fun v87 hM => ?_)
                refine lv_istore (lv' := [(4, .int v87), (7, .int (1 : Int32)), (6, .int r13), (0, .ref (E.1 k)), (1, .ref (E.1 a0)), (3, .ref (eK E z3)), (5, .int x5)]) hx hb dX5_readOrder_144 hl (by decide) rfl (fun ls hl => ?_)
                obtain ⟨v88, ev88, hM⟩ := g_nm hM
                refine lv_iinc (v := v88) (lv' := [(5, .int v88), (4, .int v87), (7, .int (1 : Int32)), (6, .int r13), (0, .ref (E.1 k)), (1, .ref (E.1 a0)), (3, .ref (eK E z3))]) hx hb dX5_readOrder_146 hl (k := 6) rfl (by rw [ev88]; rfl) (by decide) rfl (fun ls hl => ?_)
                refine lv_goto (tgt := 51) hx hb dX5_readOrder_149 (by decide) ?_
                exact ih σ83 z3 v87 v88 _ _ _ z hz3 hG (lv_sub hl [4, 5, 6, 1, 0] rfl) hM
            · have hM := b_if hM c90
              refine lv_goto (tgt := 129) hx hb dX5_readOrder_104 (by decide) ?_
              refine lv_iconst (v := (0 : Int32)) hx hb dX5_readOrder_129 (by decide) ?_
              exact e_zret X hG (by decide) dX5_readOrder_130 hM
set_option maxRecDepth 20000 in
set_option maxHeartbeats 4000000 in
theorem C_X5_readOrder (l : Launch) (E : Ev) {σ σ' : St} {k : Nat} {a0 : Nat} {r : Int32} (h : M_X5_readOrder σ k a0 = some (σ', r)) (hL : lay 5 k) (hA0 : lay 4 a0) : Mi l E yX5_readOrder cX5_readOrder 8 (some .boolean) 5 [.ref (E.1 k), .ref (E.1 a0)] σ σ' r := by
  refine Mi_of (C := RX5) rfl (by decide) (Nat.le_of_ble_eq_true rfl) (z := (σ', r)) (fun p e s m below meth c ls X hG hl => ?_)
  have hx := X.1.1.1
  have hb := X.1.1.2.1
  have hM := h
  unfold M_X5_readOrder at hM
  generalize (σ', r) = z at hM ⊢
  have hl : lv_has ls 8 [(0, .ref (E.1 k)), (1, .ref (E.1 a0))] := hl
  refine lv_aload_n hx hb dX5_readOrder_0 rfl (lv_at hl 1 rfl) ?_
  refine lv_aload_n hx hb dX5_readOrder_1 rfl (lv_at hl 0 rfl) ?_
  refine gt_5_3 X.1 hG hL mw289 dX5_readOrder_2 ?_
  refine g_callV_i (nA := 1) (o := M_X4_signAt σ a0 (σ k 3)) (As := [.int (σ k 3)]) X.1 hG hA0 rfl rfl (fun _ _ h => C_X4_signAt l E h hA0) mw748 mw749 mw750 mw21 (gw_ok mw751 rfl) (by decide +kernel) rfl ⟨Nat.le_of_ble_eq_true rfl, Nat.le_of_ble_eq_true rfl⟩ hl.1 rfl (Nat.le_of_ble_eq_true rfl) ⟨Nat.le_refl _, Nat.le_refl _⟩ dX5_readOrder_5 hM (fun σ1 r2 H locs hG hM => ?_)
  refine lv_istore_n (lv' := [(2, .int r2), (0, .ref (E.1 k)), (1, .ref (E.1 a0))]) hx hb dX5_readOrder_8 rfl hl (by decide) rfl (fun ls hl => ?_)
  refine lv_iload_n hx hb dX5_readOrder_9 rfl (lv_at hl 0 rfl) ?_
  refine g_callS_s (nA := 1) (o := M_X5_formOf σ1 r2) (As := [.int r2]) X.1 hG (fun _ _ h => C_X5_formOf l E h ) mw752 mw753 mw22 (gw_ok mw754 rfl) (by decide +kernel) rfl ⟨Nat.le_of_ble_eq_true rfl, Nat.le_of_ble_eq_true rfl⟩ hl.1 rfl (Nat.le_of_ble_eq_true rfl) ⟨Nat.le_refl _, Nat.le_refl _⟩ dX5_readOrder_10 hM (fun σ3 r4 H locs hG hEr4 hM => ?_)
  have hNr4 : okS E r4 := L_X5_formOf hEr4
  refine lv_astore_n (lv' := [(3, .ref (eK E r4)), (2, .int r2), (0, .ref (E.1 k)), (1, .ref (E.1 a0))]) hx hb dX5_readOrder_13 rfl hl (by decide) rfl (fun ls hl => ?_)
  refine lv_aload_n hx hb dX5_readOrder_14 rfl (lv_at hl 0 rfl) ?_
  refine g_callT_i (nA := 0) (o := M_J0_isEmpty_aae02 σ3 r4) (As := []) X.1 hG hNr4 rfl (fun _ _ h => C_J0_isEmpty_aae02 l E h hNr4) mw761 mw762 mw763 mw25 (gw_ok mw764 rfl) (by decide +kernel) rfl ⟨Nat.le_of_ble_eq_true rfl, Nat.le_of_ble_eq_true rfl⟩ hl.1 rfl (Nat.le_of_ble_eq_true rfl) ⟨Nat.le_refl _, Nat.le_refl _⟩ dX5_readOrder_15 hM (fun σ5 r6 H locs hG hM => ?_)
  refine lv_if_eq (tgt := 23) hx hb dX5_readOrder_18 (by decide) (fun c95 => ?_) (fun c95 => ?_)
  · have hM := b_if hM c95
    refine lv_aload_n hx hb dX5_readOrder_23 rfl (lv_at hl 2 rfl) ?_
    refine gt_5_0 X.1 hG hL mw285 dX5_readOrder_24 ?_
    refine lv_aload_n hx hb dX5_readOrder_27 rfl (lv_at hl 2 rfl) ?_
    refine gt_5_2 X.1 hG hL mw287 dX5_readOrder_28 ?_
    refine lv_iload_n hx hb dX5_readOrder_31 rfl (lv_at hl 1 rfl) ?_
    refine g_callSN_v (nA := 3) (o := M_X10_put σ5 (k + 1) (σ5 k 2) r2) (As := [.ref (E.1 (k + 1)), .int (σ5 k 2), .int r2]) X.1 hG (fun _ _ h => C_X10_put l E h (lf_5_0 hL)) mw765 mw431 mw12 (gw_ok mw432 rfl) (by decide +kernel) rfl ⟨Nat.le_of_ble_eq_true rfl, Nat.le_of_ble_eq_true rfl⟩ hl.1 rfl (Nat.le_of_ble_eq_true rfl) ⟨Nat.le_refl _, Nat.le_refl _⟩ dX5_readOrder_32 hM (fun σ7 r8 H locs hG hM => ?_)
    refine lv_aload_n hx hb dX5_readOrder_35 rfl (lv_at hl 2 rfl) ?_
    refine lv_dup hx hb dX5_readOrder_36 rfl ?_
    refine gt_5_3 X.1 hG hL mw289 dX5_readOrder_37 ?_
    refine lv_iconst (v := (1 : Int32)) hx hb dX5_readOrder_40 (by decide) ?_
    refine lv_iadd hx hb dX5_readOrder_41 ?_
    refine pt_5_3 X.1 hG hL mw289 dX5_readOrder_42 hM (fun σ9 H locs hG hM => ?_)
    refine lv_iconst (v := (0 : Int32)) hx hb dX5_readOrder_45 (by decide) ?_
    refine lv_istore (lv' := [(4, .int (0 : Int32)), (3, .ref (eK E r4)), (2, .int r2), (0, .ref (E.1 k)), (1, .ref (E.1 a0))]) hx hb dX5_readOrder_46 hl (by decide) rfl (fun ls hl => ?_)
    refine lv_iconst (v := (0 : Int32)) hx hb dX5_readOrder_48 (by decide) ?_
    refine lv_istore (lv' := [(5, .int (0 : Int32)), (4, .int (0 : Int32)), (3, .ref (eK E r4)), (2, .int r2), (0, .ref (E.1 k)), (1, .ref (E.1 a0))]) hx hb dX5_readOrder_49 hl (by decide) rfl (fun ls hl => ?_)
    exact w_X5_readOrder_51 X hL hA0 FU σ9 r4 (0 : Int32) (0 : Int32) _ _ _ z hNr4 hG (lv_sub hl [4, 5, 2, 1, 0] rfl) hM
  · have hM := b_else hM c95
    refine lv_iconst (v := (0 : Int32)) hx hb dX5_readOrder_21 (by decide) ?_
    exact e_zret X hG (by decide) dX5_readOrder_22 hM
def B_X7_passDay_82 (σ : St) (k : Nat) : Option (St × Int32) := bput σ k 4 ((σ k 4) + (1 : Int32)) fun σ3 => bput σ3 k 7 (20 : Int32) fun σ4 => if ((σ4 k 4) - (σ4 k 4) / (7 : Int32) * (7 : Int32)) = 0 then (bcall (M_X0_getOlder σ4 (k + 1)) fun σ5 r6 => bcall (M_X9_makePolesOlder σ5 (k + 4)) fun σ7 r8 => some (σ7, 0)) else some (σ4, 0)
def B_X7_passDay_60 (σ : St) (k : Nat) (x1 t0 : Int32) : Option (St × Int32) := bcall (M_X9_makeTiesOlder σ (k + 4) t0) fun σ1 r2 => if x1 = 0 then (B_X7_passDay_82 σ1 k) else (bcall (M_X9_lowestWeakerThan σ1 (k + 4) (σ1 k 5)) fun σ10 r11 => bcall (M_X7_letFallFrom σ10 k r11) fun σ12 r13 => B_X7_passDay_82 σ12 k)
def B_X7_passDay_46 (σ : St) (k : Nat) (t0 : Int32) : Option (St × Int32) := if t0 = 0 then (B_X7_passDay_60 σ k t0 (1 : Int32)) else (B_X7_passDay_60 σ k t0 (4 : Int32))
def B_X7_passDay_2  : Nat → St → Nat → Int32 → Option (St × Int32)
  | 0, _, _, _ => none
  | n + 1, σ, k, x1 => if (σ (k + 11) 3) ≤ x1 then (if (σ k 5) < (8 : Int32) then (B_X7_passDay_46 σ k (0 : Int32)) else (B_X7_passDay_46 σ k (1 : Int32))) else (bcall (M_X7_wouldWork σ k x1) fun σ17 r18 => if r18 = 0 then (blet (x1 + (1 : Int32)) fun v19 => B_X7_passDay_2 n σ17 k v19) else (bcall (M_X7_letWork σ17 k x1) fun σ20 r21 => blet (x1 + (1 : Int32)) fun v22 => B_X7_passDay_2 n σ20 k v22))
def M_X7_passDay (σ : St) (k : Nat)  : Option (St × Int32) := B_X7_passDay_2 FU σ k (0 : Int32)
set_option maxRecDepth 20000 in
set_option maxHeartbeats 4000000 in
theorem w_X7_passDay_82 {p : Program} {l : Launch} {e : Env} {s : State} {m : MethodId} {below : List Frame} {meth : Method} {c : Code} {args : Array Value} {E : Ev} {k : Nat} (X : Bx E p m meth c cX7_passDay 2 none s args RX7) (hL : lay 7 k) : ∀ (σ : St) (H : Heap) (locs : List Loc) (ls : Array Slot) (z : St × Int32), GS E σ s.heap H locs → lv_has ls 2 [(0, .ref (E.1 k))] → B_X7_passDay_82 σ k = some z → W p l e (rmd 4) s m args below meth c H locs 0 0 (QV E z below args s) (F0 m 82 ls []) := by
  have hx := X.1.1.1
  have hb := X.1.1.2.1
  intro σ  H locs ls z  hG hl hM
  unfold B_X7_passDay_82 at hM
  refine lv_aload_n hx hb dX7_passDay_82 rfl (lv_at hl 0 rfl) ?_
  refine lv_dup hx hb dX7_passDay_83 rfl ?_
  refine gt_7_4 X.1 hG hL mw174 dX7_passDay_84 ?_
  refine lv_iconst (v := (1 : Int32)) hx hb dX7_passDay_87 (by decide) ?_
  refine lv_iadd hx hb dX7_passDay_88 ?_
  refine pt_7_4 X.1 hG hL mw174 dX7_passDay_89 hM (fun σ3 H locs hG hM => ?_)
  refine lv_aload_n hx hb dX7_passDay_92 rfl (lv_at hl 0 rfl) ?_
  refine lv_bipush (v := (20 : Int32)) hx hb dX7_passDay_93 (by decide) ?_
  refine pt_7_7 X.1 hG hL mw182 dX7_passDay_95 hM (fun σ4 H locs hG hM => ?_)
  refine lv_aload_n hx hb dX7_passDay_98 rfl (lv_at hl 0 rfl) ?_
  refine gt_7_4 X.1 hG hL mw174 dX7_passDay_99 ?_
  refine lv_bipush (v := (7 : Int32)) hx hb dX7_passDay_102 (by decide) ?_
  refine lv_irem hx hb dX7_passDay_104 (by decide) ?_
  refine lv_if_ne (tgt := 122) hx hb dX7_passDay_105 (by decide) (fun c9 => ?_) (fun c9 => ?_)
  · have hM := b_else hM c9
    exact e_vret X hG dX7_passDay_122 hM
  · have hM := b_if hM c9
    refine lv_aload_n hx hb dX7_passDay_108 rfl (lv_at hl 0 rfl) ?_
    refine gt_7_0 X.1 hG hL mw162 dX7_passDay_109 ?_
    refine g_callV_v (nA := 0) (o := M_X0_getOlder σ4 (k + 1)) (As := []) X.1 hG (lf_7_0 hL) rfl rfl (fun _ _ h => C_X0_getOlder l E h (lf_7_0 hL)) mw727 mw728 mw729 mw16 (gw_ok mw730 rfl) (by decide +kernel) rfl ⟨Nat.le_of_ble_eq_true rfl, Nat.le_of_ble_eq_true rfl⟩ hl.1 rfl (Nat.le_of_ble_eq_true rfl) ⟨Nat.le_refl _, Nat.le_refl _⟩ dX7_passDay_112 hM (fun σ5 r6 H locs hG hM => ?_)
    refine lv_aload_n hx hb dX7_passDay_115 rfl (lv_at hl 0 rfl) ?_
    refine gt_7_1 X.1 hG hL mw165 dX7_passDay_116 ?_
    refine g_callV_v (nA := 0) (o := M_X9_makePolesOlder σ5 (k + 4)) (As := []) X.1 hG (lf_7_1 hL) rfl rfl (fun _ _ h => C_X9_makePolesOlder l E h (lf_7_1 hL)) mw732 mw733 mw734 mw17 (gw_ok mw735 rfl) (by decide +kernel) rfl ⟨Nat.le_of_ble_eq_true rfl, Nat.le_of_ble_eq_true rfl⟩ hl.1 rfl (Nat.le_of_ble_eq_true rfl) ⟨Nat.le_refl _, Nat.le_refl _⟩ dX7_passDay_119 hM (fun σ7 r8 H locs hG hM => ?_)
    exact e_vret X hG dX7_passDay_122 hM
set_option maxRecDepth 20000 in
set_option maxHeartbeats 4000000 in
theorem w_X7_passDay_60 {p : Program} {l : Launch} {e : Env} {s : State} {m : MethodId} {below : List Frame} {meth : Method} {c : Code} {args : Array Value} {E : Ev} {k : Nat} (X : Bx E p m meth c cX7_passDay 2 none s args RX7) (hL : lay 7 k) : ∀ (σ : St) (x1 t0 : Int32) (H : Heap) (locs : List Loc) (ls : Array Slot) (z : St × Int32), GS E σ s.heap H locs → lv_has ls 2 [(0, .ref (E.1 k)), (1, .int x1)] → B_X7_passDay_60 σ k x1 t0 = some z → W p l e (rmd 4) s m args below meth c H locs 0 0 (QV E z below args s) (F0 m 60 ls [.int t0, .ref (E.1 (k + 4))]) := by
  have hx := X.1.1.1
  have hb := X.1.1.2.1
  intro σ x1 t0 H locs ls z  hG hl hM
  unfold B_X7_passDay_60 at hM
  refine g_callV_v (nA := 1) (o := M_X9_makeTiesOlder σ (k + 4) t0) (As := [.int t0]) X.1 hG (lf_7_1 hL) rfl rfl (fun _ _ h => C_X9_makeTiesOlder l E h (lf_7_1 hL)) mw702 mw703 mw704 mw17 (gw_ok mw705 rfl) (by decide +kernel) rfl ⟨Nat.le_of_ble_eq_true rfl, Nat.le_of_ble_eq_true rfl⟩ hl.1 rfl (Nat.le_of_ble_eq_true rfl) ⟨Nat.le_refl _, Nat.le_refl _⟩ dX7_passDay_60 hM (fun σ1 r2 H locs hG hM => ?_)
  refine lv_iload_n hx hb dX7_passDay_63 rfl (lv_at hl 1 rfl) ?_
  refine lv_if_eq (tgt := 82) hx hb dX7_passDay_64 (by decide) (fun c14 => ?_) (fun c14 => ?_)
  · have hM := b_if hM c14
    exact w_X7_passDay_82 X hL σ1 _ _ _ z hG (lv_sub hl [0] rfl) hM
  · have hM := b_else hM c14
    refine lv_aload_n hx hb dX7_passDay_67 rfl (lv_at hl 0 rfl) ?_
    refine lv_aload_n hx hb dX7_passDay_68 rfl (lv_at hl 0 rfl) ?_
    refine gt_7_1 X.1 hG hL mw165 dX7_passDay_69 ?_
    refine lv_aload_n hx hb dX7_passDay_72 rfl (lv_at hl 0 rfl) ?_
    refine gt_7_5 X.1 hG hL mw176 dX7_passDay_73 ?_
    refine g_callV_i (nA := 1) (o := M_X9_lowestWeakerThan σ1 (k + 4) (σ1 k 5)) (As := [.int (σ1 k 5)]) X.1 hG (lf_7_1 hL) rfl rfl (fun _ _ h => C_X9_lowestWeakerThan l E h (lf_7_1 hL)) mw711 mw712 mw713 mw17 (gw_ok mw714 rfl) (by decide +kernel) rfl ⟨Nat.le_of_ble_eq_true rfl, Nat.le_of_ble_eq_true rfl⟩ hl.1 rfl (Nat.le_of_ble_eq_true rfl) ⟨Nat.le_refl _, Nat.le_refl _⟩ dX7_passDay_76 hM (fun σ10 r11 H locs hG hM => ?_)
    refine g_callV_v (nA := 1) (o := M_X7_letFallFrom σ10 k r11) (As := [.int r11]) X.1 hG hL rfl rfl (fun _ _ h => C_X7_letFallFrom l E h hL) mw719 mw721 mw2 mw15 (gw_ok mw722 rfl) (by decide +kernel) rfl ⟨Nat.le_of_ble_eq_true rfl, Nat.le_of_ble_eq_true rfl⟩ hl.1 rfl (Nat.le_of_ble_eq_true rfl) ⟨Nat.le_refl _, Nat.le_refl _⟩ dX7_passDay_79 hM (fun σ12 r13 H locs hG hM => ?_)
    exact w_X7_passDay_82 X hL σ12 _ _ _ z hG (lv_sub hl [0] rfl) hM
set_option maxRecDepth 20000 in
set_option maxHeartbeats 4000000 in
theorem w_X7_passDay_46 {p : Program} {l : Launch} {e : Env} {s : State} {m : MethodId} {below : List Frame} {meth : Method} {c : Code} {args : Array Value} {E : Ev} {k : Nat} (X : Bx E p m meth c cX7_passDay 2 none s args RX7) (hL : lay 7 k) : ∀ (σ : St) (t0 : Int32) (H : Heap) (locs : List Loc) (ls : Array Slot) (z : St × Int32), GS E σ s.heap H locs → lv_has ls 2 [(0, .ref (E.1 k))] → B_X7_passDay_46 σ k t0 = some z → W p l e (rmd 4) s m args below meth c H locs 0 0 (QV E z below args s) (F0 m 46 ls [.int t0]) := by
  have hx := X.1.1.1
  have hb := X.1.1.2.1
  intro σ t0 H locs ls z  hG hl hM
  unfold B_X7_passDay_46 at hM
  refine lv_istore_n (lv' := [(1, .int t0), (0, .ref (E.1 k))]) hx hb dX7_passDay_46 rfl hl (by decide) rfl (fun ls hl => ?_)
  refine lv_aload_n hx hb dX7_passDay_47 rfl (lv_at hl 1 rfl) ?_
  refine gt_7_1 X.1 hG hL mw165 dX7_passDay_48 ?_
  refine lv_iload_n hx hb dX7_passDay_51 rfl (lv_at hl 0 rfl) ?_
  refine lv_if_eq (tgt := 59) hx hb dX7_passDay_52 (by decide) (fun c15 => ?_) (fun c15 => ?_)
  · have hM := b_if hM c15
    refine lv_iconst (v := (1 : Int32)) hx hb dX7_passDay_59 (by decide) ?_
    exact w_X7_passDay_60 X hL σ t0 (1 : Int32) _ _ _ z hG (lv_sub hl [1, 0] rfl) hM
  · have hM := b_else hM c15
    refine lv_iconst (v := (4 : Int32)) hx hb dX7_passDay_55 (by decide) ?_
    refine lv_goto (tgt := 60) hx hb dX7_passDay_56 (by decide) ?_
    exact w_X7_passDay_60 X hL σ t0 (4 : Int32) _ _ _ z hG (lv_sub hl [1, 0] rfl) hM
set_option maxRecDepth 20000 in
set_option maxHeartbeats 4000000 in
theorem w_X7_passDay_2 {p : Program} {l : Launch} {e : Env} {s : State} {m : MethodId} {below : List Frame} {meth : Method} {c : Code} {args : Array Value} {E : Ev} {k : Nat} (X : Bx E p m meth c cX7_passDay 2 none s args RX7) (hL : lay 7 k) : ∀ (n : Nat) (σ : St) (x1 : Int32) (H : Heap) (locs : List Loc) (ls : Array Slot) (z : St × Int32), GS E σ s.heap H locs → lv_has ls 2 [(0, .ref (E.1 k)), (1, .int x1)] → B_X7_passDay_2 n σ k x1 = some z → W p l e (rmd 4) s m args below meth c H locs 0 0 (QV E z below args s) (F0 m 2 ls []) := by
  have hx := X.1.1.1
  have hb := X.1.1.2.1
  intro n
  induction n with
  | zero => intro σ x1 H locs ls z  hG hl hM; cases hM
  | succ n ih =>
    intro σ x1 H locs ls z  hG hl hM
    unfold B_X7_passDay_2 at hM
    refine lv_iload_n hx hb dX7_passDay_2 rfl (lv_at hl 1 rfl) ?_
    refine lv_aload_n hx hb dX7_passDay_3 rfl (lv_at hl 0 rfl) ?_
    refine gt_7_2 X.1 hG hL mw168 dX7_passDay_4 ?_
    refine gtN_1_3 X.1 hG (lf_7_2 hL) mw132 dX7_passDay_7 ?_
    refine lv_icmp_ge (tgt := 32) hx hb dX7_passDay_10 (by decide) (fun c24 => ?_) (fun c24 => ?_)
    · have hM := b_if hM c24
      refine lv_aload_n hx hb dX7_passDay_32 rfl (lv_at hl 0 rfl) ?_
      refine gt_7_5 X.1 hG hL mw176 dX7_passDay_33 ?_
      refine lv_bipush (v := (8 : Int32)) hx hb dX7_passDay_36 (by decide) ?_
      refine lv_icmp_lt (tgt := 45) hx hb dX7_passDay_38 (by decide) (fun c16 => ?_) (fun c16 => ?_)
      · have hM := b_if hM c16
        refine lv_iconst (v := (0 : Int32)) hx hb dX7_passDay_45 (by decide) ?_
        exact w_X7_passDay_46 X hL σ (0 : Int32) _ _ _ z hG (lv_sub hl [0] rfl) hM
      · have hM := b_else hM c16
        refine lv_iconst (v := (1 : Int32)) hx hb dX7_passDay_41 (by decide) ?_
        refine lv_goto (tgt := 46) hx hb dX7_passDay_42 (by decide) ?_
        exact w_X7_passDay_46 X hL σ (1 : Int32) _ _ _ z hG (lv_sub hl [0] rfl) hM
    · have hM := b_else hM c24
      refine lv_aload_n hx hb dX7_passDay_13 rfl (lv_at hl 0 rfl) ?_
      refine lv_iload_n hx hb dX7_passDay_14 rfl (lv_at hl 1 rfl) ?_
      refine g_callV_i (nA := 1) (o := M_X7_wouldWork σ k x1) (As := [.int x1]) X.1 hG hL rfl rfl (fun _ _ h => C_X7_wouldWork l E h hL) mw673 mw674 mw675 mw15 (gw_ok mw676 rfl) (by decide +kernel) rfl ⟨Nat.le_of_ble_eq_true rfl, Nat.le_of_ble_eq_true rfl⟩ hl.1 rfl (Nat.le_of_ble_eq_true rfl) ⟨Nat.le_refl _, Nat.le_refl _⟩ dX7_passDay_15 hM (fun σ17 r18 H locs hG hM => ?_)
      refine lv_if_eq (tgt := 26) hx hb dX7_passDay_18 (by decide) (fun c23 => ?_) (fun c23 => ?_)
      · have hM := b_if hM c23
        obtain ⟨v19, ev19, hM⟩ := g_nm hM
        refine lv_iinc (v := v19) (lv' := [(1, .int v19), (0, .ref (E.1 k))]) hx hb dX7_passDay_26 hl (k := 1) rfl (by rw [ev19]; rfl) (by decide) rfl (fun ls hl => ?_)
        refine lv_goto (tgt := 2) hx hb dX7_passDay_29 (by decide) ?_
        exact ih σ17 v19 _ _ _ z hG (lv_sub hl [1, 0] rfl) hM
      · have hM := b_else hM c23
        refine lv_aload_n hx hb dX7_passDay_21 rfl (lv_at hl 0 rfl) ?_
        refine lv_iload_n hx hb dX7_passDay_22 rfl (lv_at hl 1 rfl) ?_
        refine g_callV_v (nA := 1) (o := M_X7_letWork σ17 k x1) (As := [.int x1]) X.1 hG hL rfl rfl (fun _ _ h => C_X7_letWork l E h hL) mw685 mw686 mw687 mw15 (gw_ok mw688 rfl) (by decide +kernel) rfl ⟨Nat.le_of_ble_eq_true rfl, Nat.le_of_ble_eq_true rfl⟩ hl.1 rfl (Nat.le_of_ble_eq_true rfl) ⟨Nat.le_refl _, Nat.le_refl _⟩ dX7_passDay_23 hM (fun σ20 r21 H locs hG hM => ?_)
        obtain ⟨v22, ev22, hM⟩ := g_nm hM
        refine lv_iinc (v := v22) (lv' := [(1, .int v22), (0, .ref (E.1 k))]) hx hb dX7_passDay_26 hl (k := 1) rfl (by rw [ev22]; rfl) (by decide) rfl (fun ls hl => ?_)
        refine lv_goto (tgt := 2) hx hb dX7_passDay_29 (by decide) ?_
        exact ih σ20 v22 _ _ _ z hG (lv_sub hl [1, 0] rfl) hM
set_option maxRecDepth 20000 in
set_option maxHeartbeats 4000000 in
theorem C_X7_passDay (l : Launch) (E : Ev) {σ σ' : St} {k : Nat} {r : Int32} (h : M_X7_passDay σ k = some (σ', r)) (hL : lay 7 k) : Mv l E yX7_passDay cX7_passDay 2 4 [.ref (E.1 k)] σ σ' := by
  refine Mv_of (C := RX7) rfl (by decide) (Nat.le_of_ble_eq_true rfl) (z := (σ', r)) (fun p e s m below meth c ls X hG hl => ?_)
  have hx := X.1.1.1
  have hb := X.1.1.2.1
  have hM := h
  unfold M_X7_passDay at hM
  generalize (σ', r) = z at hM ⊢
  have hl : lv_has ls 2 [(0, .ref (E.1 k))] := hl
  refine lv_iconst (v := (0 : Int32)) hx hb dX7_passDay_0 (by decide) ?_
  refine lv_istore_n (lv' := [(1, .int (0 : Int32)), (0, .ref (E.1 k))]) hx hb dX7_passDay_1 rfl hl (by decide) rfl (fun ls hl => ?_)
  exact w_X7_passDay_2 X hL FU σ (0 : Int32) _ _ _ z hG (lv_sub hl [1, 0] rfl) hM
