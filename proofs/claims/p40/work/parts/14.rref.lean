def B_L_refused_677 (σ : St) (a0 : Nat) (x1 : Int64) (x7 : Int32) (t0 : Int32) : Option (St × Int32) := if t0 = 0 then none else (bcall (M_L_reads σ a0 13) fun σ127 r128 => if r128 = (-2 : Int32) then (bcall (M_X10_fault σ127 a0) fun σ129 r130 => if r130 = 0 then (bcall (M_X10_reason σ129 a0 (0 : Int32) (0 : Int32)) fun σ131 r132 => if r132 = x7 then (bcall (M_L_reads σ131 a0 14) fun σ133 r134 => if r134 = (-3 : Int32) then (bcall (M_L_are σ133 a0 (2, (upd (upd (fun _ => 0) ((0 : Int32)).toNatClampNeg (12 : Int32)) ((1 : Int32)).toNatClampNeg (1 : Int32)))) fun σ135 r136 => if r136 = 0 then none else (bcall (M_L_asks σ135 a0) fun σ137 r138 => if (lg_cmp r138 x1) = 0 then some (σ137, (1 : Int32)) else none)) else none) else none) else none) else none)
def B_L_refused_651 (σ : St) (a0 : Nat) (x1 : Int64) (x7 : Int32) : Option (St × Int32) := bcall (M_X10_account σ a0 (-1 : Int32)) fun σ123 r124 => if r124 = (-2 : Int32) then (bcall (M_X10_reason σ123 a0 (0 : Int32) (0 : Int32)) fun σ125 r126 => if r126 = x7 then (B_L_refused_677 σ125 a0 x1 x7 (1 : Int32)) else none) else none
def B_L_refused_568 (σ : St) (a0 : Nat) (x1 : Int64) (x4 : Int32) (x7 : Int32) : Option (St × Int32) := bcall (M_X10_wouldFall σ a0 (11 : Int32)) fun σ107 r108 => if r108 = (-2 : Int32) then (bcall (M_X10_oldIn σ107 a0 x4) fun σ109 r110 => if r110 = (-1 : Int32) then (bcall (M_X10_doneIn σ109 a0 (-1 : Int32)) fun σ111 r112 => if r112 = (-1 : Int32) then (bcall (M_X10_written σ111 a0 (-1 : Int32)) fun σ113 r114 => if r114 = (-1 : Int32) then (bcall (M_X10_written σ113 a0 (180 : Int32)) fun σ115 r116 => if r116 = (-1 : Int32) then (bcall (M_X10_append σ115 a0 (31 : Int32)) fun σ117 r118 => if r118 = (-2 : Int32) then (bcall (M_X10_append σ117 a0 (127 : Int32)) fun σ119 r120 => if r120 = (-2 : Int32) then (bcall (M_X10_account σ119 a0 (19 : Int32)) fun σ121 r122 => if r122 = (-2 : Int32) then (B_L_refused_651 σ121 a0 x1 x7) else none) else none) else none) else none) else none) else none) else none) else none
def B_L_refused_480 (σ : St) (a0 : Nat) (x1 : Int64) (x4 : Int32) (x5 : Int32) (x6 : Int32) (x7 : Int32) : Option (St × Int32) := bcall (M_X10_oldest σ a0 (-1 : Int32)) fun σ91 r92 => if r92 = (-1 : Int32) then (bcall (M_X10_crewOf σ91 a0 x5 (9 : Int32)) fun σ93 r94 => if r94 = (-1 : Int32) then (bcall (M_X10_crewOf σ93 a0 (0 : Int32) (4 : Int32)) fun σ95 r96 => if r96 = (-2 : Int32) then (bcall (M_X10_crewOf σ95 a0 (0 : Int32) (-1 : Int32)) fun σ97 r98 => if r98 = (-2 : Int32) then (bcall (M_X10_inspectorOf σ97 a0 x6 (9 : Int32)) fun σ99 r100 => if r100 = (-1 : Int32) then (bcall (M_X10_inspectorOf σ99 a0 (0 : Int32) (3 : Int32)) fun σ101 r102 => if r102 = (-2 : Int32) then (bcall (M_X10_inspectorOf σ101 a0 (0 : Int32) (-1 : Int32)) fun σ103 r104 => if r104 = (-2 : Int32) then (bcall (M_X10_wouldFall σ103 a0 (7 : Int32)) fun σ105 r106 => if r106 = (-2 : Int32) then (B_L_refused_568 σ105 a0 x1 x4 x7) else none) else none) else none) else none) else none) else none) else none) else none
def B_L_refused_394 (σ : St) (a0 : Nat) (x1 : Int64) (x3 : Int32) (x4 : Int32) (x5 : Int32) (x6 : Int32) (x7 : Int32) : Option (St × Int32) := bcall (M_X10_bundleOf σ a0 x3 (1 : Int32)) fun σ75 r76 => if r76 = (-1 : Int32) then (bcall (M_X10_bundleOf σ75 a0 (-1 : Int32) (0 : Int32)) fun σ77 r78 => if r78 = (-1 : Int32) then (bcall (M_X10_storeyOf σ77 a0 x4 (9 : Int32)) fun σ79 r80 => if r80 = (-1 : Int32) then (bcall (M_X10_storeyOf σ79 a0 (0 : Int32) (7 : Int32)) fun σ81 r82 => if r82 = (-2 : Int32) then (bcall (M_X10_storeyOf σ81 a0 (0 : Int32) (-1 : Int32)) fun σ83 r84 => if r84 = (-2 : Int32) then (bcall (M_X10_strength σ83 a0 x4 (1 : Int32)) fun σ85 r86 => if r86 = (-1 : Int32) then (bcall (M_X10_strength σ85 a0 (-1 : Int32) (0 : Int32)) fun σ87 r88 => if r88 = (-1 : Int32) then (bcall (M_X10_oldest σ87 a0 x4) fun σ89 r90 => if r90 = (-1 : Int32) then (B_L_refused_480 σ89 a0 x1 x4 x5 x6 x7) else none) else none) else none) else none) else none) else none) else none) else none
def B_L_refused_387 (σ : St) (a0 : Nat) (x1 : Int64) (x3 : Int32) (x4 : Int32) (x5 : Int32) (x6 : Int32) (x7 : Int32) (t0 : Int32) : Option (St × Int32) := if t0 = 0 then none else (B_L_refused_394 σ a0 x1 x3 x4 x5 x6 x7)
def B_L_refused_307 (σ : St) (a0 : Nat) (x1 : Int64) (x3 : Int32) (x4 : Int32) (x5 : Int32) (x6 : Int32) (x7 : Int32) : Option (St × Int32) := bcall (M_X10_signal σ a0 (11 : Int32)) fun σ61 r62 => if r62 = (-2 : Int32) then (bcall (M_X10_inspector σ61 a0 (0 : Int32)) fun σ63 r64 => if r64 = (-2 : Int32) then (bcall (M_X10_inspector σ63 a0 (10 : Int32)) fun σ65 r66 => if r66 = (-2 : Int32) then (bcall (M_X10_inspect σ65 a0 x6 (0 : Int32)) fun σ67 r68 => if r68 = (-1 : Int32) then (bcall (M_X10_inspect σ67 a0 (0 : Int32) x4) fun σ69 r70 => if r70 = (-1 : Int32) then (bcall (M_X10_day σ69 a0 (0 : Int32)) fun σ71 r72 => if r72 = (-2 : Int32) then (bcall (M_X10_day σ71 a0 (31 : Int32)) fun σ73 r74 => if r74 = (-2 : Int32) then (B_L_refused_387 σ73 a0 x1 x3 x4 x5 x6 x7 (1 : Int32)) else none) else none) else none) else none) else none) else none) else none
def B_L_refused_221 (σ : St) (a0 : Nat) (x1 : Int64) (x3 : Int32) (x4 : Int32) (x5 : Int32) (x6 : Int32) (x7 : Int32) : Option (St × Int32) := bcall (M_X10_up σ a0 x5 (0 : Int32)) fun σ45 r46 => if r46 = (-1 : Int32) then (bcall (M_X10_up σ45 a0 (0 : Int32) x4) fun σ47 r48 => if r48 = (-1 : Int32) then (bcall (M_X10_up σ47 a0 (-1 : Int32) (-1 : Int32)) fun σ49 r50 => if r50 = (-1 : Int32) then (bcall (M_X10_down σ49 a0 x5) fun σ51 r52 => if r52 = (-1 : Int32) then (bcall (M_X10_lift σ51 a0 x4 (0 : Int32)) fun σ53 r54 => if r54 = (-1 : Int32) then (bcall (M_X10_lift σ53 a0 (0 : Int32) (0 : Int32)) fun σ55 r56 => if r56 = (-2 : Int32) then (bcall (M_X10_lift σ55 a0 (0 : Int32) (10 : Int32)) fun σ57 r58 => if r58 = (-2 : Int32) then (bcall (M_X10_signal σ57 a0 (-1 : Int32)) fun σ59 r60 => if r60 = (-2 : Int32) then (B_L_refused_307 σ59 a0 x1 x3 x4 x5 x6 x7) else none) else none) else none) else none) else none) else none) else none) else none
def B_L_refused_132 (σ : St) (a0 : Nat) (x1 : Int64) (x3 : Int32) (x4 : Int32) (x5 : Int32) (x6 : Int32) (x7 : Int32) : Option (St × Int32) := bcall (M_X10_build σ a0 (0 : Int32) (3 : Int32) (1 : Int32)) fun σ29 r30 => if r30 = (-2 : Int32) then (bcall (M_X10_build σ29 a0 (0 : Int32) (9 : Int32) (1 : Int32)) fun σ31 r32 => if r32 = (-2 : Int32) then (bcall (M_X10_build σ31 a0 (0 : Int32) (4 : Int32) (-1 : Int32)) fun σ33 r34 => if r34 = (-2 : Int32) then (bcall (M_X10_build σ33 a0 (0 : Int32) (4 : Int32) (41 : Int32)) fun σ35 r36 => if r36 = (-2 : Int32) then (bcall (M_X10_tie σ35 a0 x4) fun σ37 r38 => if r38 = (-1 : Int32) then (bcall (M_X10_tie σ37 a0 (-1 : Int32)) fun σ39 r40 => if r40 = (-1 : Int32) then (bcall (M_X10_crew σ39 a0 (0 : Int32)) fun σ41 r42 => if r42 = (-2 : Int32) then (bcall (M_X10_crew σ41 a0 (5 : Int32)) fun σ43 r44 => if r44 = (-2 : Int32) then (B_L_refused_221 σ43 a0 x1 x3 x4 x5 x6 x7) else none) else none) else none) else none) else none) else none) else none) else none
def M_L_refused (σ : St) (a0 : Nat)  : Option (St × Int32) := bcall (M_L_asks σ a0) fun σ1 r2 => bcall (M_X10_account σ1 a0 (2 : Int32)) fun σ3 r4 => bcall (M_X10_account σ3 a0 (4 : Int32)) fun σ5 r6 => bcall (M_X10_account σ5 a0 (7 : Int32)) fun σ7 r8 => bcall (M_X10_account σ7 a0 (12 : Int32)) fun σ9 r10 => bcall (M_X10_reason σ9 a0 (0 : Int32) (0 : Int32)) fun σ11 r12 => bcall (M_X10_bundle σ11 a0 (0 : Int32) (0 : Int32)) fun σ13 r14 => if r14 = (-2 : Int32) then (bcall (M_X10_bundle σ13 a0 (31 : Int32) (0 : Int32)) fun σ15 r16 => if r16 = (-2 : Int32) then (bcall (M_X10_bundle σ15 a0 (1 : Int32) (-1 : Int32)) fun σ17 r18 => if r18 = (-2 : Int32) then (bcall (M_X10_bundle σ17 a0 (1 : Int32) (61 : Int32)) fun σ19 r20 => if r20 = (-2 : Int32) then (bcall (M_X10_strips σ19 a0 (0 : Int32)) fun σ21 r22 => if r22 = (-2 : Int32) then (bcall (M_X10_strips σ21 a0 (100 : Int32)) fun σ23 r24 => if r24 = (-2 : Int32) then (bcall (M_X10_build σ23 a0 r4 (0 : Int32) (99 : Int32)) fun σ25 r26 => if r26 = (-1 : Int32) then (bcall (M_X10_build σ25 a0 (-1 : Int32) (4 : Int32) (1 : Int32)) fun σ27 r28 => if r28 = (-1 : Int32) then (B_L_refused_132 σ27 a0 r2 r4 r6 r8 r10 r12) else none) else none) else none) else none) else none) else none) else none) else none
set_option maxRecDepth 20000 in
set_option maxHeartbeats 4000000 in
theorem w_L_refused_677 {p : Program} {l : Launch} {e : Env} {s : State} {m : MethodId} {below : List Frame} {meth : Method} {c : Code} {args : Array Value} {E : Ev} {s0 : State} {a0 : Nat} (X : Bx E p m meth c cL_refused 9 (some .boolean) s args RL) (hs0 : Dr s0 s) (hAn : ∀ q, s.heap.size ≤ q → AE E q) (hA0 : lay 10 a0) : ∀ (σ : St) (x1 : Int64) (x7 : Int32) (t0 : Int32) (H : Heap) (locs : List Loc) (ls : Array Slot) (z : St × Int32), GS E σ s.heap H locs → lv_has ls 9 [(0, .ref (E.1 a0)), (1, .long x1), (7, .int x7)] → B_L_refused_677 σ a0 x1 x7 t0 = some z → W p l e (rmA 9 1 2) s m args below meth c H locs 0 0 (QZD E z below args s0 1 2) (F0 m 677 ls [.int t0]) := by
  have hx := X.1.1.1
  have hb := X.1.1.2.1
  intro σ x1 x7 t0 H locs ls z  hG hl hM
  unfold B_L_refused_677 at hM
  refine lv_istore (lv' := [(8, .int t0), (0, .ref (E.1 a0)), (1, .long x1), (7, .int x7)]) hx hb dL_refused_677 hl (by decide) rfl (fun ls hl => ?_)
  refine lv_iload hx hb dL_refused_679 (lv_at hl 0 rfl) ?_
  refine lv_if_eq (tgt := 756) hx hb dL_refused_681 (by decide) (fun c145 => ?_) (fun c145 => ?_)
  · have hM := b_if hM c145
    cases hM
  · have hM := b_else hM c145
    refine lv_aload_n hx hb dL_refused_684 rfl (lv_at hl 1 rfl) ?_
    refine g_ldcS X.1 (i := 13) (by decide) rfl rfl dL_refused_685 ?_
    refine g_callS_i (nA := 2) (o := M_L_reads σ a0 13) (As := [.ref (E.1 a0), .ref (eK E 13)]) X.1 hG (fun _ _ h => C_L_reads l E h hA0 (okS_of (show 13 < 16 by decide))) mw1332 mw1333 mw11 (gw_ok mw1334 rfl) (by decide +kernel) rfl ⟨Nat.le_of_ble_eq_true rfl, Nat.le_of_ble_eq_true rfl⟩ hl.1 rfl (Nat.le_of_ble_eq_true rfl) ⟨Nat.le_of_ble_eq_true rfl, Nat.le_of_ble_eq_true rfl⟩ dL_refused_687 hM (fun σ127 r128 H locs hG hM => ?_)
    refine lv_bipush (v := (-2 : Int32)) hx hb dL_refused_690 (by decide) ?_
    refine lv_icmp_ne (tgt := 756) hx hb dL_refused_692 (by decide) (fun c144 => ?_) (fun c144 => ?_)
    · have hM := b_else hM c144
      cases hM
    · have hM := b_if hM c144
      refine lv_aload_n hx hb dL_refused_695 rfl (lv_at hl 1 rfl) ?_
      refine g_callV_i (nA := 0) (o := M_X10_fault σ127 a0) (As := []) X.1 hG hA0 rfl rfl (fun _ _ h => C_X10_fault l E h hA0) mw861 mw862 mw863 mw12 (gw_ok mw864 rfl) (by decide +kernel) rfl ⟨Nat.le_of_ble_eq_true rfl, Nat.le_of_ble_eq_true rfl⟩ hl.1 rfl (Nat.le_of_ble_eq_true rfl) ⟨Nat.le_of_ble_eq_true rfl, Nat.le_of_ble_eq_true rfl⟩ dL_refused_696 hM (fun σ129 r130 H locs hG hM => ?_)
      refine lv_if_ne (tgt := 756) hx hb dL_refused_699 (by decide) (fun c143 => ?_) (fun c143 => ?_)
      · have hM := b_else hM c143
        cases hM
      · have hM := b_if hM c143
        refine lv_aload_n hx hb dL_refused_702 rfl (lv_at hl 1 rfl) ?_
        refine lv_iconst (v := (0 : Int32)) hx hb dL_refused_703 (by decide) ?_
        refine lv_iconst (v := (0 : Int32)) hx hb dL_refused_704 (by decide) ?_
        refine g_callV_i (nA := 2) (o := M_X10_reason σ129 a0 (0 : Int32) (0 : Int32)) (As := [.int (0 : Int32), .int (0 : Int32)]) X.1 hG hA0 rfl rfl (fun _ _ h => C_X10_reason l E h hA0) mw1015 mw1016 mw1017 mw12 (gw_ok mw1018 rfl) (by decide +kernel) rfl ⟨Nat.le_of_ble_eq_true rfl, Nat.le_of_ble_eq_true rfl⟩ hl.1 rfl (Nat.le_of_ble_eq_true rfl) ⟨Nat.le_of_ble_eq_true rfl, Nat.le_of_ble_eq_true rfl⟩ dL_refused_705 hM (fun σ131 r132 H locs hG hM => ?_)
        refine lv_iload hx hb dL_refused_708 (lv_at hl 3 rfl) ?_
        refine lv_icmp_ne (tgt := 756) hx hb dL_refused_710 (by decide) (fun c142 => ?_) (fun c142 => ?_)
        · have hM := b_else hM c142
          cases hM
        · have hM := b_if hM c142
          refine lv_aload_n hx hb dL_refused_713 rfl (lv_at hl 1 rfl) ?_
          refine g_ldcS X.1 (i := 14) (by decide) rfl rfl dL_refused_714 ?_
          refine g_callS_i (nA := 2) (o := M_L_reads σ131 a0 14) (As := [.ref (E.1 a0), .ref (eK E 14)]) X.1 hG (fun _ _ h => C_L_reads l E h hA0 (okS_of (show 14 < 16 by decide))) mw1332 mw1333 mw11 (gw_ok mw1334 rfl) (by decide +kernel) rfl ⟨Nat.le_of_ble_eq_true rfl, Nat.le_of_ble_eq_true rfl⟩ hl.1 rfl (Nat.le_of_ble_eq_true rfl) ⟨Nat.le_of_ble_eq_true rfl, Nat.le_of_ble_eq_true rfl⟩ dL_refused_716 hM (fun σ133 r134 H locs hG hM => ?_)
          refine lv_bipush (v := (-3 : Int32)) hx hb dL_refused_719 (by decide) ?_
          refine lv_icmp_ne (tgt := 756) hx hb dL_refused_721 (by decide) (fun c141 => ?_) (fun c141 => ?_)
          · have hM := b_else hM c141
            cases hM
          · have hM := b_if hM c141
            refine lv_aload_n hx hb dL_refused_724 rfl (lv_at hl 1 rfl) ?_
            refine lv_iconst (v := (2 : Int32)) hx hb dL_refused_725 (by decide) ?_
            refine a_new X.1 hAn hG (N := 2) (by decide) (by decide) (Nat.le_of_ble_eq_true rfl) (Nat.le_of_ble_eq_true rfl) (Nat.le_of_ble_eq_true rfl) dL_refused_726 (fun q H hG => ?_)
            refine lv_dup hx hb dL_refused_728 rfl ?_
            refine lv_iconst (v := (0 : Int32)) hx hb dL_refused_729 (by decide) ?_
            refine lv_bipush (v := (12 : Int32)) hx hb dL_refused_730 (by decide) ?_
            refine a_ast X.1 hG (by unfold vp_in; decide) dL_refused_732 (fun H locs hG => ?_)
            refine lv_dup hx hb dL_refused_733 rfl ?_
            refine lv_iconst (v := (1 : Int32)) hx hb dL_refused_734 (by decide) ?_
            refine lv_iconst (v := (1 : Int32)) hx hb dL_refused_735 (by decide) ?_
            refine a_ast X.1 hG (by unfold vp_in; decide) dL_refused_736 (fun H locs hG => ?_)
            refine a_are X.1 hG hA0 mw1012 ⟨Nat.le_of_ble_eq_true rfl, Nat.le_of_ble_eq_true rfl⟩ hl.1 (Nat.le_of_ble_eq_true rfl) ⟨Nat.le_of_ble_eq_true rfl, Nat.le_of_ble_eq_true rfl⟩ dL_refused_737 hM (fun σ135 r136 H locs hG hM => ?_)
            refine lv_if_eq (tgt := 756) hx hb dL_refused_740 (by decide) (fun c140 => ?_) (fun c140 => ?_)
            · have hM := b_if hM c140
              cases hM
            · have hM := b_else hM c140
              refine lv_aload_n hx hb dL_refused_743 rfl (lv_at hl 1 rfl) ?_
              refine g_callAsk X hs0 hAn hG hA0 mw1054 ⟨Nat.le_of_ble_eq_true rfl, Nat.le_of_ble_eq_true rfl⟩ hl.1 (Nat.le_of_ble_eq_true rfl) ⟨Nat.le_of_ble_eq_true rfl, Nat.le_of_ble_eq_true rfl⟩ dL_refused_744 hM (fun σ137 r138 s H locs X hs0 hAn hG hM => ?_)
              have hx := X.1.1.1
              have hb := X.1.1.2.1
              refine lv_lload_n hx hb dL_refused_747 rfl (lv_at hl 2 rfl) ?_
              refine W.lcmp hx hb dL_refused_748 ?_
              refine lv_if_ne (tgt := 756) hx hb dL_refused_749 (by decide) (fun c139 => ?_) (fun c139 => ?_)
              · have hM := b_else hM c139
                cases hM
              · have hM := b_if hM c139
                refine lv_iconst (v := (1 : Int32)) hx hb dL_refused_752 (by decide) ?_
                refine lv_goto (tgt := 757) hx hb dL_refused_753 (by decide) ?_
                exact e_zretD X hs0 hG (by decide) dL_refused_757 hM (Nat.le_of_ble_eq_true rfl) (Nat.le_of_ble_eq_true rfl)
set_option maxRecDepth 20000 in
set_option maxHeartbeats 4000000 in
theorem w_L_refused_651 {p : Program} {l : Launch} {e : Env} {s : State} {m : MethodId} {below : List Frame} {meth : Method} {c : Code} {args : Array Value} {E : Ev} {s0 : State} {a0 : Nat} (X : Bx E p m meth c cL_refused 9 (some .boolean) s args RL) (hs0 : Dr s0 s) (hAn : ∀ q, s.heap.size ≤ q → AE E q) (hA0 : lay 10 a0) : ∀ (σ : St) (x1 : Int64) (x7 : Int32) (H : Heap) (locs : List Loc) (ls : Array Slot) (z : St × Int32), GS E σ s.heap H locs → lv_has ls 9 [(0, .ref (E.1 a0)), (1, .long x1), (7, .int x7)] → B_L_refused_651 σ a0 x1 x7 = some z → W p l e (rmA 9 1 2) s m args below meth c H locs 0 0 (QZD E z below args s0 1 2) (F0 m 651 ls []) := by
  have hx := X.1.1.1
  have hb := X.1.1.2.1
  intro σ x1 x7 H locs ls z  hG hl hM
  unfold B_L_refused_651 at hM
  refine lv_aload_n hx hb dL_refused_651 rfl (lv_at hl 0 rfl) ?_
  refine lv_iconst (v := (-1 : Int32)) hx hb dL_refused_652 (by decide) ?_
  refine g_callV_i (nA := 1) (o := M_X10_account σ a0 (-1 : Int32)) (As := [.int (-1 : Int32)]) X.1 hG hA0 rfl rfl (fun _ _ h => C_X10_account l E h hA0) mw959 mw960 mw961 mw12 (gw_ok mw962 rfl) (by decide +kernel) rfl ⟨Nat.le_of_ble_eq_true rfl, Nat.le_of_ble_eq_true rfl⟩ hl.1 rfl (Nat.le_of_ble_eq_true rfl) ⟨Nat.le_of_ble_eq_true rfl, Nat.le_of_ble_eq_true rfl⟩ dL_refused_653 hM (fun σ123 r124 H locs hG hM => ?_)
  refine lv_bipush (v := (-2 : Int32)) hx hb dL_refused_656 (by decide) ?_
  refine lv_icmp_ne (tgt := 676) hx hb dL_refused_658 (by decide) (fun c147 => ?_) (fun c147 => ?_)
  · have hM := b_else hM c147
    cases hM
  · have hM := b_if hM c147
    refine lv_aload_n hx hb dL_refused_661 rfl (lv_at hl 0 rfl) ?_
    refine lv_iconst (v := (0 : Int32)) hx hb dL_refused_662 (by decide) ?_
    refine lv_iconst (v := (0 : Int32)) hx hb dL_refused_663 (by decide) ?_
    refine g_callV_i (nA := 2) (o := M_X10_reason σ123 a0 (0 : Int32) (0 : Int32)) (As := [.int (0 : Int32), .int (0 : Int32)]) X.1 hG hA0 rfl rfl (fun _ _ h => C_X10_reason l E h hA0) mw1015 mw1016 mw1017 mw12 (gw_ok mw1018 rfl) (by decide +kernel) rfl ⟨Nat.le_of_ble_eq_true rfl, Nat.le_of_ble_eq_true rfl⟩ hl.1 rfl (Nat.le_of_ble_eq_true rfl) ⟨Nat.le_of_ble_eq_true rfl, Nat.le_of_ble_eq_true rfl⟩ dL_refused_664 hM (fun σ125 r126 H locs hG hM => ?_)
    refine lv_iload hx hb dL_refused_667 (lv_at hl 2 rfl) ?_
    refine lv_icmp_ne (tgt := 676) hx hb dL_refused_669 (by decide) (fun c146 => ?_) (fun c146 => ?_)
    · have hM := b_else hM c146
      cases hM
    · have hM := b_if hM c146
      refine lv_iconst (v := (1 : Int32)) hx hb dL_refused_672 (by decide) ?_
      refine lv_goto (tgt := 677) hx hb dL_refused_673 (by decide) ?_
      exact w_L_refused_677 X hs0 hAn hA0 σ125 x1 x7 (1 : Int32) _ _ _ z hG (lv_sub hl [0, 1, 2] rfl) hM
set_option maxRecDepth 20000 in
set_option maxHeartbeats 4000000 in
theorem w_L_refused_568 {p : Program} {l : Launch} {e : Env} {s : State} {m : MethodId} {below : List Frame} {meth : Method} {c : Code} {args : Array Value} {E : Ev} {s0 : State} {a0 : Nat} (X : Bx E p m meth c cL_refused 9 (some .boolean) s args RL) (hs0 : Dr s0 s) (hAn : ∀ q, s.heap.size ≤ q → AE E q) (hA0 : lay 10 a0) : ∀ (σ : St) (x1 : Int64) (x4 : Int32) (x7 : Int32) (H : Heap) (locs : List Loc) (ls : Array Slot) (z : St × Int32), GS E σ s.heap H locs → lv_has ls 9 [(0, .ref (E.1 a0)), (1, .long x1), (4, .int x4), (7, .int x7)] → B_L_refused_568 σ a0 x1 x4 x7 = some z → W p l e (rmA 9 1 2) s m args below meth c H locs 0 0 (QZD E z below args s0 1 2) (F0 m 568 ls []) := by
  have hx := X.1.1.1
  have hb := X.1.1.2.1
  intro σ x1 x4 x7 H locs ls z  hG hl hM
  unfold B_L_refused_568 at hM
  refine lv_aload_n hx hb dL_refused_568 rfl (lv_at hl 0 rfl) ?_
  refine lv_bipush (v := (11 : Int32)) hx hb dL_refused_569 (by decide) ?_
  refine g_callV_i (nA := 1) (o := M_X10_wouldFall σ a0 (11 : Int32)) (As := [.int (11 : Int32)]) X.1 hG hA0 rfl rfl (fun _ _ h => C_X10_wouldFall l E h hA0) mw939 mw940 mw941 mw12 (gw_ok mw942 rfl) (by decide +kernel) rfl ⟨Nat.le_of_ble_eq_true rfl, Nat.le_of_ble_eq_true rfl⟩ hl.1 rfl (Nat.le_of_ble_eq_true rfl) ⟨Nat.le_of_ble_eq_true rfl, Nat.le_of_ble_eq_true rfl⟩ dL_refused_571 hM (fun σ107 r108 H locs hG hM => ?_)
  refine lv_bipush (v := (-2 : Int32)) hx hb dL_refused_574 (by decide) ?_
  refine lv_icmp_ne (tgt := 676) hx hb dL_refused_576 (by decide) (fun c155 => ?_) (fun c155 => ?_)
  · have hM := b_else hM c155
    cases hM
  · have hM := b_if hM c155
    refine lv_aload_n hx hb dL_refused_579 rfl (lv_at hl 0 rfl) ?_
    refine lv_iload hx hb dL_refused_580 (lv_at hl 2 rfl) ?_
    refine g_callV_i (nA := 1) (o := M_X10_oldIn σ107 a0 x4) (As := [.int x4]) X.1 hG hA0 rfl rfl (fun _ _ h => C_X10_oldIn l E h hA0) mw1093 mw1094 mw1095 mw12 (gw_ok mw1096 rfl) (by decide +kernel) rfl ⟨Nat.le_of_ble_eq_true rfl, Nat.le_of_ble_eq_true rfl⟩ hl.1 rfl (Nat.le_of_ble_eq_true rfl) ⟨Nat.le_of_ble_eq_true rfl, Nat.le_of_ble_eq_true rfl⟩ dL_refused_582 hM (fun σ109 r110 H locs hG hM => ?_)
    refine lv_iconst (v := (-1 : Int32)) hx hb dL_refused_585 (by decide) ?_
    refine lv_icmp_ne (tgt := 676) hx hb dL_refused_586 (by decide) (fun c154 => ?_) (fun c154 => ?_)
    · have hM := b_else hM c154
      cases hM
    · have hM := b_if hM c154
      refine lv_aload_n hx hb dL_refused_589 rfl (lv_at hl 0 rfl) ?_
      refine lv_iconst (v := (-1 : Int32)) hx hb dL_refused_590 (by decide) ?_
      refine g_callV_i (nA := 1) (o := M_X10_doneIn σ109 a0 (-1 : Int32)) (As := [.int (-1 : Int32)]) X.1 hG hA0 rfl rfl (fun _ _ h => C_X10_doneIn l E h hA0) mw1099 mw1100 mw1101 mw12 (gw_ok mw1102 rfl) (by decide +kernel) rfl ⟨Nat.le_of_ble_eq_true rfl, Nat.le_of_ble_eq_true rfl⟩ hl.1 rfl (Nat.le_of_ble_eq_true rfl) ⟨Nat.le_of_ble_eq_true rfl, Nat.le_of_ble_eq_true rfl⟩ dL_refused_591 hM (fun σ111 r112 H locs hG hM => ?_)
      refine lv_iconst (v := (-1 : Int32)) hx hb dL_refused_594 (by decide) ?_
      refine lv_icmp_ne (tgt := 676) hx hb dL_refused_595 (by decide) (fun c153 => ?_) (fun c153 => ?_)
      · have hM := b_else hM c153
        cases hM
      · have hM := b_if hM c153
        refine lv_aload_n hx hb dL_refused_598 rfl (lv_at hl 0 rfl) ?_
        refine lv_iconst (v := (-1 : Int32)) hx hb dL_refused_599 (by decide) ?_
        refine g_callV_i (nA := 1) (o := M_X10_written σ111 a0 (-1 : Int32)) (As := [.int (-1 : Int32)]) X.1 hG hA0 rfl rfl (fun _ _ h => C_X10_written l E h hA0) mw1045 mw1046 mw1047 mw12 (gw_ok mw1048 rfl) (by decide +kernel) rfl ⟨Nat.le_of_ble_eq_true rfl, Nat.le_of_ble_eq_true rfl⟩ hl.1 rfl (Nat.le_of_ble_eq_true rfl) ⟨Nat.le_of_ble_eq_true rfl, Nat.le_of_ble_eq_true rfl⟩ dL_refused_600 hM (fun σ113 r114 H locs hG hM => ?_)
        refine lv_iconst (v := (-1 : Int32)) hx hb dL_refused_603 (by decide) ?_
        refine lv_icmp_ne (tgt := 676) hx hb dL_refused_604 (by decide) (fun c152 => ?_) (fun c152 => ?_)
        · have hM := b_else hM c152
          cases hM
        · have hM := b_if hM c152
          refine lv_aload_n hx hb dL_refused_607 rfl (lv_at hl 0 rfl) ?_
          refine lv_sipush (v := (180 : Int32)) hx hb dL_refused_608 (by decide) ?_
          refine g_callV_i (nA := 1) (o := M_X10_written σ113 a0 (180 : Int32)) (As := [.int (180 : Int32)]) X.1 hG hA0 rfl rfl (fun _ _ h => C_X10_written l E h hA0) mw1045 mw1046 mw1047 mw12 (gw_ok mw1048 rfl) (by decide +kernel) rfl ⟨Nat.le_of_ble_eq_true rfl, Nat.le_of_ble_eq_true rfl⟩ hl.1 rfl (Nat.le_of_ble_eq_true rfl) ⟨Nat.le_of_ble_eq_true rfl, Nat.le_of_ble_eq_true rfl⟩ dL_refused_611 hM (fun σ115 r116 H locs hG hM => ?_)
          refine lv_iconst (v := (-1 : Int32)) hx hb dL_refused_614 (by decide) ?_
          refine lv_icmp_ne (tgt := 676) hx hb dL_refused_615 (by decide) (fun c151 => ?_) (fun c151 => ?_)
          · have hM := b_else hM c151
            cases hM
          · have hM := b_if hM c151
            refine lv_aload_n hx hb dL_refused_618 rfl (lv_at hl 0 rfl) ?_
            refine lv_bipush (v := (31 : Int32)) hx hb dL_refused_619 (by decide) ?_
            refine g_callV_i (nA := 1) (o := M_X10_append σ115 a0 (31 : Int32)) (As := [.int (31 : Int32)]) X.1 hG hA0 rfl rfl (fun _ _ h => C_X10_append l E h hA0) mw364 mw365 mw366 mw12 (gw_ok mw367 rfl) (by decide +kernel) rfl ⟨Nat.le_of_ble_eq_true rfl, Nat.le_of_ble_eq_true rfl⟩ hl.1 rfl (Nat.le_of_ble_eq_true rfl) ⟨Nat.le_of_ble_eq_true rfl, Nat.le_of_ble_eq_true rfl⟩ dL_refused_621 hM (fun σ117 r118 H locs hG hM => ?_)
            refine lv_bipush (v := (-2 : Int32)) hx hb dL_refused_624 (by decide) ?_
            refine lv_icmp_ne (tgt := 676) hx hb dL_refused_626 (by decide) (fun c150 => ?_) (fun c150 => ?_)
            · have hM := b_else hM c150
              cases hM
            · have hM := b_if hM c150
              refine lv_aload_n hx hb dL_refused_629 rfl (lv_at hl 0 rfl) ?_
              refine lv_bipush (v := (127 : Int32)) hx hb dL_refused_630 (by decide) ?_
              refine g_callV_i (nA := 1) (o := M_X10_append σ117 a0 (127 : Int32)) (As := [.int (127 : Int32)]) X.1 hG hA0 rfl rfl (fun _ _ h => C_X10_append l E h hA0) mw364 mw365 mw366 mw12 (gw_ok mw367 rfl) (by decide +kernel) rfl ⟨Nat.le_of_ble_eq_true rfl, Nat.le_of_ble_eq_true rfl⟩ hl.1 rfl (Nat.le_of_ble_eq_true rfl) ⟨Nat.le_of_ble_eq_true rfl, Nat.le_of_ble_eq_true rfl⟩ dL_refused_632 hM (fun σ119 r120 H locs hG hM => ?_)
              refine lv_bipush (v := (-2 : Int32)) hx hb dL_refused_635 (by decide) ?_
              refine lv_icmp_ne (tgt := 676) hx hb dL_refused_637 (by decide) (fun c149 => ?_) (fun c149 => ?_)
              · have hM := b_else hM c149
                cases hM
              · have hM := b_if hM c149
                refine lv_aload_n hx hb dL_refused_640 rfl (lv_at hl 0 rfl) ?_
                refine lv_bipush (v := (19 : Int32)) hx hb dL_refused_641 (by decide) ?_
                refine g_callV_i (nA := 1) (o := M_X10_account σ119 a0 (19 : Int32)) (As := [.int (19 : Int32)]) X.1 hG hA0 rfl rfl (fun _ _ h => C_X10_account l E h hA0) mw959 mw960 mw961 mw12 (gw_ok mw962 rfl) (by decide +kernel) rfl ⟨Nat.le_of_ble_eq_true rfl, Nat.le_of_ble_eq_true rfl⟩ hl.1 rfl (Nat.le_of_ble_eq_true rfl) ⟨Nat.le_of_ble_eq_true rfl, Nat.le_of_ble_eq_true rfl⟩ dL_refused_643 hM (fun σ121 r122 H locs hG hM => ?_)
                refine lv_bipush (v := (-2 : Int32)) hx hb dL_refused_646 (by decide) ?_
                refine lv_icmp_ne (tgt := 676) hx hb dL_refused_648 (by decide) (fun c148 => ?_) (fun c148 => ?_)
                · have hM := b_else hM c148
                  cases hM
                · have hM := b_if hM c148
                  exact w_L_refused_651 X hs0 hAn hA0 σ121 x1 x7 _ _ _ z hG (lv_sub hl [0, 1, 3] rfl) hM
set_option maxRecDepth 20000 in
set_option maxHeartbeats 4000000 in
theorem w_L_refused_480 {p : Program} {l : Launch} {e : Env} {s : State} {m : MethodId} {below : List Frame} {meth : Method} {c : Code} {args : Array Value} {E : Ev} {s0 : State} {a0 : Nat} (X : Bx E p m meth c cL_refused 9 (some .boolean) s args RL) (hs0 : Dr s0 s) (hAn : ∀ q, s.heap.size ≤ q → AE E q) (hA0 : lay 10 a0) : ∀ (σ : St) (x1 : Int64) (x4 : Int32) (x5 : Int32) (x6 : Int32) (x7 : Int32) (H : Heap) (locs : List Loc) (ls : Array Slot) (z : St × Int32), GS E σ s.heap H locs → lv_has ls 9 [(0, .ref (E.1 a0)), (1, .long x1), (4, .int x4), (5, .int x5), (6, .int x6), (7, .int x7)] → B_L_refused_480 σ a0 x1 x4 x5 x6 x7 = some z → W p l e (rmA 9 1 2) s m args below meth c H locs 0 0 (QZD E z below args s0 1 2) (F0 m 480 ls []) := by
  have hx := X.1.1.1
  have hb := X.1.1.2.1
  intro σ x1 x4 x5 x6 x7 H locs ls z  hG hl hM
  unfold B_L_refused_480 at hM
  refine lv_aload_n hx hb dL_refused_480 rfl (lv_at hl 0 rfl) ?_
  refine lv_iconst (v := (-1 : Int32)) hx hb dL_refused_481 (by decide) ?_
  refine g_callV_i (nA := 1) (o := M_X10_oldest σ a0 (-1 : Int32)) (As := [.int (-1 : Int32)]) X.1 hG hA0 rfl rfl (fun _ _ h => C_X10_oldest l E h hA0) mw899 mw900 mw901 mw12 (gw_ok mw902 rfl) (by decide +kernel) rfl ⟨Nat.le_of_ble_eq_true rfl, Nat.le_of_ble_eq_true rfl⟩ hl.1 rfl (Nat.le_of_ble_eq_true rfl) ⟨Nat.le_of_ble_eq_true rfl, Nat.le_of_ble_eq_true rfl⟩ dL_refused_482 hM (fun σ91 r92 H locs hG hM => ?_)
  refine lv_iconst (v := (-1 : Int32)) hx hb dL_refused_485 (by decide) ?_
  refine lv_icmp_ne (tgt := 676) hx hb dL_refused_486 (by decide) (fun c163 => ?_) (fun c163 => ?_)
  · have hM := b_else hM c163
    cases hM
  · have hM := b_if hM c163
    refine lv_aload_n hx hb dL_refused_489 rfl (lv_at hl 0 rfl) ?_
    refine lv_iload hx hb dL_refused_490 (lv_at hl 3 rfl) ?_
    refine lv_bipush (v := (9 : Int32)) hx hb dL_refused_492 (by decide) ?_
    refine g_callV_i (nA := 2) (o := M_X10_crewOf σ91 a0 x5 (9 : Int32)) (As := [.int x5, .int (9 : Int32)]) X.1 hG hA0 rfl rfl (fun _ _ h => C_X10_crewOf l E h hA0) mw911 mw912 mw913 mw12 (gw_ok mw914 rfl) (by decide +kernel) rfl ⟨Nat.le_of_ble_eq_true rfl, Nat.le_of_ble_eq_true rfl⟩ hl.1 rfl (Nat.le_of_ble_eq_true rfl) ⟨Nat.le_of_ble_eq_true rfl, Nat.le_of_ble_eq_true rfl⟩ dL_refused_494 hM (fun σ93 r94 H locs hG hM => ?_)
    refine lv_iconst (v := (-1 : Int32)) hx hb dL_refused_497 (by decide) ?_
    refine lv_icmp_ne (tgt := 676) hx hb dL_refused_498 (by decide) (fun c162 => ?_) (fun c162 => ?_)
    · have hM := b_else hM c162
      cases hM
    · have hM := b_if hM c162
      refine lv_aload_n hx hb dL_refused_501 rfl (lv_at hl 0 rfl) ?_
      refine lv_iconst (v := (0 : Int32)) hx hb dL_refused_502 (by decide) ?_
      refine lv_iconst (v := (4 : Int32)) hx hb dL_refused_503 (by decide) ?_
      refine g_callV_i (nA := 2) (o := M_X10_crewOf σ93 a0 (0 : Int32) (4 : Int32)) (As := [.int (0 : Int32), .int (4 : Int32)]) X.1 hG hA0 rfl rfl (fun _ _ h => C_X10_crewOf l E h hA0) mw911 mw912 mw913 mw12 (gw_ok mw914 rfl) (by decide +kernel) rfl ⟨Nat.le_of_ble_eq_true rfl, Nat.le_of_ble_eq_true rfl⟩ hl.1 rfl (Nat.le_of_ble_eq_true rfl) ⟨Nat.le_of_ble_eq_true rfl, Nat.le_of_ble_eq_true rfl⟩ dL_refused_504 hM (fun σ95 r96 H locs hG hM => ?_)
      refine lv_bipush (v := (-2 : Int32)) hx hb dL_refused_507 (by decide) ?_
      refine lv_icmp_ne (tgt := 676) hx hb dL_refused_509 (by decide) (fun c161 => ?_) (fun c161 => ?_)
      · have hM := b_else hM c161
        cases hM
      · have hM := b_if hM c161
        refine lv_aload_n hx hb dL_refused_512 rfl (lv_at hl 0 rfl) ?_
        refine lv_iconst (v := (0 : Int32)) hx hb dL_refused_513 (by decide) ?_
        refine lv_iconst (v := (-1 : Int32)) hx hb dL_refused_514 (by decide) ?_
        refine g_callV_i (nA := 2) (o := M_X10_crewOf σ95 a0 (0 : Int32) (-1 : Int32)) (As := [.int (0 : Int32), .int (-1 : Int32)]) X.1 hG hA0 rfl rfl (fun _ _ h => C_X10_crewOf l E h hA0) mw911 mw912 mw913 mw12 (gw_ok mw914 rfl) (by decide +kernel) rfl ⟨Nat.le_of_ble_eq_true rfl, Nat.le_of_ble_eq_true rfl⟩ hl.1 rfl (Nat.le_of_ble_eq_true rfl) ⟨Nat.le_of_ble_eq_true rfl, Nat.le_of_ble_eq_true rfl⟩ dL_refused_515 hM (fun σ97 r98 H locs hG hM => ?_)
        refine lv_bipush (v := (-2 : Int32)) hx hb dL_refused_518 (by decide) ?_
        refine lv_icmp_ne (tgt := 676) hx hb dL_refused_520 (by decide) (fun c160 => ?_) (fun c160 => ?_)
        · have hM := b_else hM c160
          cases hM
        · have hM := b_if hM c160
          refine lv_aload_n hx hb dL_refused_523 rfl (lv_at hl 0 rfl) ?_
          refine lv_iload hx hb dL_refused_524 (lv_at hl 4 rfl) ?_
          refine lv_bipush (v := (9 : Int32)) hx hb dL_refused_526 (by decide) ?_
          refine g_callV_i (nA := 2) (o := M_X10_inspectorOf σ97 a0 x6 (9 : Int32)) (As := [.int x6, .int (9 : Int32)]) X.1 hG hA0 rfl rfl (fun _ _ h => C_X10_inspectorOf l E h hA0) mw928 mw929 mw930 mw12 (gw_ok mw931 rfl) (by decide +kernel) rfl ⟨Nat.le_of_ble_eq_true rfl, Nat.le_of_ble_eq_true rfl⟩ hl.1 rfl (Nat.le_of_ble_eq_true rfl) ⟨Nat.le_of_ble_eq_true rfl, Nat.le_of_ble_eq_true rfl⟩ dL_refused_528 hM (fun σ99 r100 H locs hG hM => ?_)
          refine lv_iconst (v := (-1 : Int32)) hx hb dL_refused_531 (by decide) ?_
          refine lv_icmp_ne (tgt := 676) hx hb dL_refused_532 (by decide) (fun c159 => ?_) (fun c159 => ?_)
          · have hM := b_else hM c159
            cases hM
          · have hM := b_if hM c159
            refine lv_aload_n hx hb dL_refused_535 rfl (lv_at hl 0 rfl) ?_
            refine lv_iconst (v := (0 : Int32)) hx hb dL_refused_536 (by decide) ?_
            refine lv_iconst (v := (3 : Int32)) hx hb dL_refused_537 (by decide) ?_
            refine g_callV_i (nA := 2) (o := M_X10_inspectorOf σ99 a0 (0 : Int32) (3 : Int32)) (As := [.int (0 : Int32), .int (3 : Int32)]) X.1 hG hA0 rfl rfl (fun _ _ h => C_X10_inspectorOf l E h hA0) mw928 mw929 mw930 mw12 (gw_ok mw931 rfl) (by decide +kernel) rfl ⟨Nat.le_of_ble_eq_true rfl, Nat.le_of_ble_eq_true rfl⟩ hl.1 rfl (Nat.le_of_ble_eq_true rfl) ⟨Nat.le_of_ble_eq_true rfl, Nat.le_of_ble_eq_true rfl⟩ dL_refused_538 hM (fun σ101 r102 H locs hG hM => ?_)
            refine lv_bipush (v := (-2 : Int32)) hx hb dL_refused_541 (by decide) ?_
            refine lv_icmp_ne (tgt := 676) hx hb dL_refused_543 (by decide) (fun c158 => ?_) (fun c158 => ?_)
            · have hM := b_else hM c158
              cases hM
            · have hM := b_if hM c158
              refine lv_aload_n hx hb dL_refused_546 rfl (lv_at hl 0 rfl) ?_
              refine lv_iconst (v := (0 : Int32)) hx hb dL_refused_547 (by decide) ?_
              refine lv_iconst (v := (-1 : Int32)) hx hb dL_refused_548 (by decide) ?_
              refine g_callV_i (nA := 2) (o := M_X10_inspectorOf σ101 a0 (0 : Int32) (-1 : Int32)) (As := [.int (0 : Int32), .int (-1 : Int32)]) X.1 hG hA0 rfl rfl (fun _ _ h => C_X10_inspectorOf l E h hA0) mw928 mw929 mw930 mw12 (gw_ok mw931 rfl) (by decide +kernel) rfl ⟨Nat.le_of_ble_eq_true rfl, Nat.le_of_ble_eq_true rfl⟩ hl.1 rfl (Nat.le_of_ble_eq_true rfl) ⟨Nat.le_of_ble_eq_true rfl, Nat.le_of_ble_eq_true rfl⟩ dL_refused_549 hM (fun σ103 r104 H locs hG hM => ?_)
              refine lv_bipush (v := (-2 : Int32)) hx hb dL_refused_552 (by decide) ?_
              refine lv_icmp_ne (tgt := 676) hx hb dL_refused_554 (by decide) (fun c157 => ?_) (fun c157 => ?_)
              · have hM := b_else hM c157
                cases hM
              · have hM := b_if hM c157
                refine lv_aload_n hx hb dL_refused_557 rfl (lv_at hl 0 rfl) ?_
                refine lv_bipush (v := (7 : Int32)) hx hb dL_refused_558 (by decide) ?_
                refine g_callV_i (nA := 1) (o := M_X10_wouldFall σ103 a0 (7 : Int32)) (As := [.int (7 : Int32)]) X.1 hG hA0 rfl rfl (fun _ _ h => C_X10_wouldFall l E h hA0) mw939 mw940 mw941 mw12 (gw_ok mw942 rfl) (by decide +kernel) rfl ⟨Nat.le_of_ble_eq_true rfl, Nat.le_of_ble_eq_true rfl⟩ hl.1 rfl (Nat.le_of_ble_eq_true rfl) ⟨Nat.le_of_ble_eq_true rfl, Nat.le_of_ble_eq_true rfl⟩ dL_refused_560 hM (fun σ105 r106 H locs hG hM => ?_)
                refine lv_bipush (v := (-2 : Int32)) hx hb dL_refused_563 (by decide) ?_
                refine lv_icmp_ne (tgt := 676) hx hb dL_refused_565 (by decide) (fun c156 => ?_) (fun c156 => ?_)
                · have hM := b_else hM c156
                  cases hM
                · have hM := b_if hM c156
                  exact w_L_refused_568 X hs0 hAn hA0 σ105 x1 x4 x7 _ _ _ z hG (lv_sub hl [0, 1, 2, 5] rfl) hM
set_option maxRecDepth 20000 in
set_option maxHeartbeats 4000000 in
theorem w_L_refused_394 {p : Program} {l : Launch} {e : Env} {s : State} {m : MethodId} {below : List Frame} {meth : Method} {c : Code} {args : Array Value} {E : Ev} {s0 : State} {a0 : Nat} (X : Bx E p m meth c cL_refused 9 (some .boolean) s args RL) (hs0 : Dr s0 s) (hAn : ∀ q, s.heap.size ≤ q → AE E q) (hA0 : lay 10 a0) : ∀ (σ : St) (x1 : Int64) (x3 : Int32) (x4 : Int32) (x5 : Int32) (x6 : Int32) (x7 : Int32) (H : Heap) (locs : List Loc) (ls : Array Slot) (z : St × Int32), GS E σ s.heap H locs → lv_has ls 9 [(0, .ref (E.1 a0)), (1, .long x1), (3, .int x3), (4, .int x4), (5, .int x5), (6, .int x6), (7, .int x7)] → B_L_refused_394 σ a0 x1 x3 x4 x5 x6 x7 = some z → W p l e (rmA 9 1 2) s m args below meth c H locs 0 0 (QZD E z below args s0 1 2) (F0 m 394 ls []) := by
  have hx := X.1.1.1
  have hb := X.1.1.2.1
  intro σ x1 x3 x4 x5 x6 x7 H locs ls z  hG hl hM
  unfold B_L_refused_394 at hM
  refine lv_aload_n hx hb dL_refused_394 rfl (lv_at hl 0 rfl) ?_
  refine lv_iload_n hx hb dL_refused_395 rfl (lv_at hl 2 rfl) ?_
  refine lv_iconst (v := (1 : Int32)) hx hb dL_refused_396 (by decide) ?_
  refine g_callV_i (nA := 2) (o := M_X10_bundleOf σ a0 x3 (1 : Int32)) (As := [.int x3, .int (1 : Int32)]) X.1 hG hA0 rfl rfl (fun _ _ h => C_X10_bundleOf l E h hA0) mw1086 mw1087 mw1088 mw12 (gw_ok mw1089 rfl) (by decide +kernel) rfl ⟨Nat.le_of_ble_eq_true rfl, Nat.le_of_ble_eq_true rfl⟩ hl.1 rfl (Nat.le_of_ble_eq_true rfl) ⟨Nat.le_of_ble_eq_true rfl, Nat.le_of_ble_eq_true rfl⟩ dL_refused_397 hM (fun σ75 r76 H locs hG hM => ?_)
  refine lv_iconst (v := (-1 : Int32)) hx hb dL_refused_400 (by decide) ?_
  refine lv_icmp_ne (tgt := 676) hx hb dL_refused_401 (by decide) (fun c171 => ?_) (fun c171 => ?_)
  · have hM := b_else hM c171
    cases hM
  · have hM := b_if hM c171
    refine lv_aload_n hx hb dL_refused_404 rfl (lv_at hl 0 rfl) ?_
    refine lv_iconst (v := (-1 : Int32)) hx hb dL_refused_405 (by decide) ?_
    refine lv_iconst (v := (0 : Int32)) hx hb dL_refused_406 (by decide) ?_
    refine g_callV_i (nA := 2) (o := M_X10_bundleOf σ75 a0 (-1 : Int32) (0 : Int32)) (As := [.int (-1 : Int32), .int (0 : Int32)]) X.1 hG hA0 rfl rfl (fun _ _ h => C_X10_bundleOf l E h hA0) mw1086 mw1087 mw1088 mw12 (gw_ok mw1089 rfl) (by decide +kernel) rfl ⟨Nat.le_of_ble_eq_true rfl, Nat.le_of_ble_eq_true rfl⟩ hl.1 rfl (Nat.le_of_ble_eq_true rfl) ⟨Nat.le_of_ble_eq_true rfl, Nat.le_of_ble_eq_true rfl⟩ dL_refused_407 hM (fun σ77 r78 H locs hG hM => ?_)
    refine lv_iconst (v := (-1 : Int32)) hx hb dL_refused_410 (by decide) ?_
    refine lv_icmp_ne (tgt := 676) hx hb dL_refused_411 (by decide) (fun c170 => ?_) (fun c170 => ?_)
    · have hM := b_else hM c170
      cases hM
    · have hM := b_if hM c170
      refine lv_aload_n hx hb dL_refused_414 rfl (lv_at hl 0 rfl) ?_
      refine lv_iload hx hb dL_refused_415 (lv_at hl 3 rfl) ?_
      refine lv_bipush (v := (9 : Int32)) hx hb dL_refused_417 (by decide) ?_
      refine g_callV_i (nA := 2) (o := M_X10_storeyOf σ77 a0 x4 (9 : Int32)) (As := [.int x4, .int (9 : Int32)]) X.1 hG hA0 rfl rfl (fun _ _ h => C_X10_storeyOf l E h hA0) mw865 mw866 mw867 mw12 (gw_ok mw868 rfl) (by decide +kernel) rfl ⟨Nat.le_of_ble_eq_true rfl, Nat.le_of_ble_eq_true rfl⟩ hl.1 rfl (Nat.le_of_ble_eq_true rfl) ⟨Nat.le_of_ble_eq_true rfl, Nat.le_of_ble_eq_true rfl⟩ dL_refused_419 hM (fun σ79 r80 H locs hG hM => ?_)
      refine lv_iconst (v := (-1 : Int32)) hx hb dL_refused_422 (by decide) ?_
      refine lv_icmp_ne (tgt := 676) hx hb dL_refused_423 (by decide) (fun c169 => ?_) (fun c169 => ?_)
      · have hM := b_else hM c169
        cases hM
      · have hM := b_if hM c169
        refine lv_aload_n hx hb dL_refused_426 rfl (lv_at hl 0 rfl) ?_
        refine lv_iconst (v := (0 : Int32)) hx hb dL_refused_427 (by decide) ?_
        refine lv_bipush (v := (7 : Int32)) hx hb dL_refused_428 (by decide) ?_
        refine g_callV_i (nA := 2) (o := M_X10_storeyOf σ79 a0 (0 : Int32) (7 : Int32)) (As := [.int (0 : Int32), .int (7 : Int32)]) X.1 hG hA0 rfl rfl (fun _ _ h => C_X10_storeyOf l E h hA0) mw865 mw866 mw867 mw12 (gw_ok mw868 rfl) (by decide +kernel) rfl ⟨Nat.le_of_ble_eq_true rfl, Nat.le_of_ble_eq_true rfl⟩ hl.1 rfl (Nat.le_of_ble_eq_true rfl) ⟨Nat.le_of_ble_eq_true rfl, Nat.le_of_ble_eq_true rfl⟩ dL_refused_430 hM (fun σ81 r82 H locs hG hM => ?_)
        refine lv_bipush (v := (-2 : Int32)) hx hb dL_refused_433 (by decide) ?_
        refine lv_icmp_ne (tgt := 676) hx hb dL_refused_435 (by decide) (fun c168 => ?_) (fun c168 => ?_)
        · have hM := b_else hM c168
          cases hM
        · have hM := b_if hM c168
          refine lv_aload_n hx hb dL_refused_438 rfl (lv_at hl 0 rfl) ?_
          refine lv_iconst (v := (0 : Int32)) hx hb dL_refused_439 (by decide) ?_
          refine lv_iconst (v := (-1 : Int32)) hx hb dL_refused_440 (by decide) ?_
          refine g_callV_i (nA := 2) (o := M_X10_storeyOf σ81 a0 (0 : Int32) (-1 : Int32)) (As := [.int (0 : Int32), .int (-1 : Int32)]) X.1 hG hA0 rfl rfl (fun _ _ h => C_X10_storeyOf l E h hA0) mw865 mw866 mw867 mw12 (gw_ok mw868 rfl) (by decide +kernel) rfl ⟨Nat.le_of_ble_eq_true rfl, Nat.le_of_ble_eq_true rfl⟩ hl.1 rfl (Nat.le_of_ble_eq_true rfl) ⟨Nat.le_of_ble_eq_true rfl, Nat.le_of_ble_eq_true rfl⟩ dL_refused_441 hM (fun σ83 r84 H locs hG hM => ?_)
          refine lv_bipush (v := (-2 : Int32)) hx hb dL_refused_444 (by decide) ?_
          refine lv_icmp_ne (tgt := 676) hx hb dL_refused_446 (by decide) (fun c167 => ?_) (fun c167 => ?_)
          · have hM := b_else hM c167
            cases hM
          · have hM := b_if hM c167
            refine lv_aload_n hx hb dL_refused_449 rfl (lv_at hl 0 rfl) ?_
            refine lv_iload hx hb dL_refused_450 (lv_at hl 3 rfl) ?_
            refine lv_iconst (v := (1 : Int32)) hx hb dL_refused_452 (by decide) ?_
            refine g_callV_i (nA := 2) (o := M_X10_strength σ83 a0 x4 (1 : Int32)) (As := [.int x4, .int (1 : Int32)]) X.1 hG hA0 rfl rfl (fun _ _ h => C_X10_strength l E h hA0) mw880 mw881 mw882 mw12 (gw_ok mw883 rfl) (by decide +kernel) rfl ⟨Nat.le_of_ble_eq_true rfl, Nat.le_of_ble_eq_true rfl⟩ hl.1 rfl (Nat.le_of_ble_eq_true rfl) ⟨Nat.le_of_ble_eq_true rfl, Nat.le_of_ble_eq_true rfl⟩ dL_refused_453 hM (fun σ85 r86 H locs hG hM => ?_)
            refine lv_iconst (v := (-1 : Int32)) hx hb dL_refused_456 (by decide) ?_
            refine lv_icmp_ne (tgt := 676) hx hb dL_refused_457 (by decide) (fun c166 => ?_) (fun c166 => ?_)
            · have hM := b_else hM c166
              cases hM
            · have hM := b_if hM c166
              refine lv_aload_n hx hb dL_refused_460 rfl (lv_at hl 0 rfl) ?_
              refine lv_iconst (v := (-1 : Int32)) hx hb dL_refused_461 (by decide) ?_
              refine lv_iconst (v := (0 : Int32)) hx hb dL_refused_462 (by decide) ?_
              refine g_callV_i (nA := 2) (o := M_X10_strength σ85 a0 (-1 : Int32) (0 : Int32)) (As := [.int (-1 : Int32), .int (0 : Int32)]) X.1 hG hA0 rfl rfl (fun _ _ h => C_X10_strength l E h hA0) mw880 mw881 mw882 mw12 (gw_ok mw883 rfl) (by decide +kernel) rfl ⟨Nat.le_of_ble_eq_true rfl, Nat.le_of_ble_eq_true rfl⟩ hl.1 rfl (Nat.le_of_ble_eq_true rfl) ⟨Nat.le_of_ble_eq_true rfl, Nat.le_of_ble_eq_true rfl⟩ dL_refused_463 hM (fun σ87 r88 H locs hG hM => ?_)
              refine lv_iconst (v := (-1 : Int32)) hx hb dL_refused_466 (by decide) ?_
              refine lv_icmp_ne (tgt := 676) hx hb dL_refused_467 (by decide) (fun c165 => ?_) (fun c165 => ?_)
              · have hM := b_else hM c165
                cases hM
              · have hM := b_if hM c165
                refine lv_aload_n hx hb dL_refused_470 rfl (lv_at hl 0 rfl) ?_
                refine lv_iload hx hb dL_refused_471 (lv_at hl 3 rfl) ?_
                refine g_callV_i (nA := 1) (o := M_X10_oldest σ87 a0 x4) (As := [.int x4]) X.1 hG hA0 rfl rfl (fun _ _ h => C_X10_oldest l E h hA0) mw899 mw900 mw901 mw12 (gw_ok mw902 rfl) (by decide +kernel) rfl ⟨Nat.le_of_ble_eq_true rfl, Nat.le_of_ble_eq_true rfl⟩ hl.1 rfl (Nat.le_of_ble_eq_true rfl) ⟨Nat.le_of_ble_eq_true rfl, Nat.le_of_ble_eq_true rfl⟩ dL_refused_473 hM (fun σ89 r90 H locs hG hM => ?_)
                refine lv_iconst (v := (-1 : Int32)) hx hb dL_refused_476 (by decide) ?_
                refine lv_icmp_ne (tgt := 676) hx hb dL_refused_477 (by decide) (fun c164 => ?_) (fun c164 => ?_)
                · have hM := b_else hM c164
                  cases hM
                · have hM := b_if hM c164
                  exact w_L_refused_480 X hs0 hAn hA0 σ89 x1 x4 x5 x6 x7 _ _ _ z hG (lv_sub hl [0, 1, 3, 4, 5, 6] rfl) hM
set_option maxRecDepth 20000 in
set_option maxHeartbeats 4000000 in
theorem w_L_refused_387 {p : Program} {l : Launch} {e : Env} {s : State} {m : MethodId} {below : List Frame} {meth : Method} {c : Code} {args : Array Value} {E : Ev} {s0 : State} {a0 : Nat} (X : Bx E p m meth c cL_refused 9 (some .boolean) s args RL) (hs0 : Dr s0 s) (hAn : ∀ q, s.heap.size ≤ q → AE E q) (hA0 : lay 10 a0) : ∀ (σ : St) (x1 : Int64) (x3 : Int32) (x4 : Int32) (x5 : Int32) (x6 : Int32) (x7 : Int32) (t0 : Int32) (H : Heap) (locs : List Loc) (ls : Array Slot) (z : St × Int32), GS E σ s.heap H locs → lv_has ls 9 [(0, .ref (E.1 a0)), (1, .long x1), (3, .int x3), (4, .int x4), (5, .int x5), (6, .int x6), (7, .int x7)] → B_L_refused_387 σ a0 x1 x3 x4 x5 x6 x7 t0 = some z → W p l e (rmA 9 1 2) s m args below meth c H locs 0 0 (QZD E z below args s0 1 2) (F0 m 387 ls [.int t0]) := by
  have hx := X.1.1.1
  have hb := X.1.1.2.1
  intro σ x1 x3 x4 x5 x6 x7 t0 H locs ls z  hG hl hM
  unfold B_L_refused_387 at hM
  refine lv_istore (lv' := [(8, .int t0), (0, .ref (E.1 a0)), (1, .long x1), (3, .int x3), (4, .int x4), (5, .int x5), (6, .int x6), (7, .int x7)]) hx hb dL_refused_387 hl (by decide) rfl (fun ls hl => ?_)
  refine lv_iload hx hb dL_refused_389 (lv_at hl 0 rfl) ?_
  refine lv_if_eq (tgt := 676) hx hb dL_refused_391 (by decide) (fun c172 => ?_) (fun c172 => ?_)
  · have hM := b_if hM c172
    cases hM
  · have hM := b_else hM c172
    exact w_L_refused_394 X hs0 hAn hA0 σ x1 x3 x4 x5 x6 x7 _ _ _ z hG (lv_sub hl [1, 2, 3, 4, 5, 6, 7] rfl) hM
set_option maxRecDepth 20000 in
set_option maxHeartbeats 4000000 in
theorem w_L_refused_307 {p : Program} {l : Launch} {e : Env} {s : State} {m : MethodId} {below : List Frame} {meth : Method} {c : Code} {args : Array Value} {E : Ev} {s0 : State} {a0 : Nat} (X : Bx E p m meth c cL_refused 9 (some .boolean) s args RL) (hs0 : Dr s0 s) (hAn : ∀ q, s.heap.size ≤ q → AE E q) (hA0 : lay 10 a0) : ∀ (σ : St) (x1 : Int64) (x3 : Int32) (x4 : Int32) (x5 : Int32) (x6 : Int32) (x7 : Int32) (H : Heap) (locs : List Loc) (ls : Array Slot) (z : St × Int32), GS E σ s.heap H locs → lv_has ls 9 [(0, .ref (E.1 a0)), (1, .long x1), (3, .int x3), (4, .int x4), (5, .int x5), (6, .int x6), (7, .int x7)] → B_L_refused_307 σ a0 x1 x3 x4 x5 x6 x7 = some z → W p l e (rmA 9 1 2) s m args below meth c H locs 0 0 (QZD E z below args s0 1 2) (F0 m 307 ls []) := by
  have hx := X.1.1.1
  have hb := X.1.1.2.1
  intro σ x1 x3 x4 x5 x6 x7 H locs ls z  hG hl hM
  unfold B_L_refused_307 at hM
  refine lv_aload_n hx hb dL_refused_307 rfl (lv_at hl 0 rfl) ?_
  refine lv_bipush (v := (11 : Int32)) hx hb dL_refused_308 (by decide) ?_
  refine g_callV_i (nA := 1) (o := M_X10_signal σ a0 (11 : Int32)) (As := [.int (11 : Int32)]) X.1 hG hA0 rfl rfl (fun _ _ h => C_X10_signal l E h hA0) mw598 mw599 mw600 mw12 (gw_ok mw601 rfl) (by decide +kernel) rfl ⟨Nat.le_of_ble_eq_true rfl, Nat.le_of_ble_eq_true rfl⟩ hl.1 rfl (Nat.le_of_ble_eq_true rfl) ⟨Nat.le_of_ble_eq_true rfl, Nat.le_of_ble_eq_true rfl⟩ dL_refused_310 hM (fun σ61 r62 H locs hG hM => ?_)
  refine lv_bipush (v := (-2 : Int32)) hx hb dL_refused_313 (by decide) ?_
  refine lv_icmp_ne (tgt := 386) hx hb dL_refused_315 (by decide) (fun c179 => ?_) (fun c179 => ?_)
  · have hM := b_else hM c179
    cases hM
  · have hM := b_if hM c179
    refine lv_aload_n hx hb dL_refused_318 rfl (lv_at hl 0 rfl) ?_
    refine lv_iconst (v := (0 : Int32)) hx hb dL_refused_319 (by decide) ?_
    refine g_callV_i (nA := 1) (o := M_X10_inspector σ61 a0 (0 : Int32)) (As := [.int (0 : Int32)]) X.1 hG hA0 rfl rfl (fun _ _ h => C_X10_inspector l E h hA0) mw611 mw612 mw613 mw12 (gw_ok mw614 rfl) (by decide +kernel) rfl ⟨Nat.le_of_ble_eq_true rfl, Nat.le_of_ble_eq_true rfl⟩ hl.1 rfl (Nat.le_of_ble_eq_true rfl) ⟨Nat.le_of_ble_eq_true rfl, Nat.le_of_ble_eq_true rfl⟩ dL_refused_320 hM (fun σ63 r64 H locs hG hM => ?_)
    refine lv_bipush (v := (-2 : Int32)) hx hb dL_refused_323 (by decide) ?_
    refine lv_icmp_ne (tgt := 386) hx hb dL_refused_325 (by decide) (fun c178 => ?_) (fun c178 => ?_)
    · have hM := b_else hM c178
      cases hM
    · have hM := b_if hM c178
      refine lv_aload_n hx hb dL_refused_328 rfl (lv_at hl 0 rfl) ?_
      refine lv_bipush (v := (10 : Int32)) hx hb dL_refused_329 (by decide) ?_
      refine g_callV_i (nA := 1) (o := M_X10_inspector σ63 a0 (10 : Int32)) (As := [.int (10 : Int32)]) X.1 hG hA0 rfl rfl (fun _ _ h => C_X10_inspector l E h hA0) mw611 mw612 mw613 mw12 (gw_ok mw614 rfl) (by decide +kernel) rfl ⟨Nat.le_of_ble_eq_true rfl, Nat.le_of_ble_eq_true rfl⟩ hl.1 rfl (Nat.le_of_ble_eq_true rfl) ⟨Nat.le_of_ble_eq_true rfl, Nat.le_of_ble_eq_true rfl⟩ dL_refused_331 hM (fun σ65 r66 H locs hG hM => ?_)
      refine lv_bipush (v := (-2 : Int32)) hx hb dL_refused_334 (by decide) ?_
      refine lv_icmp_ne (tgt := 386) hx hb dL_refused_336 (by decide) (fun c177 => ?_) (fun c177 => ?_)
      · have hM := b_else hM c177
        cases hM
      · have hM := b_if hM c177
        refine lv_aload_n hx hb dL_refused_339 rfl (lv_at hl 0 rfl) ?_
        refine lv_iload hx hb dL_refused_340 (lv_at hl 5 rfl) ?_
        refine lv_iconst (v := (0 : Int32)) hx hb dL_refused_342 (by decide) ?_
        refine g_callV_i (nA := 2) (o := M_X10_inspect σ65 a0 x6 (0 : Int32)) (As := [.int x6, .int (0 : Int32)]) X.1 hG hA0 rfl rfl (fun _ _ h => C_X10_inspect l E h hA0) mw624 mw625 mw626 mw12 (gw_ok mw627 rfl) (by decide +kernel) rfl ⟨Nat.le_of_ble_eq_true rfl, Nat.le_of_ble_eq_true rfl⟩ hl.1 rfl (Nat.le_of_ble_eq_true rfl) ⟨Nat.le_of_ble_eq_true rfl, Nat.le_of_ble_eq_true rfl⟩ dL_refused_343 hM (fun σ67 r68 H locs hG hM => ?_)
        refine lv_iconst (v := (-1 : Int32)) hx hb dL_refused_346 (by decide) ?_
        refine lv_icmp_ne (tgt := 386) hx hb dL_refused_347 (by decide) (fun c176 => ?_) (fun c176 => ?_)
        · have hM := b_else hM c176
          cases hM
        · have hM := b_if hM c176
          refine lv_aload_n hx hb dL_refused_350 rfl (lv_at hl 0 rfl) ?_
          refine lv_iconst (v := (0 : Int32)) hx hb dL_refused_351 (by decide) ?_
          refine lv_iload hx hb dL_refused_352 (lv_at hl 3 rfl) ?_
          refine g_callV_i (nA := 2) (o := M_X10_inspect σ67 a0 (0 : Int32) x4) (As := [.int (0 : Int32), .int x4]) X.1 hG hA0 rfl rfl (fun _ _ h => C_X10_inspect l E h hA0) mw624 mw625 mw626 mw12 (gw_ok mw627 rfl) (by decide +kernel) rfl ⟨Nat.le_of_ble_eq_true rfl, Nat.le_of_ble_eq_true rfl⟩ hl.1 rfl (Nat.le_of_ble_eq_true rfl) ⟨Nat.le_of_ble_eq_true rfl, Nat.le_of_ble_eq_true rfl⟩ dL_refused_354 hM (fun σ69 r70 H locs hG hM => ?_)
          refine lv_iconst (v := (-1 : Int32)) hx hb dL_refused_357 (by decide) ?_
          refine lv_icmp_ne (tgt := 386) hx hb dL_refused_358 (by decide) (fun c175 => ?_) (fun c175 => ?_)
          · have hM := b_else hM c175
            cases hM
          · have hM := b_if hM c175
            refine lv_aload_n hx hb dL_refused_361 rfl (lv_at hl 0 rfl) ?_
            refine lv_iconst (v := (0 : Int32)) hx hb dL_refused_362 (by decide) ?_
            refine g_callV_i (nA := 1) (o := M_X10_day σ69 a0 (0 : Int32)) (As := [.int (0 : Int32)]) X.1 hG hA0 rfl rfl (fun _ _ h => C_X10_day l E h hA0) mw661 mw662 mw663 mw12 (gw_ok mw664 rfl) (by decide +kernel) rfl ⟨Nat.le_of_ble_eq_true rfl, Nat.le_of_ble_eq_true rfl⟩ hl.1 rfl (Nat.le_of_ble_eq_true rfl) ⟨Nat.le_of_ble_eq_true rfl, Nat.le_of_ble_eq_true rfl⟩ dL_refused_363 hM (fun σ71 r72 H locs hG hM => ?_)
            refine lv_bipush (v := (-2 : Int32)) hx hb dL_refused_366 (by decide) ?_
            refine lv_icmp_ne (tgt := 386) hx hb dL_refused_368 (by decide) (fun c174 => ?_) (fun c174 => ?_)
            · have hM := b_else hM c174
              cases hM
            · have hM := b_if hM c174
              refine lv_aload_n hx hb dL_refused_371 rfl (lv_at hl 0 rfl) ?_
              refine lv_bipush (v := (31 : Int32)) hx hb dL_refused_372 (by decide) ?_
              refine g_callV_i (nA := 1) (o := M_X10_day σ71 a0 (31 : Int32)) (As := [.int (31 : Int32)]) X.1 hG hA0 rfl rfl (fun _ _ h => C_X10_day l E h hA0) mw661 mw662 mw663 mw12 (gw_ok mw664 rfl) (by decide +kernel) rfl ⟨Nat.le_of_ble_eq_true rfl, Nat.le_of_ble_eq_true rfl⟩ hl.1 rfl (Nat.le_of_ble_eq_true rfl) ⟨Nat.le_of_ble_eq_true rfl, Nat.le_of_ble_eq_true rfl⟩ dL_refused_374 hM (fun σ73 r74 H locs hG hM => ?_)
              refine lv_bipush (v := (-2 : Int32)) hx hb dL_refused_377 (by decide) ?_
              refine lv_icmp_ne (tgt := 386) hx hb dL_refused_379 (by decide) (fun c173 => ?_) (fun c173 => ?_)
              · have hM := b_else hM c173
                cases hM
              · have hM := b_if hM c173
                refine lv_iconst (v := (1 : Int32)) hx hb dL_refused_382 (by decide) ?_
                refine lv_goto (tgt := 387) hx hb dL_refused_383 (by decide) ?_
                exact w_L_refused_387 X hs0 hAn hA0 σ73 x1 x3 x4 x5 x6 x7 (1 : Int32) _ _ _ z hG (lv_sub hl [0, 1, 2, 3, 4, 5, 6] rfl) hM
set_option maxRecDepth 20000 in
set_option maxHeartbeats 4000000 in
theorem w_L_refused_221 {p : Program} {l : Launch} {e : Env} {s : State} {m : MethodId} {below : List Frame} {meth : Method} {c : Code} {args : Array Value} {E : Ev} {s0 : State} {a0 : Nat} (X : Bx E p m meth c cL_refused 9 (some .boolean) s args RL) (hs0 : Dr s0 s) (hAn : ∀ q, s.heap.size ≤ q → AE E q) (hA0 : lay 10 a0) : ∀ (σ : St) (x1 : Int64) (x3 : Int32) (x4 : Int32) (x5 : Int32) (x6 : Int32) (x7 : Int32) (H : Heap) (locs : List Loc) (ls : Array Slot) (z : St × Int32), GS E σ s.heap H locs → lv_has ls 9 [(0, .ref (E.1 a0)), (1, .long x1), (3, .int x3), (4, .int x4), (5, .int x5), (6, .int x6), (7, .int x7)] → B_L_refused_221 σ a0 x1 x3 x4 x5 x6 x7 = some z → W p l e (rmA 9 1 2) s m args below meth c H locs 0 0 (QZD E z below args s0 1 2) (F0 m 221 ls []) := by
  have hx := X.1.1.1
  have hb := X.1.1.2.1
  intro σ x1 x3 x4 x5 x6 x7 H locs ls z  hG hl hM
  unfold B_L_refused_221 at hM
  refine lv_aload_n hx hb dL_refused_221 rfl (lv_at hl 0 rfl) ?_
  refine lv_iload hx hb dL_refused_222 (lv_at hl 4 rfl) ?_
  refine lv_iconst (v := (0 : Int32)) hx hb dL_refused_224 (by decide) ?_
  refine g_callV_i (nA := 2) (o := M_X10_up σ a0 x5 (0 : Int32)) (As := [.int x5, .int (0 : Int32)]) X.1 hG hA0 rfl rfl (fun _ _ h => C_X10_up l E h hA0) mw510 mw511 mw512 mw12 (gw_ok mw513 rfl) (by decide +kernel) rfl ⟨Nat.le_of_ble_eq_true rfl, Nat.le_of_ble_eq_true rfl⟩ hl.1 rfl (Nat.le_of_ble_eq_true rfl) ⟨Nat.le_of_ble_eq_true rfl, Nat.le_of_ble_eq_true rfl⟩ dL_refused_225 hM (fun σ45 r46 H locs hG hM => ?_)
  refine lv_iconst (v := (-1 : Int32)) hx hb dL_refused_228 (by decide) ?_
  refine lv_icmp_ne (tgt := 386) hx hb dL_refused_229 (by decide) (fun c187 => ?_) (fun c187 => ?_)
  · have hM := b_else hM c187
    cases hM
  · have hM := b_if hM c187
    refine lv_aload_n hx hb dL_refused_232 rfl (lv_at hl 0 rfl) ?_
    refine lv_iconst (v := (0 : Int32)) hx hb dL_refused_233 (by decide) ?_
    refine lv_iload hx hb dL_refused_234 (lv_at hl 3 rfl) ?_
    refine g_callV_i (nA := 2) (o := M_X10_up σ45 a0 (0 : Int32) x4) (As := [.int (0 : Int32), .int x4]) X.1 hG hA0 rfl rfl (fun _ _ h => C_X10_up l E h hA0) mw510 mw511 mw512 mw12 (gw_ok mw513 rfl) (by decide +kernel) rfl ⟨Nat.le_of_ble_eq_true rfl, Nat.le_of_ble_eq_true rfl⟩ hl.1 rfl (Nat.le_of_ble_eq_true rfl) ⟨Nat.le_of_ble_eq_true rfl, Nat.le_of_ble_eq_true rfl⟩ dL_refused_236 hM (fun σ47 r48 H locs hG hM => ?_)
    refine lv_iconst (v := (-1 : Int32)) hx hb dL_refused_239 (by decide) ?_
    refine lv_icmp_ne (tgt := 386) hx hb dL_refused_240 (by decide) (fun c186 => ?_) (fun c186 => ?_)
    · have hM := b_else hM c186
      cases hM
    · have hM := b_if hM c186
      refine lv_aload_n hx hb dL_refused_243 rfl (lv_at hl 0 rfl) ?_
      refine lv_iconst (v := (-1 : Int32)) hx hb dL_refused_244 (by decide) ?_
      refine lv_iconst (v := (-1 : Int32)) hx hb dL_refused_245 (by decide) ?_
      refine g_callV_i (nA := 2) (o := M_X10_up σ47 a0 (-1 : Int32) (-1 : Int32)) (As := [.int (-1 : Int32), .int (-1 : Int32)]) X.1 hG hA0 rfl rfl (fun _ _ h => C_X10_up l E h hA0) mw510 mw511 mw512 mw12 (gw_ok mw513 rfl) (by decide +kernel) rfl ⟨Nat.le_of_ble_eq_true rfl, Nat.le_of_ble_eq_true rfl⟩ hl.1 rfl (Nat.le_of_ble_eq_true rfl) ⟨Nat.le_of_ble_eq_true rfl, Nat.le_of_ble_eq_true rfl⟩ dL_refused_246 hM (fun σ49 r50 H locs hG hM => ?_)
      refine lv_iconst (v := (-1 : Int32)) hx hb dL_refused_249 (by decide) ?_
      refine lv_icmp_ne (tgt := 386) hx hb dL_refused_250 (by decide) (fun c185 => ?_) (fun c185 => ?_)
      · have hM := b_else hM c185
        cases hM
      · have hM := b_if hM c185
        refine lv_aload_n hx hb dL_refused_253 rfl (lv_at hl 0 rfl) ?_
        refine lv_iload hx hb dL_refused_254 (lv_at hl 4 rfl) ?_
        refine g_callV_i (nA := 1) (o := M_X10_down σ49 a0 x5) (As := [.int x5]) X.1 hG hA0 rfl rfl (fun _ _ h => C_X10_down l E h hA0) mw569 mw570 mw571 mw12 (gw_ok mw572 rfl) (by decide +kernel) rfl ⟨Nat.le_of_ble_eq_true rfl, Nat.le_of_ble_eq_true rfl⟩ hl.1 rfl (Nat.le_of_ble_eq_true rfl) ⟨Nat.le_of_ble_eq_true rfl, Nat.le_of_ble_eq_true rfl⟩ dL_refused_256 hM (fun σ51 r52 H locs hG hM => ?_)
        refine lv_iconst (v := (-1 : Int32)) hx hb dL_refused_259 (by decide) ?_
        refine lv_icmp_ne (tgt := 386) hx hb dL_refused_260 (by decide) (fun c184 => ?_) (fun c184 => ?_)
        · have hM := b_else hM c184
          cases hM
        · have hM := b_if hM c184
          refine lv_aload_n hx hb dL_refused_263 rfl (lv_at hl 0 rfl) ?_
          refine lv_iload hx hb dL_refused_264 (lv_at hl 3 rfl) ?_
          refine lv_iconst (v := (0 : Int32)) hx hb dL_refused_266 (by decide) ?_
          refine g_callV_i (nA := 2) (o := M_X10_lift σ51 a0 x4 (0 : Int32)) (As := [.int x4, .int (0 : Int32)]) X.1 hG hA0 rfl rfl (fun _ _ h => C_X10_lift l E h hA0) mw581 mw582 mw583 mw12 (gw_ok mw584 rfl) (by decide +kernel) rfl ⟨Nat.le_of_ble_eq_true rfl, Nat.le_of_ble_eq_true rfl⟩ hl.1 rfl (Nat.le_of_ble_eq_true rfl) ⟨Nat.le_of_ble_eq_true rfl, Nat.le_of_ble_eq_true rfl⟩ dL_refused_267 hM (fun σ53 r54 H locs hG hM => ?_)
          refine lv_iconst (v := (-1 : Int32)) hx hb dL_refused_270 (by decide) ?_
          refine lv_icmp_ne (tgt := 386) hx hb dL_refused_271 (by decide) (fun c183 => ?_) (fun c183 => ?_)
          · have hM := b_else hM c183
            cases hM
          · have hM := b_if hM c183
            refine lv_aload_n hx hb dL_refused_274 rfl (lv_at hl 0 rfl) ?_
            refine lv_iconst (v := (0 : Int32)) hx hb dL_refused_275 (by decide) ?_
            refine lv_iconst (v := (0 : Int32)) hx hb dL_refused_276 (by decide) ?_
            refine g_callV_i (nA := 2) (o := M_X10_lift σ53 a0 (0 : Int32) (0 : Int32)) (As := [.int (0 : Int32), .int (0 : Int32)]) X.1 hG hA0 rfl rfl (fun _ _ h => C_X10_lift l E h hA0) mw581 mw582 mw583 mw12 (gw_ok mw584 rfl) (by decide +kernel) rfl ⟨Nat.le_of_ble_eq_true rfl, Nat.le_of_ble_eq_true rfl⟩ hl.1 rfl (Nat.le_of_ble_eq_true rfl) ⟨Nat.le_of_ble_eq_true rfl, Nat.le_of_ble_eq_true rfl⟩ dL_refused_277 hM (fun σ55 r56 H locs hG hM => ?_)
            refine lv_bipush (v := (-2 : Int32)) hx hb dL_refused_280 (by decide) ?_
            refine lv_icmp_ne (tgt := 386) hx hb dL_refused_282 (by decide) (fun c182 => ?_) (fun c182 => ?_)
            · have hM := b_else hM c182
              cases hM
            · have hM := b_if hM c182
              refine lv_aload_n hx hb dL_refused_285 rfl (lv_at hl 0 rfl) ?_
              refine lv_iconst (v := (0 : Int32)) hx hb dL_refused_286 (by decide) ?_
              refine lv_bipush (v := (10 : Int32)) hx hb dL_refused_287 (by decide) ?_
              refine g_callV_i (nA := 2) (o := M_X10_lift σ55 a0 (0 : Int32) (10 : Int32)) (As := [.int (0 : Int32), .int (10 : Int32)]) X.1 hG hA0 rfl rfl (fun _ _ h => C_X10_lift l E h hA0) mw581 mw582 mw583 mw12 (gw_ok mw584 rfl) (by decide +kernel) rfl ⟨Nat.le_of_ble_eq_true rfl, Nat.le_of_ble_eq_true rfl⟩ hl.1 rfl (Nat.le_of_ble_eq_true rfl) ⟨Nat.le_of_ble_eq_true rfl, Nat.le_of_ble_eq_true rfl⟩ dL_refused_289 hM (fun σ57 r58 H locs hG hM => ?_)
              refine lv_bipush (v := (-2 : Int32)) hx hb dL_refused_292 (by decide) ?_
              refine lv_icmp_ne (tgt := 386) hx hb dL_refused_294 (by decide) (fun c181 => ?_) (fun c181 => ?_)
              · have hM := b_else hM c181
                cases hM
              · have hM := b_if hM c181
                refine lv_aload_n hx hb dL_refused_297 rfl (lv_at hl 0 rfl) ?_
                refine lv_iconst (v := (-1 : Int32)) hx hb dL_refused_298 (by decide) ?_
                refine g_callV_i (nA := 1) (o := M_X10_signal σ57 a0 (-1 : Int32)) (As := [.int (-1 : Int32)]) X.1 hG hA0 rfl rfl (fun _ _ h => C_X10_signal l E h hA0) mw598 mw599 mw600 mw12 (gw_ok mw601 rfl) (by decide +kernel) rfl ⟨Nat.le_of_ble_eq_true rfl, Nat.le_of_ble_eq_true rfl⟩ hl.1 rfl (Nat.le_of_ble_eq_true rfl) ⟨Nat.le_of_ble_eq_true rfl, Nat.le_of_ble_eq_true rfl⟩ dL_refused_299 hM (fun σ59 r60 H locs hG hM => ?_)
                refine lv_bipush (v := (-2 : Int32)) hx hb dL_refused_302 (by decide) ?_
                refine lv_icmp_ne (tgt := 386) hx hb dL_refused_304 (by decide) (fun c180 => ?_) (fun c180 => ?_)
                · have hM := b_else hM c180
                  cases hM
                · have hM := b_if hM c180
                  exact w_L_refused_307 X hs0 hAn hA0 σ59 x1 x3 x4 x5 x6 x7 _ _ _ z hG (lv_sub hl [0, 1, 2, 3, 4, 5, 6] rfl) hM
set_option maxRecDepth 20000 in
set_option maxHeartbeats 4000000 in
theorem w_L_refused_132 {p : Program} {l : Launch} {e : Env} {s : State} {m : MethodId} {below : List Frame} {meth : Method} {c : Code} {args : Array Value} {E : Ev} {s0 : State} {a0 : Nat} (X : Bx E p m meth c cL_refused 9 (some .boolean) s args RL) (hs0 : Dr s0 s) (hAn : ∀ q, s.heap.size ≤ q → AE E q) (hA0 : lay 10 a0) : ∀ (σ : St) (x1 : Int64) (x3 : Int32) (x4 : Int32) (x5 : Int32) (x6 : Int32) (x7 : Int32) (H : Heap) (locs : List Loc) (ls : Array Slot) (z : St × Int32), GS E σ s.heap H locs → lv_has ls 9 [(0, .ref (E.1 a0)), (1, .long x1), (3, .int x3), (4, .int x4), (5, .int x5), (6, .int x6), (7, .int x7)] → B_L_refused_132 σ a0 x1 x3 x4 x5 x6 x7 = some z → W p l e (rmA 9 1 2) s m args below meth c H locs 0 0 (QZD E z below args s0 1 2) (F0 m 132 ls []) := by
  have hx := X.1.1.1
  have hb := X.1.1.2.1
  intro σ x1 x3 x4 x5 x6 x7 H locs ls z  hG hl hM
  unfold B_L_refused_132 at hM
  refine lv_aload_n hx hb dL_refused_132 rfl (lv_at hl 0 rfl) ?_
  refine lv_iconst (v := (0 : Int32)) hx hb dL_refused_133 (by decide) ?_
  refine lv_iconst (v := (3 : Int32)) hx hb dL_refused_134 (by decide) ?_
  refine lv_iconst (v := (1 : Int32)) hx hb dL_refused_135 (by decide) ?_
  refine g_callV_i (nA := 3) (o := M_X10_build σ a0 (0 : Int32) (3 : Int32) (1 : Int32)) (As := [.int (0 : Int32), .int (3 : Int32), .int (1 : Int32)]) X.1 hG hA0 rfl rfl (fun _ _ h => C_X10_build l E h hA0) mw456 mw457 mw458 mw12 (gw_ok mw459 rfl) (by decide +kernel) rfl ⟨Nat.le_of_ble_eq_true rfl, Nat.le_of_ble_eq_true rfl⟩ hl.1 rfl (Nat.le_of_ble_eq_true rfl) ⟨Nat.le_of_ble_eq_true rfl, Nat.le_of_ble_eq_true rfl⟩ dL_refused_136 hM (fun σ29 r30 H locs hG hM => ?_)
  refine lv_bipush (v := (-2 : Int32)) hx hb dL_refused_139 (by decide) ?_
  refine lv_icmp_ne (tgt := 386) hx hb dL_refused_141 (by decide) (fun c195 => ?_) (fun c195 => ?_)
  · have hM := b_else hM c195
    cases hM
  · have hM := b_if hM c195
    refine lv_aload_n hx hb dL_refused_144 rfl (lv_at hl 0 rfl) ?_
    refine lv_iconst (v := (0 : Int32)) hx hb dL_refused_145 (by decide) ?_
    refine lv_bipush (v := (9 : Int32)) hx hb dL_refused_146 (by decide) ?_
    refine lv_iconst (v := (1 : Int32)) hx hb dL_refused_148 (by decide) ?_
    refine g_callV_i (nA := 3) (o := M_X10_build σ29 a0 (0 : Int32) (9 : Int32) (1 : Int32)) (As := [.int (0 : Int32), .int (9 : Int32), .int (1 : Int32)]) X.1 hG hA0 rfl rfl (fun _ _ h => C_X10_build l E h hA0) mw456 mw457 mw458 mw12 (gw_ok mw459 rfl) (by decide +kernel) rfl ⟨Nat.le_of_ble_eq_true rfl, Nat.le_of_ble_eq_true rfl⟩ hl.1 rfl (Nat.le_of_ble_eq_true rfl) ⟨Nat.le_of_ble_eq_true rfl, Nat.le_of_ble_eq_true rfl⟩ dL_refused_149 hM (fun σ31 r32 H locs hG hM => ?_)
    refine lv_bipush (v := (-2 : Int32)) hx hb dL_refused_152 (by decide) ?_
    refine lv_icmp_ne (tgt := 386) hx hb dL_refused_154 (by decide) (fun c194 => ?_) (fun c194 => ?_)
    · have hM := b_else hM c194
      cases hM
    · have hM := b_if hM c194
      refine lv_aload_n hx hb dL_refused_157 rfl (lv_at hl 0 rfl) ?_
      refine lv_iconst (v := (0 : Int32)) hx hb dL_refused_158 (by decide) ?_
      refine lv_iconst (v := (4 : Int32)) hx hb dL_refused_159 (by decide) ?_
      refine lv_iconst (v := (-1 : Int32)) hx hb dL_refused_160 (by decide) ?_
      refine g_callV_i (nA := 3) (o := M_X10_build σ31 a0 (0 : Int32) (4 : Int32) (-1 : Int32)) (As := [.int (0 : Int32), .int (4 : Int32), .int (-1 : Int32)]) X.1 hG hA0 rfl rfl (fun _ _ h => C_X10_build l E h hA0) mw456 mw457 mw458 mw12 (gw_ok mw459 rfl) (by decide +kernel) rfl ⟨Nat.le_of_ble_eq_true rfl, Nat.le_of_ble_eq_true rfl⟩ hl.1 rfl (Nat.le_of_ble_eq_true rfl) ⟨Nat.le_of_ble_eq_true rfl, Nat.le_of_ble_eq_true rfl⟩ dL_refused_161 hM (fun σ33 r34 H locs hG hM => ?_)
      refine lv_bipush (v := (-2 : Int32)) hx hb dL_refused_164 (by decide) ?_
      refine lv_icmp_ne (tgt := 386) hx hb dL_refused_166 (by decide) (fun c193 => ?_) (fun c193 => ?_)
      · have hM := b_else hM c193
        cases hM
      · have hM := b_if hM c193
        refine lv_aload_n hx hb dL_refused_169 rfl (lv_at hl 0 rfl) ?_
        refine lv_iconst (v := (0 : Int32)) hx hb dL_refused_170 (by decide) ?_
        refine lv_iconst (v := (4 : Int32)) hx hb dL_refused_171 (by decide) ?_
        refine lv_bipush (v := (41 : Int32)) hx hb dL_refused_172 (by decide) ?_
        refine g_callV_i (nA := 3) (o := M_X10_build σ33 a0 (0 : Int32) (4 : Int32) (41 : Int32)) (As := [.int (0 : Int32), .int (4 : Int32), .int (41 : Int32)]) X.1 hG hA0 rfl rfl (fun _ _ h => C_X10_build l E h hA0) mw456 mw457 mw458 mw12 (gw_ok mw459 rfl) (by decide +kernel) rfl ⟨Nat.le_of_ble_eq_true rfl, Nat.le_of_ble_eq_true rfl⟩ hl.1 rfl (Nat.le_of_ble_eq_true rfl) ⟨Nat.le_of_ble_eq_true rfl, Nat.le_of_ble_eq_true rfl⟩ dL_refused_174 hM (fun σ35 r36 H locs hG hM => ?_)
        refine lv_bipush (v := (-2 : Int32)) hx hb dL_refused_177 (by decide) ?_
        refine lv_icmp_ne (tgt := 386) hx hb dL_refused_179 (by decide) (fun c192 => ?_) (fun c192 => ?_)
        · have hM := b_else hM c192
          cases hM
        · have hM := b_if hM c192
          refine lv_aload_n hx hb dL_refused_182 rfl (lv_at hl 0 rfl) ?_
          refine lv_iload hx hb dL_refused_183 (lv_at hl 3 rfl) ?_
          refine g_callV_i (nA := 1) (o := M_X10_tie σ35 a0 x4) (As := [.int x4]) X.1 hG hA0 rfl rfl (fun _ _ h => C_X10_tie l E h hA0) mw1115 mw1116 mw1117 mw12 (gw_ok mw1118 rfl) (by decide +kernel) rfl ⟨Nat.le_of_ble_eq_true rfl, Nat.le_of_ble_eq_true rfl⟩ hl.1 rfl (Nat.le_of_ble_eq_true rfl) ⟨Nat.le_of_ble_eq_true rfl, Nat.le_of_ble_eq_true rfl⟩ dL_refused_185 hM (fun σ37 r38 H locs hG hM => ?_)
          refine lv_iconst (v := (-1 : Int32)) hx hb dL_refused_188 (by decide) ?_
          refine lv_icmp_ne (tgt := 386) hx hb dL_refused_189 (by decide) (fun c191 => ?_) (fun c191 => ?_)
          · have hM := b_else hM c191
            cases hM
          · have hM := b_if hM c191
            refine lv_aload_n hx hb dL_refused_192 rfl (lv_at hl 0 rfl) ?_
            refine lv_iconst (v := (-1 : Int32)) hx hb dL_refused_193 (by decide) ?_
            refine g_callV_i (nA := 1) (o := M_X10_tie σ37 a0 (-1 : Int32)) (As := [.int (-1 : Int32)]) X.1 hG hA0 rfl rfl (fun _ _ h => C_X10_tie l E h hA0) mw1115 mw1116 mw1117 mw12 (gw_ok mw1118 rfl) (by decide +kernel) rfl ⟨Nat.le_of_ble_eq_true rfl, Nat.le_of_ble_eq_true rfl⟩ hl.1 rfl (Nat.le_of_ble_eq_true rfl) ⟨Nat.le_of_ble_eq_true rfl, Nat.le_of_ble_eq_true rfl⟩ dL_refused_194 hM (fun σ39 r40 H locs hG hM => ?_)
            refine lv_iconst (v := (-1 : Int32)) hx hb dL_refused_197 (by decide) ?_
            refine lv_icmp_ne (tgt := 386) hx hb dL_refused_198 (by decide) (fun c190 => ?_) (fun c190 => ?_)
            · have hM := b_else hM c190
              cases hM
            · have hM := b_if hM c190
              refine lv_aload_n hx hb dL_refused_201 rfl (lv_at hl 0 rfl) ?_
              refine lv_iconst (v := (0 : Int32)) hx hb dL_refused_202 (by decide) ?_
              refine g_callV_i (nA := 1) (o := M_X10_crew σ39 a0 (0 : Int32)) (As := [.int (0 : Int32)]) X.1 hG hA0 rfl rfl (fun _ _ h => C_X10_crew l E h hA0) mw497 mw498 mw499 mw12 (gw_ok mw500 rfl) (by decide +kernel) rfl ⟨Nat.le_of_ble_eq_true rfl, Nat.le_of_ble_eq_true rfl⟩ hl.1 rfl (Nat.le_of_ble_eq_true rfl) ⟨Nat.le_of_ble_eq_true rfl, Nat.le_of_ble_eq_true rfl⟩ dL_refused_203 hM (fun σ41 r42 H locs hG hM => ?_)
              refine lv_bipush (v := (-2 : Int32)) hx hb dL_refused_206 (by decide) ?_
              refine lv_icmp_ne (tgt := 386) hx hb dL_refused_208 (by decide) (fun c189 => ?_) (fun c189 => ?_)
              · have hM := b_else hM c189
                cases hM
              · have hM := b_if hM c189
                refine lv_aload_n hx hb dL_refused_211 rfl (lv_at hl 0 rfl) ?_
                refine lv_iconst (v := (5 : Int32)) hx hb dL_refused_212 (by decide) ?_
                refine g_callV_i (nA := 1) (o := M_X10_crew σ41 a0 (5 : Int32)) (As := [.int (5 : Int32)]) X.1 hG hA0 rfl rfl (fun _ _ h => C_X10_crew l E h hA0) mw497 mw498 mw499 mw12 (gw_ok mw500 rfl) (by decide +kernel) rfl ⟨Nat.le_of_ble_eq_true rfl, Nat.le_of_ble_eq_true rfl⟩ hl.1 rfl (Nat.le_of_ble_eq_true rfl) ⟨Nat.le_of_ble_eq_true rfl, Nat.le_of_ble_eq_true rfl⟩ dL_refused_213 hM (fun σ43 r44 H locs hG hM => ?_)
                refine lv_bipush (v := (-2 : Int32)) hx hb dL_refused_216 (by decide) ?_
                refine lv_icmp_ne (tgt := 386) hx hb dL_refused_218 (by decide) (fun c188 => ?_) (fun c188 => ?_)
                · have hM := b_else hM c188
                  cases hM
                · have hM := b_if hM c188
                  exact w_L_refused_221 X hs0 hAn hA0 σ43 x1 x3 x4 x5 x6 x7 _ _ _ z hG (lv_sub hl [0, 1, 2, 3, 4, 5, 6] rfl) hM
set_option maxRecDepth 20000 in
set_option maxHeartbeats 4000000 in
theorem C_L_refused (l : Launch) (E : Ev) {σ σ' : St} {a0 : Nat} {r : Int32} (h : M_L_refused σ a0 = some (σ', r)) (hA0 : lay 10 a0) : MzD l E yL_refused cL_refused 9 9 1 2 [.ref (E.1 a0)] σ σ' r := by
  refine MzD_of (C := RL) rfl (by decide) (Nat.le_of_ble_eq_true rfl) (z := (σ', r)) (fun p e s0 s m below meth c ls X hs0 hAn hG hl => ?_)
  have hx := X.1.1.1
  have hb := X.1.1.2.1
  have hM := h
  unfold M_L_refused at hM
  generalize (σ', r) = z at hM ⊢
  have hl : lv_has ls 9 [(0, .ref (E.1 a0))] := hl
  refine lv_aload_n hx hb dL_refused_0 rfl (lv_at hl 0 rfl) ?_
  refine g_callAsk X hs0 hAn hG hA0 mw1054 ⟨Nat.le_of_ble_eq_true rfl, Nat.le_of_ble_eq_true rfl⟩ hl.1 (Nat.le_of_ble_eq_true rfl) ⟨Nat.le_of_ble_eq_true rfl, Nat.le_of_ble_eq_true rfl⟩ dL_refused_1 hM (fun σ1 r2 s H locs X hs0 hAn hG hM => ?_)
  have hx := X.1.1.1
  have hb := X.1.1.2.1
  refine lv_lstore_n (lv' := [(1, .long r2), (0, .ref (E.1 a0))]) hx hb dL_refused_4 rfl hl (by decide) rfl (fun ls hl => ?_)
  refine lv_aload_n hx hb dL_refused_5 rfl (lv_at hl 1 rfl) ?_
  refine lv_iconst (v := (2 : Int32)) hx hb dL_refused_6 (by decide) ?_
  refine g_callV_i (nA := 1) (o := M_X10_account σ1 a0 (2 : Int32)) (As := [.int (2 : Int32)]) X.1 hG hA0 rfl rfl (fun _ _ h => C_X10_account l E h hA0) mw959 mw960 mw961 mw12 (gw_ok mw962 rfl) (by decide +kernel) rfl ⟨Nat.le_of_ble_eq_true rfl, Nat.le_of_ble_eq_true rfl⟩ hl.1 rfl (Nat.le_of_ble_eq_true rfl) ⟨Nat.le_of_ble_eq_true rfl, Nat.le_of_ble_eq_true rfl⟩ dL_refused_7 hM (fun σ3 r4 H locs hG hM => ?_)
  refine lv_istore_n (lv' := [(3, .int r4), (1, .long r2), (0, .ref (E.1 a0))]) hx hb dL_refused_10 rfl hl (by decide) rfl (fun ls hl => ?_)
  refine lv_aload_n hx hb dL_refused_11 rfl (lv_at hl 2 rfl) ?_
  refine lv_iconst (v := (4 : Int32)) hx hb dL_refused_12 (by decide) ?_
  refine g_callV_i (nA := 1) (o := M_X10_account σ3 a0 (4 : Int32)) (As := [.int (4 : Int32)]) X.1 hG hA0 rfl rfl (fun _ _ h => C_X10_account l E h hA0) mw959 mw960 mw961 mw12 (gw_ok mw962 rfl) (by decide +kernel) rfl ⟨Nat.le_of_ble_eq_true rfl, Nat.le_of_ble_eq_true rfl⟩ hl.1 rfl (Nat.le_of_ble_eq_true rfl) ⟨Nat.le_of_ble_eq_true rfl, Nat.le_of_ble_eq_true rfl⟩ dL_refused_13 hM (fun σ5 r6 H locs hG hM => ?_)
  refine lv_istore (lv' := [(4, .int r6), (3, .int r4), (1, .long r2), (0, .ref (E.1 a0))]) hx hb dL_refused_16 hl (by decide) rfl (fun ls hl => ?_)
  refine lv_aload_n hx hb dL_refused_18 rfl (lv_at hl 3 rfl) ?_
  refine lv_bipush (v := (7 : Int32)) hx hb dL_refused_19 (by decide) ?_
  refine g_callV_i (nA := 1) (o := M_X10_account σ5 a0 (7 : Int32)) (As := [.int (7 : Int32)]) X.1 hG hA0 rfl rfl (fun _ _ h => C_X10_account l E h hA0) mw959 mw960 mw961 mw12 (gw_ok mw962 rfl) (by decide +kernel) rfl ⟨Nat.le_of_ble_eq_true rfl, Nat.le_of_ble_eq_true rfl⟩ hl.1 rfl (Nat.le_of_ble_eq_true rfl) ⟨Nat.le_of_ble_eq_true rfl, Nat.le_of_ble_eq_true rfl⟩ dL_refused_21 hM (fun σ7 r8 H locs hG hM => ?_)
  refine lv_istore (lv' := [(5, .int r8), (4, .int r6), (3, .int r4), (1, .long r2), (0, .ref (E.1 a0))]) hx hb dL_refused_24 hl (by decide) rfl (fun ls hl => ?_)
  refine lv_aload_n hx hb dL_refused_26 rfl (lv_at hl 4 rfl) ?_
  refine lv_bipush (v := (12 : Int32)) hx hb dL_refused_27 (by decide) ?_
  refine g_callV_i (nA := 1) (o := M_X10_account σ7 a0 (12 : Int32)) (As := [.int (12 : Int32)]) X.1 hG hA0 rfl rfl (fun _ _ h => C_X10_account l E h hA0) mw959 mw960 mw961 mw12 (gw_ok mw962 rfl) (by decide +kernel) rfl ⟨Nat.le_of_ble_eq_true rfl, Nat.le_of_ble_eq_true rfl⟩ hl.1 rfl (Nat.le_of_ble_eq_true rfl) ⟨Nat.le_of_ble_eq_true rfl, Nat.le_of_ble_eq_true rfl⟩ dL_refused_29 hM (fun σ9 r10 H locs hG hM => ?_)
  refine lv_istore (lv' := [(6, .int r10), (5, .int r8), (4, .int r6), (3, .int r4), (1, .long r2), (0, .ref (E.1 a0))]) hx hb dL_refused_32 hl (by decide) rfl (fun ls hl => ?_)
  refine lv_aload_n hx hb dL_refused_34 rfl (lv_at hl 5 rfl) ?_
  refine lv_iconst (v := (0 : Int32)) hx hb dL_refused_35 (by decide) ?_
  refine lv_iconst (v := (0 : Int32)) hx hb dL_refused_36 (by decide) ?_
  refine g_callV_i (nA := 2) (o := M_X10_reason σ9 a0 (0 : Int32) (0 : Int32)) (As := [.int (0 : Int32), .int (0 : Int32)]) X.1 hG hA0 rfl rfl (fun _ _ h => C_X10_reason l E h hA0) mw1015 mw1016 mw1017 mw12 (gw_ok mw1018 rfl) (by decide +kernel) rfl ⟨Nat.le_of_ble_eq_true rfl, Nat.le_of_ble_eq_true rfl⟩ hl.1 rfl (Nat.le_of_ble_eq_true rfl) ⟨Nat.le_of_ble_eq_true rfl, Nat.le_of_ble_eq_true rfl⟩ dL_refused_37 hM (fun σ11 r12 H locs hG hM => ?_)
  refine lv_istore (lv' := [(7, .int r12), (6, .int r10), (5, .int r8), (4, .int r6), (3, .int r4), (1, .long r2), (0, .ref (E.1 a0))]) hx hb dL_refused_40 hl (by decide) rfl (fun ls hl => ?_)
  refine lv_aload_n hx hb dL_refused_42 rfl (lv_at hl 6 rfl) ?_
  refine lv_iconst (v := (0 : Int32)) hx hb dL_refused_43 (by decide) ?_
  refine lv_iconst (v := (0 : Int32)) hx hb dL_refused_44 (by decide) ?_
  refine g_callV_i (nA := 2) (o := M_X10_bundle σ11 a0 (0 : Int32) (0 : Int32)) (As := [.int (0 : Int32), .int (0 : Int32)]) X.1 hG hA0 rfl rfl (fun _ _ h => C_X10_bundle l E h hA0) mw375 mw376 mw377 mw12 (gw_ok mw378 rfl) (by decide +kernel) rfl ⟨Nat.le_of_ble_eq_true rfl, Nat.le_of_ble_eq_true rfl⟩ hl.1 rfl (Nat.le_of_ble_eq_true rfl) ⟨Nat.le_of_ble_eq_true rfl, Nat.le_of_ble_eq_true rfl⟩ dL_refused_45 hM (fun σ13 r14 H locs hG hM => ?_)
  refine lv_bipush (v := (-2 : Int32)) hx hb dL_refused_48 (by decide) ?_
  refine lv_icmp_ne (tgt := 386) hx hb dL_refused_50 (by decide) (fun c203 => ?_) (fun c203 => ?_)
  · have hM := b_else hM c203
    cases hM
  · have hM := b_if hM c203
    refine lv_aload_n hx hb dL_refused_53 rfl (lv_at hl 6 rfl) ?_
    refine lv_bipush (v := (31 : Int32)) hx hb dL_refused_54 (by decide) ?_
    refine lv_iconst (v := (0 : Int32)) hx hb dL_refused_56 (by decide) ?_
    refine g_callV_i (nA := 2) (o := M_X10_bundle σ13 a0 (31 : Int32) (0 : Int32)) (As := [.int (31 : Int32), .int (0 : Int32)]) X.1 hG hA0 rfl rfl (fun _ _ h => C_X10_bundle l E h hA0) mw375 mw376 mw377 mw12 (gw_ok mw378 rfl) (by decide +kernel) rfl ⟨Nat.le_of_ble_eq_true rfl, Nat.le_of_ble_eq_true rfl⟩ hl.1 rfl (Nat.le_of_ble_eq_true rfl) ⟨Nat.le_of_ble_eq_true rfl, Nat.le_of_ble_eq_true rfl⟩ dL_refused_57 hM (fun σ15 r16 H locs hG hM => ?_)
    refine lv_bipush (v := (-2 : Int32)) hx hb dL_refused_60 (by decide) ?_
    refine lv_icmp_ne (tgt := 386) hx hb dL_refused_62 (by decide) (fun c202 => ?_) (fun c202 => ?_)
    · have hM := b_else hM c202
      cases hM
    · have hM := b_if hM c202
      refine lv_aload_n hx hb dL_refused_65 rfl (lv_at hl 6 rfl) ?_
      refine lv_iconst (v := (1 : Int32)) hx hb dL_refused_66 (by decide) ?_
      refine lv_iconst (v := (-1 : Int32)) hx hb dL_refused_67 (by decide) ?_
      refine g_callV_i (nA := 2) (o := M_X10_bundle σ15 a0 (1 : Int32) (-1 : Int32)) (As := [.int (1 : Int32), .int (-1 : Int32)]) X.1 hG hA0 rfl rfl (fun _ _ h => C_X10_bundle l E h hA0) mw375 mw376 mw377 mw12 (gw_ok mw378 rfl) (by decide +kernel) rfl ⟨Nat.le_of_ble_eq_true rfl, Nat.le_of_ble_eq_true rfl⟩ hl.1 rfl (Nat.le_of_ble_eq_true rfl) ⟨Nat.le_of_ble_eq_true rfl, Nat.le_of_ble_eq_true rfl⟩ dL_refused_68 hM (fun σ17 r18 H locs hG hM => ?_)
      refine lv_bipush (v := (-2 : Int32)) hx hb dL_refused_71 (by decide) ?_
      refine lv_icmp_ne (tgt := 386) hx hb dL_refused_73 (by decide) (fun c201 => ?_) (fun c201 => ?_)
      · have hM := b_else hM c201
        cases hM
      · have hM := b_if hM c201
        refine lv_aload_n hx hb dL_refused_76 rfl (lv_at hl 6 rfl) ?_
        refine lv_iconst (v := (1 : Int32)) hx hb dL_refused_77 (by decide) ?_
        refine lv_bipush (v := (61 : Int32)) hx hb dL_refused_78 (by decide) ?_
        refine g_callV_i (nA := 2) (o := M_X10_bundle σ17 a0 (1 : Int32) (61 : Int32)) (As := [.int (1 : Int32), .int (61 : Int32)]) X.1 hG hA0 rfl rfl (fun _ _ h => C_X10_bundle l E h hA0) mw375 mw376 mw377 mw12 (gw_ok mw378 rfl) (by decide +kernel) rfl ⟨Nat.le_of_ble_eq_true rfl, Nat.le_of_ble_eq_true rfl⟩ hl.1 rfl (Nat.le_of_ble_eq_true rfl) ⟨Nat.le_of_ble_eq_true rfl, Nat.le_of_ble_eq_true rfl⟩ dL_refused_80 hM (fun σ19 r20 H locs hG hM => ?_)
        refine lv_bipush (v := (-2 : Int32)) hx hb dL_refused_83 (by decide) ?_
        refine lv_icmp_ne (tgt := 386) hx hb dL_refused_85 (by decide) (fun c200 => ?_) (fun c200 => ?_)
        · have hM := b_else hM c200
          cases hM
        · have hM := b_if hM c200
          refine lv_aload_n hx hb dL_refused_88 rfl (lv_at hl 6 rfl) ?_
          refine lv_iconst (v := (0 : Int32)) hx hb dL_refused_89 (by decide) ?_
          refine g_callV_i (nA := 1) (o := M_X10_strips σ19 a0 (0 : Int32)) (As := [.int (0 : Int32)]) X.1 hG hA0 rfl rfl (fun _ _ h => C_X10_strips l E h hA0) mw447 mw448 mw449 mw12 (gw_ok mw450 rfl) (by decide +kernel) rfl ⟨Nat.le_of_ble_eq_true rfl, Nat.le_of_ble_eq_true rfl⟩ hl.1 rfl (Nat.le_of_ble_eq_true rfl) ⟨Nat.le_of_ble_eq_true rfl, Nat.le_of_ble_eq_true rfl⟩ dL_refused_90 hM (fun σ21 r22 H locs hG hM => ?_)
          refine lv_bipush (v := (-2 : Int32)) hx hb dL_refused_93 (by decide) ?_
          refine lv_icmp_ne (tgt := 386) hx hb dL_refused_95 (by decide) (fun c199 => ?_) (fun c199 => ?_)
          · have hM := b_else hM c199
            cases hM
          · have hM := b_if hM c199
            refine lv_aload_n hx hb dL_refused_98 rfl (lv_at hl 6 rfl) ?_
            refine lv_bipush (v := (100 : Int32)) hx hb dL_refused_99 (by decide) ?_
            refine g_callV_i (nA := 1) (o := M_X10_strips σ21 a0 (100 : Int32)) (As := [.int (100 : Int32)]) X.1 hG hA0 rfl rfl (fun _ _ h => C_X10_strips l E h hA0) mw447 mw448 mw449 mw12 (gw_ok mw450 rfl) (by decide +kernel) rfl ⟨Nat.le_of_ble_eq_true rfl, Nat.le_of_ble_eq_true rfl⟩ hl.1 rfl (Nat.le_of_ble_eq_true rfl) ⟨Nat.le_of_ble_eq_true rfl, Nat.le_of_ble_eq_true rfl⟩ dL_refused_101 hM (fun σ23 r24 H locs hG hM => ?_)
            refine lv_bipush (v := (-2 : Int32)) hx hb dL_refused_104 (by decide) ?_
            refine lv_icmp_ne (tgt := 386) hx hb dL_refused_106 (by decide) (fun c198 => ?_) (fun c198 => ?_)
            · have hM := b_else hM c198
              cases hM
            · have hM := b_if hM c198
              refine lv_aload_n hx hb dL_refused_109 rfl (lv_at hl 6 rfl) ?_
              refine lv_iload_n hx hb dL_refused_110 rfl (lv_at hl 4 rfl) ?_
              refine lv_iconst (v := (0 : Int32)) hx hb dL_refused_111 (by decide) ?_
              refine lv_bipush (v := (99 : Int32)) hx hb dL_refused_112 (by decide) ?_
              refine g_callV_i (nA := 3) (o := M_X10_build σ23 a0 r4 (0 : Int32) (99 : Int32)) (As := [.int r4, .int (0 : Int32), .int (99 : Int32)]) X.1 hG hA0 rfl rfl (fun _ _ h => C_X10_build l E h hA0) mw456 mw457 mw458 mw12 (gw_ok mw459 rfl) (by decide +kernel) rfl ⟨Nat.le_of_ble_eq_true rfl, Nat.le_of_ble_eq_true rfl⟩ hl.1 rfl (Nat.le_of_ble_eq_true rfl) ⟨Nat.le_of_ble_eq_true rfl, Nat.le_of_ble_eq_true rfl⟩ dL_refused_114 hM (fun σ25 r26 H locs hG hM => ?_)
              refine lv_iconst (v := (-1 : Int32)) hx hb dL_refused_117 (by decide) ?_
              refine lv_icmp_ne (tgt := 386) hx hb dL_refused_118 (by decide) (fun c197 => ?_) (fun c197 => ?_)
              · have hM := b_else hM c197
                cases hM
              · have hM := b_if hM c197
                refine lv_aload_n hx hb dL_refused_121 rfl (lv_at hl 6 rfl) ?_
                refine lv_iconst (v := (-1 : Int32)) hx hb dL_refused_122 (by decide) ?_
                refine lv_iconst (v := (4 : Int32)) hx hb dL_refused_123 (by decide) ?_
                refine lv_iconst (v := (1 : Int32)) hx hb dL_refused_124 (by decide) ?_
                refine g_callV_i (nA := 3) (o := M_X10_build σ25 a0 (-1 : Int32) (4 : Int32) (1 : Int32)) (As := [.int (-1 : Int32), .int (4 : Int32), .int (1 : Int32)]) X.1 hG hA0 rfl rfl (fun _ _ h => C_X10_build l E h hA0) mw456 mw457 mw458 mw12 (gw_ok mw459 rfl) (by decide +kernel) rfl ⟨Nat.le_of_ble_eq_true rfl, Nat.le_of_ble_eq_true rfl⟩ hl.1 rfl (Nat.le_of_ble_eq_true rfl) ⟨Nat.le_of_ble_eq_true rfl, Nat.le_of_ble_eq_true rfl⟩ dL_refused_125 hM (fun σ27 r28 H locs hG hM => ?_)
                refine lv_iconst (v := (-1 : Int32)) hx hb dL_refused_128 (by decide) ?_
                refine lv_icmp_ne (tgt := 386) hx hb dL_refused_129 (by decide) (fun c196 => ?_) (fun c196 => ?_)
                · have hM := b_else hM c196
                  cases hM
                · have hM := b_if hM c196
                  exact w_L_refused_132 X hs0 hAn hA0 σ27 r2 r4 r6 r8 r10 r12 _ _ _ z hG (lv_sub hl [6, 5, 4, 3, 2, 1, 0] rfl) hM
