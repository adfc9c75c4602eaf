
section GLZ
variable {p : Program} {l : Launch} {e : Env} {R : Room} {s s0 : State} {ret : Option FieldType} {m : MethodId} {args : Array Value} {below : List Frame} {meth : Method} {c : Code} {H H0 : Heap} {locs : List Loc} {cells slots : Nat} {Q : State → Prop} {cc : ByteArray} {pc : Nat} {ls : Array Slot} {rest : List Value} {nL : Nat} {own : String} {E : Ev} {σ : St} {L : List (Nat × va_E)}
theorem b_ca {α β : Type} {o : Option (St × β)} {K : St → β → Option α} {z : α} (hM : bcall o K = some z) : ∃ σ1 r, o = some (σ1, r) ∧ K σ1 r = some z := by
  cases o with
  | none => cases hM
  | some q => exact ⟨q.1, q.2, rfl, hM⟩
/-- a method of the object, the row of answers beside it -/
theorem x_cutV (X : Cx E p m c cc nL s args own) (hG : XR E σ L s.heap H locs) {ci k : Nat} (hL : lay ci k) {C : String} {T : u_T} {N : Nat} (hc : vwCl[ci]? = some (C, T, N)) {y : MethodName} {bytes : ByteArray} {maxL d index nA : Nat} {ret : Option FieldType} {σ1 : St} {r : Int32} {As : List Value} (hyC : y.cls = C) (hC : Mi l (eN E L) y bytes maxL ret d (.ref (E.1 k) :: As) σ σ1 r) (w1 : Cond.methodLink own index y ∈ lw_tbl) (w2 : Cond.instanceMethod y ∈ lw_tbl) (w3 : Cond.selects C y y ∈ lw_tbl) (w4 : Cond.initialized C ∈ lw_tbl) (hg : GoodIn (lw_tbl.filter goodWord) (wsM y bytes maxL ret)) (hd : y.cls ≠ "java/lang/invoke/MethodHandle" ∧ y.cls ≠ "java/lang/invoke/VarHandle" ∧ (parseMethodDescriptor y.desc).map (fun d => d.parameters.length) = some nA) (hn : As.length = nA) (hR : d + 1 ≤ R.frames ∧ 8 + (maxL + 11) + 40 * d ≤ R.locals) (hls : ls.size = nL) {st : List Value} (hst : st = As.reverse ++ .ref (E.1 k) :: rest) (hW : (rest.map fun v => v.category).sum ≤ 8) (hcs : cells + 0 ≤ R.cells ∧ slots + 0 ≤ R.slots) (hdg : decode cc pc = .ok (.invokevirtual index, 3))
    (kk : ∀ (H1 : Heap) (locs1 : List Loc), XR E σ1 L s.heap H1 locs1 → W p l e R s m args below meth c H1 locs1 cells slots Q (F0 m (pc + 3) ls (.int r :: rest))) : W p l e R s m args below meth c H locs cells slots Q (F0 m pc ls st) := by
  obtain ⟨⟨hx, hb, hml, hown, hts⟩, hK, hNW, hXW⟩ := X
  refine va_calli (va_runV ⟨hx, hb, hml, hown, hts⟩ hC (cwV nA hts (gw_v w1 w2 w3 w4 hg) rfl rfl rfl ⟨hyC, hd⟩ hR) ⟨GB_blind, GB_recv hK hG.gs hL hc, XC_pre hK hNW hXW hG _⟩ rfl hn hls hst (lv_room hW) hdg hcs) hG.2.2 (fun q _ h => h.1) (fun q h => h.1) (fun r1 u t H1 locs1 ht hvm hw hB hz1 hk1 hS1 => ?_)
  obtain ⟨rfl, rfl⟩ := hw
  have h9 := hG.join (M := []) ht (by rw [List.append_nil]; exact hB.1) (by rw [List.append_nil]; exact hB.2.2.1) hk1 hS1
  rw [List.append_nil] at h9
  exact kk H1 locs1 h9
theorem x_cutA (X : Bx E p m meth c cc nL ret s args own) (hs0 : Dr s0 s) (hG : XR E σ L s.heap H locs) {k index : Nat} {σ1 : St} {r : Int64} (ho : M_L_asks σ k = some (σ1, r)) (hL : lay 10 k) (w1 : Cond.methodLink own index yL_asks ∈ lw_tbl) (hR : 7 + 1 ≤ R.frames ∧ 8 + (5 + 11) + 40 * 7 ≤ R.locals) (hls : ls.size = nL) (hW : (rest.map fun v => v.category).sum ≤ 8) (hcs : cells + 0 ≤ R.cells ∧ slots + 0 ≤ R.slots) (hdg : decode cc pc = .ok (.invokestatic index, 3))
    (kk : ∀ (s1 : State) (H1 : Heap) (locs1 : List Loc), Bx E p m meth c cc nL ret s1 args own → Dr s0 s1 → XR E σ1 L s1.heap H1 locs1 → W p l e R s1 m args below meth c H1 locs1 cells slots Q (F0 m (pc + 3) ls (.long r :: rest))) : W p l e R s m args below meth c H locs cells slots Q (F0 m pc ls (.ref (E.1 k) :: rest)) := by
  obtain ⟨d, rfl, hd⟩ := hs0
  have X0 := X
  obtain ⟨⟨⟨hx, hb, hml, hown, hts⟩, hK, hNW, hXW⟩, hrt, hlk⟩ := X
  have hC := C_L_asks l (eN E L) ho hL
  refine va_calllD hd (va_runS_D (As := [.ref (E.1 k)]) (rest := rest) ⟨hx, hb, hml, hown, hts⟩ hC ⟨callB_of 1 hts (gw_ok mw1056 rfl) rfl rfl rfl (hts _ (gw_in mw11 rfl)) (hts _ (gw_in w1 rfl)) (by decide +kernel) hR, hts _ (gw_in mw1055 rfl)⟩ ⟨GB_blind, XC_pre hK hNW hXW hG _⟩ rfl rfl hls rfl (lv_room hW) hdg hcs) hG.2.2 (fun z _ h => h.1) (fun z h => h.1) (fun v u t H1 locs1 ht hvm hw hB hz1 hk1 hS1 d1 hd1 => ?_)
  obtain ⟨rfl, rfl⟩ := hw
  have h9 := hG.join (M := []) ht (by rw [List.append_nil]; exact hB.1) (by rw [List.append_nil]; exact hB.2.2.1) hk1 hS1
  rw [List.append_nil] at h9
  exact kk (s0.setDrawn d1) H1 locs1 ⟨(show Cx E p m c cc nL ((s0.setDrawn d).setDrawn d1) args own from cx_drawn d1 X0.1), hrt, hlk⟩ ⟨d1, rfl, hd1⟩ h9
theorem x_cutM (X : Cx E p m c cc nL s args own) (hT0 : eT E = 0) (hAn : ∀ q, s.heap.size ≤ q → AE E q) (hPV : PV s) (hG : XR E σ L s.heap H locs) {k index : Nat} {x : Int32} {σ1 : St} {r : Int32} (ho : M_L_changes σ k x = some (σ1, r)) (hL : lay 10 k) (w1 : Cond.methodLink own index yL_changes ∈ lw_tbl) (hR : 9 + 1 ≤ R.frames ∧ 8 + (4 + 11) + 40 * 9 ≤ R.locals) (hls : ls.size = nL) (hW : (rest.map fun v => v.category).sum ≤ 8) (hcs : cells + 4 ≤ R.cells ∧ slots + 40 ≤ R.slots) (hdg : decode cc pc = .ok (.invokestatic index, 3))
    (kk : ∀ (H1 : Heap) (locs1 : List Loc), XR E σ1 L s.heap H1 locs1 → W p l e R s m args below meth c H1 locs1 (cells + 4) (slots + 40) Q (F0 m (pc + 3) ls (.int r :: rest))) : W p l e R s m args below meth c H locs cells slots Q (F0 m pc ls (.int x :: .ref (E.1 k) :: rest)) := by
  obtain ⟨⟨hx, hb, hml, hown, hts⟩, hK, hNW, hXW⟩ := X
  have hC := C_L_changes l (eN E L) hT0 ho hL
  have pre := XC_pre hK hNW hXW hG [.ref (E.1 k), .int x]
  refine va_calli (va_runS (As := [.ref (E.1 k), .int x]) (rest := rest) ⟨hx, hb, hml, hown, hts⟩ hC ⟨callB_of 2 hts (gw_ok mw1114 rfl) rfl rfl rfl (hts _ (gw_in mw11 rfl)) (hts _ (gw_in w1 rfl)) (by decide +kernel) hR, hts _ (gw_in mw1113 rfl)⟩ ⟨fun a U g mk q => ⟨q.1, ⟨(GB_blind a U g mk ⟨q.1, q.2.1.1⟩).2, q.2.1.2⟩, PV.warm (s := U) (U := U.calling g mk a) (State.WarmedH.refl U) q.2.2⟩, fun U hU hW => ⟨(pre U hU hW).1, ⟨(pre U hU hW).2, fun z hz => ⟨hAn z (Nat.le_trans hG.2.2.1 (by rw [← hU]; exact hz)), fun x hx e => by have h8 := hG.lt hx; rw [e, ← hU] at h8; omega⟩⟩, PV.warm hW hPV⟩⟩ rfl rfl hls rfl (lv_room hW) hdg hcs) hG.2.2 (fun q _ h => h.1) (fun q h => h.1) (fun r1 u t H1 locs1 ht hvm hw hB hz1 hk1 hS1 => ?_)
  obtain ⟨rfl, rfl⟩ := hw
  have h9 := hG.join (M := []) ht (by rw [List.append_nil]; exact hB.1) (by rw [List.append_nil]; exact hB.2.2.1) hk1 hS1
  rw [List.append_nil] at h9
  exact kk H1 locs1 h9
def wsL (E : Ev) (g : Nat → Int64) : va_E := .inl (eL E, 13, .inr (.inl g))
theorem x_newL (X : Cx E p m c cc nL s args own) (hAn : ∀ q, s.heap.size ≤ q → AE E q) (hG : GS E σ s.heap H locs) (hc : cells + 1 ≤ R.cells) (hs : slots + 13 ≤ R.slots) (hdg : decode cc pc = .ok (.newarray .long, 2))
    (kk : ∀ (q : Nat) (H1 : Heap), XR E σ [(q, wsL E (fun _ => 0))] s.heap H1 locs → W p l e R s m args below meth c H1 locs (cells + 1) (slots + 13) Q (F0 m (pc + 2) ls (.ref q :: rest))) : W p l e R s m args below meth c H locs cells slots Q (F0 m pc ls (.int 13 :: rest)) := by
  obtain ⟨⟨hx, hb, hml, hown, hts⟩, hK, hNW, hXW⟩ := X
  refine va_newa (atype := .long) (N' := 13) hx hb (hts _ (gw_in mw1344 rfl)) (ty := .long) rfl hK hG.1 hG.2.1 hG.2.2 hAn (a0 := (13, .inr (.inl (fun _ => 0)))) (fun _ => rfl) (by decide) (by decide) (by decide) hc hs hdg (fun q cA H1 hK1 hP hD hS => ?_)
  have e1 : cA = eL E := by
    have a1 := (hK1.2 5 (cA, .long) rfl).2
    have a2 := (hK.2 4 (eL E, .long) rfl).2
    exact Option.some.inj (a1.symm.trans a2)
  subst e1
  exact kk q H1 ⟨hP, hD, hS⟩
def bxl {α : Type} (g : Nat → Int64) (i : Int32) (K : Int64 → Option α) : Option α := if 0 ≤ i.toInt ∧ i.toInt < 13 then K (g i.toNatClampNeg) else none
def bxs {α : Type} (g : Nat → Int64) (i : Int32) (x : Int64) (K : (Nat → Int64) → Option α) : Option α := if 0 ≤ i.toInt ∧ i.toInt < 13 then K (vp_updL g i.toNatClampNeg x) else none
theorem x_ldlg {α : Type} {K : Int64 → Option α} {z : α} (X : Cx E p m c cc nL s args own) {q : Nat} {g : Nat → Int64} (hG : XR E σ [(q, wsL E g)] s.heap H locs) {i : Int32} (hdg : decode cc pc = .ok (.laload, 1)) (hM : bxl g i K = some z)
    (kk : ∀ x : Int64, K x = some z → W p l e R s m args below meth c H locs cells slots Q (F0 m (pc + 1) ls (.long x :: rest))) : W p l e R s m args below meth c H locs cells slots Q (F0 m pc ls (.int i :: .ref q :: rest)) := by
  obtain ⟨⟨hx, hb, hml, hown, hts⟩, hK, hNW, hXW⟩ := X
  unfold bxl at hM
  by_cases h : 0 ≤ i.toInt ∧ i.toInt < 13
  · rw [if_pos h] at hM
    exact va_lald hx hb hK hG.1 (248 + 0) 4 (by rw [gW_ap]; rfl) rfl (vp_in_ij (n := 13) h) hdg (kk _ hM)
  · rw [if_neg h] at hM; cases hM
theorem x_stl2 {α : Type} {K : (Nat → Int64) → Option α} {z : α} (X : Cx E p m c cc nL s args own) {q : Nat} {g : Nat → Int64} (hG : XR E σ [(q, wsL E g)] s.heap H locs) {i : Int32} {x : Int64} (hdg : decode cc pc = .ok (.lastore, 1)) (hM : bxs g i x K = some z)
    (kk : ∀ (g1 : Nat → Int64) (H1 : Heap) (locs1 : List Loc), XR E σ [(q, wsL E g1)] s.heap H1 locs1 → K g1 = some z → W p l e R s m args below meth c H1 locs1 cells slots Q (F0 m (pc + 1) ls rest)) : W p l e R s m args below meth c H locs cells slots Q (F0 m pc ls (.long x :: .int i :: .ref q :: rest)) := by
  obtain ⟨⟨hx, hb, hml, hown, hts⟩, hK, hNW, hXW⟩ := X
  unfold bxs at hM
  by_cases h : 0 ≤ i.toInt ∧ i.toInt < 13
  · rw [if_pos h] at hM
    refine va_last hx hb hK hG.1 hG.2.1 hG.2.2 (248 + 0) 4 (by rw [gW_ap]; rfl) rfl (vp_in_ij (n := 13) h) hdg (fun H1 locs1 a b d => ?_)
    rw [gW_st] at a b
    exact kk _ H1 locs1 ⟨a, b, d⟩ hM
  · rw [if_neg h] at hM; cases hM
end GLZ
def Q2 (KT : St → Int64 → Int32 → Option (St × Int32)) : Nat → St → Nat → (Nat → Int64) → Int64 → Int32 → Int32 → Int32 → Int32 → Option (St × Int32)
  | 0, _, _, _, _, _, _, _, _ => none
  | n + 1, σ, a0, g, x3, x5, x7, x8, x9 => if x8 < x9 then KT σ x3 x5 else bcall (M_X10_undo σ a0) fun σ1 r => if r < x8 - x9 then none else if 8 - x9 < r then none else bcall (M_L_asks σ1 a0) fun σ2 v => bxl g (x7 - x9) fun u => if lg_cmp v u = 0 then Q2 KT n σ2 a0 g x3 x5 x7 x8 (x9 + 1) else none
def Q1 (KT : St → Int64 → Int32 → Option (St × Int32)) (w : Nat × (Nat → Int32)) : Nat → St → Nat → (Nat → Int64) → Int64 → Int32 → Int32 → Int32 → Option (St × Int32)
  | 0, _, _, _, _, _, _, _ => none
  | n + 1, σ, a0, g, x3, x5, x7, x8 => if 12 ≤ x8 then Q2 KT FU σ a0 g x3 x5 x7 (if x7 < 8 then x7 else 8) 1 else bcall (M_L_asks σ a0) fun σ1 v => bcall (M_L_at σ1 w (20 + x8)) fun σ2 r => bcall (M_L_changes σ2 a0 (r ^^^ (x8 * 977))) fun σ3 b => if b = 0 then (bcall (M_L_asks σ3 a0) fun σ4 v2 => if lg_cmp v2 v = 0 then Q1 KT w n σ4 a0 g x3 x5 x7 (x8 + 1) else none) else (bxs g x7 v fun g1 => Q1 KT w n σ3 a0 g1 x3 x5 (x7 + 1) (x8 + 1))
theorem at_same {σ σ1 : St} {w : Nat × (Nat → Int32)} {i r : Int32} (h : M_L_at σ w i = some (σ1, r)) : σ1 = σ := by
  unfold M_L_at at h
  split at h
  · exact (congrArg Prod.fst (Option.some.inj h)).symm
  · unfold bxld at h
    split at h
    · exact (congrArg Prod.fst (Option.some.inj h)).symm
    · cases h
theorem dr_pv {s0 s : State} (hs0 : Dr s0 s) (h : PV s0) : PV s := by
  obtain ⟨d, rfl, -⟩ := hs0
  exact PV.warm (s := s0) (U := s0.setDrawn d) (State.WarmedH.refl s0) h
def B_LT_1248 (KX : St → Option (St × Int32)) (σ : St) (a0 : Nat) (x3 : Int64) (x5 : Int32) : Option (St × Int32) := bcall (M_X10_restore σ a0) fun σ1 r2 => if r2 = x5 then (bcall (M_X10_undo σ1 a0) fun σ3 r4 => if r4 = (-4 : Int32) then (bcall (M_L_asks σ3 a0) fun σ5 r6 => if (lg_cmp r6 x3) = 0 then (bcall (M_X10_restore σ5 a0) fun σ7 r8 => if r8 = x5 then (bcall (M_L_asks σ7 a0) fun σ9 r10 => if (lg_cmp r10 x3) = 0 then (KX σ9) else none) else none) else none) else none) else none
set_option maxRecDepth 20000 in
set_option maxHeartbeats 4000000 in
theorem w_LT_1248 {p : Program} {l : Launch} {e : Env} {s : State} {m : MethodId} {below : List Frame} {meth : Method} {c : Code} {args : Array Value} {E : Ev} {s0 : State} {Q : State → Prop} {CC SS : Nat} {a0 : Nat} (X : Bx E p m meth c cL_law 11 (some .boolean) s args RL) (hs0 : Dr s0 s) (hAn : ∀ q, s0.heap.size ≤ q → AE E q) (hCC : CC ≤ room_1.cells) (hSS : SS ≤ room_1.slots) (hA0 : lay 10 a0) (KX : St → Option (St × Int32)) : ∀ (σ : St) (x3 : Int64) (x5 : Int32) (H : Heap) (locs : List Loc) (ls : Array Slot) (z : St × Int32) (hKX : ∀ (s : State) (X : Bx E p m meth c cL_law 11 (some .boolean) s args RL) (hs0 : Dr s0 s) (σ : St) (H : Heap) (locs : List Loc) (ls : Array Slot), GS E σ s.heap H locs → lv_has ls 11 [] → KX σ = some z → W p l e room_1 s m args below meth c H locs CC SS Q (F0 m 1293 ls [])), GS E σ s.heap H locs → lv_has ls 11 [(2, .ref (E.1 a0)), (3, .long x3), (5, .int x5)] → B_LT_1248 KX σ a0 x3 x5 = some z → W p l e room_1 s m args below meth c H locs CC SS Q (F0 m 1248 ls []) := by
  have hx := X.1.1.1
  have hb := X.1.1.2.1
  intro σ x3 x5 H locs ls z hKX hG hl hM
  unfold B_LT_1248 at hM
  refine lv_aload_n hx hb dL_law_1248 rfl (lv_at hl 0 rfl) ?_
  refine g_callV_i (nA := 0) (o := M_X10_restore σ a0) (As := []) X.1 hG hA0 rfl rfl (fun _ _ h => C_X10_restore l E h hA0) mw1002 mw1003 mw1004 mw12 (gw_ok mw1005 rfl) (by decide +kernel) rfl ⟨Nat.le_of_ble_eq_true rfl, Nat.le_of_ble_eq_true rfl⟩ hl.1 rfl (Nat.le_of_ble_eq_true rfl) ⟨hCC, hSS⟩ dL_law_1249 hM (fun σ1 r2 H locs hG hM => ?_)
  refine lv_iload hx hb dL_law_1252 (lv_at hl 2 rfl) ?_
  refine lv_icmp_ne (tgt := 1297) hx hb dL_law_1254 (by decide) (fun c15 => ?_) (fun c15 => ?_)
  · have hM := b_else hM c15
    cases hM
  · have hM := b_if hM c15
    refine lv_aload_n hx hb dL_law_1257 rfl (lv_at hl 0 rfl) ?_
    refine g_callV_i (nA := 0) (o := M_X10_undo σ1 a0) (As := []) X.1 hG hA0 rfl rfl (fun _ _ h => C_X10_undo l E h hA0) mw990 mw991 mw992 mw12 (gw_ok mw993 rfl) (by decide +kernel) rfl ⟨Nat.le_of_ble_eq_true rfl, Nat.le_of_ble_eq_true rfl⟩ hl.1 rfl (Nat.le_of_ble_eq_true rfl) ⟨hCC, hSS⟩ dL_law_1258 hM (fun σ3 r4 H locs hG hM => ?_)
    refine lv_bipush (v := (-4 : Int32)) hx hb dL_law_1261 (by decide) ?_
    refine lv_icmp_ne (tgt := 1297) hx hb dL_law_1263 (by decide) (fun c14 => ?_) (fun c14 => ?_)
    · have hM := b_else hM c14
      cases hM
    · have hM := b_if hM c14
      refine lv_aload_n hx hb dL_law_1266 rfl (lv_at hl 0 rfl) ?_
      refine g_callAsk X hs0 (dr_an hs0 hAn) hG hA0 mw1054 ⟨Nat.le_of_ble_eq_true rfl, Nat.le_of_ble_eq_true rfl⟩ hl.1 (Nat.le_of_ble_eq_true rfl) ⟨hCC, hSS⟩ dL_law_1267 hM (fun σ5 r6 s H locs X hs0 _ hG hM => ?_)
      have hx := X.1.1.1
      have hb := X.1.1.2.1
      refine lv_lload_n hx hb dL_law_1270 rfl (lv_at hl 1 rfl) ?_
      refine W.lcmp hx hb dL_law_1271 ?_
      refine lv_if_ne (tgt := 1297) hx hb dL_law_1272 (by decide) (fun c13 => ?_) (fun c13 => ?_)
      · have hM := b_else hM c13
        cases hM
      · have hM := b_if hM c13
        refine lv_aload_n hx hb dL_law_1275 rfl (lv_at hl 0 rfl) ?_
        refine g_callV_i (nA := 0) (o := M_X10_restore σ5 a0) (As := []) X.1 hG hA0 rfl rfl (fun _ _ h => C_X10_restore l E h hA0) mw1002 mw1003 mw1004 mw12 (gw_ok mw1005 rfl) (by decide +kernel) rfl ⟨Nat.le_of_ble_eq_true rfl, Nat.le_of_ble_eq_true rfl⟩ hl.1 rfl (Nat.le_of_ble_eq_true rfl) ⟨hCC, hSS⟩ dL_law_1276 hM (fun σ7 r8 H locs hG hM => ?_)
        refine lv_iload hx hb dL_law_1279 (lv_at hl 2 rfl) ?_
        refine lv_icmp_ne (tgt := 1297) hx hb dL_law_1281 (by decide) (fun c12 => ?_) (fun c12 => ?_)
        · have hM := b_else hM c12
          cases hM
        · have hM := b_if hM c12
          refine lv_aload_n hx hb dL_law_1284 rfl (lv_at hl 0 rfl) ?_
          refine g_callAsk X hs0 (dr_an hs0 hAn) hG hA0 mw1054 ⟨Nat.le_of_ble_eq_true rfl, Nat.le_of_ble_eq_true rfl⟩ hl.1 (Nat.le_of_ble_eq_true rfl) ⟨hCC, hSS⟩ dL_law_1285 hM (fun σ9 r10 s H locs X hs0 _ hG hM => ?_)
          have hx := X.1.1.1
          have hb := X.1.1.2.1
          refine lv_lload_n hx hb dL_law_1288 rfl (lv_at hl 1 rfl) ?_
          refine W.lcmp hx hb dL_law_1289 ?_
          refine lv_if_ne (tgt := 1297) hx hb dL_law_1290 (by decide) (fun c11 => ?_) (fun c11 => ?_)
          · have hM := b_else hM c11
            cases hM
          · have hM := b_if hM c11
            exact hKX _ X hs0 σ9  _ _ _ hG (lv_sub hl [] rfl) hM
set_option maxRecDepth 20000 in
set_option maxHeartbeats 4000000 in
theorem wQ2 {p : Program} {l : Launch} {e : Env} {m : MethodId} {below : List Frame} {meth : Method} {c : Code} {args : Array Value} {E : Ev} {s0 : State} {Q : State → Prop} {CC SS a0 q jx : Nat} {w : Nat × (Nat → Int32)} {KT : St → Int64 → Int32 → Option (St × Int32)} {z : St × Int32} (hT0 : eT E = 0) (hPV : PV s0) (hCC : CC ≤ room_1.cells) (hSS : SS ≤ room_1.slots) (hAn : ∀ q, s0.heap.size ≤ q → AE E q) (hA0 : lay 10 a0) (hw : jx < nX E ∧ (eX E jx).2 = w) (hKT : ∀ (s : State) (X : Bx E p m meth c cL_law 11 (some .boolean) s args RL) (hs0 : Dr s0 s) (σ : St) (x3 : Int64) (x5 : Int32) (H : Heap) (locs : List Loc) (ls : Array Slot), GS E σ s.heap H locs → lv_has ls 11 [(2, .ref (E.1 a0)), (3, .long x3), (5, .int x5)] → KT σ x3 x5 = some z → W p l e room_1 s m args below meth c H locs CC SS Q (F0 m 1248 ls [])) : ∀ (n : Nat) (s : State) (X : Bx E p m meth c cL_law 11 (some .boolean) s args RL) (hs0 : Dr s0 s) (σ : St) (g : Nat → Int64) (x3 : Int64) (x5 x7 : Int32) (x8 x9 : Int32) (H : Heap) (locs : List Loc) (ls : Array Slot) , XR E σ [(q, wsL E g)] s.heap H locs → lv_has ls 11 [(2, .ref (E.1 a0)), (3, .long x3), (5, .int x5), (6, .ref q), (7, .int x7), (8, .int x8), (9, .int x9)] → Q2 KT n σ a0 g x3 x5 x7 x8 x9 = some z → W p l e room_1 s m args below meth c H locs CC SS Q (F0 m 1191 ls []) := by
  intro n
  induction n with
  | zero => intro s X hs0 σ g x3 x5 x7 x8 x9 H locs ls hG hl hM; cases hM
  | succ n ih =>
    intro s X hs0 σ g x3 x5 x7 x8 x9 H locs ls hG hl hM
    have hx := X.1.1.1
    have hb := X.1.1.2.1
    unfold Q2 at hM
    refine lv_iload hx hb dL_law_1191 (lv_at hl 6 rfl) ?_
    refine lv_iload hx hb dL_law_1193 (lv_at hl 5 rfl) ?_
    refine lv_icmp_gt (tgt := 1248) hx hb dL_law_1195 (by decide) (fun c1 => ?_) (fun c1 => ?_)
    · rw [if_pos c1] at hM
      exact hKT s X hs0 σ x3 x5 H locs ls hG.gs (lv_sub hl [0, 1, 2] rfl) hM
    rw [if_neg c1] at hM
    obtain ⟨σ1, r, ho, hM⟩ := b_ca hM
    refine lv_aload_n hx hb dL_law_1198 rfl (lv_at hl 0 rfl) ?_
    refine x_cutV (nA := 0) (As := []) X.1 hG hA0 rfl rfl (C_X10_undo l (eN E _) ho hA0) mw990 mw991 mw992 mw12 (gw_ok mw993 rfl) (by decide +kernel) rfl ⟨Nat.le_of_ble_eq_true rfl, Nat.le_of_ble_eq_true rfl⟩ hl.1 rfl (Nat.le_of_ble_eq_true rfl) ⟨hCC, hSS⟩ dL_law_1199 (fun H locs hG => ?_)
    refine lv_istore (lv' := [(10, .int r), (2, .ref (E.1 a0)), (3, .long x3), (5, .int x5), (6, .ref q), (7, .int x7), (8, .int x8), (9, .int x9)]) hx hb dL_law_1202 hl (by decide) rfl (fun ls hl => ?_)
    refine lv_iload hx hb dL_law_1204 (lv_at hl 0 rfl) ?_
    refine lv_iload hx hb dL_law_1206 (lv_at hl 6 rfl) ?_
    refine lv_iload hx hb dL_law_1208 (lv_at hl 7 rfl) ?_
    refine lv_isub hx hb dL_law_1210 ?_
    refine lv_icmp_lt (tgt := 1240) hx hb dL_law_1211 (by decide) (fun c2 => ?_) (fun c2 => ?_)
    · rw [if_pos c2] at hM; cases hM
    rw [if_neg c2] at hM
    refine lv_iload hx hb dL_law_1214 (lv_at hl 0 rfl) ?_
    refine lv_bipush (v := (8 : Int32)) hx hb dL_law_1216 (by decide) ?_
    refine lv_iload hx hb dL_law_1218 (lv_at hl 7 rfl) ?_
    refine lv_isub hx hb dL_law_1220 ?_
    refine lv_icmp_gt (tgt := 1240) hx hb dL_law_1221 (by decide) (fun c3 => ?_) (fun c3 => ?_)
    · rw [if_pos c3] at hM; cases hM
    rw [if_neg c3] at hM
    obtain ⟨σ2, v, ho2, hM⟩ := b_ca hM
    refine lv_aload_n hx hb dL_law_1224 rfl (lv_at hl 1 rfl) ?_
    refine x_cutA X hs0 hG ho2 hA0 mw1054 ⟨Nat.le_of_ble_eq_true rfl, Nat.le_of_ble_eq_true rfl⟩ hl.1 (Nat.le_of_ble_eq_true rfl) ⟨hCC, hSS⟩ dL_law_1225 (fun s H locs X hs0 hG => ?_)
    have hx := X.1.1.1
    have hb := X.1.1.2.1
    refine lv_aload hx hb dL_law_1228 (lv_at hl 4 rfl) ?_
    refine lv_iload hx hb dL_law_1230 (lv_at hl 5 rfl) ?_
    refine lv_iload hx hb dL_law_1232 (lv_at hl 7 rfl) ?_
    refine lv_isub hx hb dL_law_1234 ?_
    refine x_ldlg X.1 hG dL_law_1235 hM (fun u hM => ?_)
    refine W.lcmp hx hb dL_law_1236 ?_
    refine lv_if_eq (tgt := 1242) hx hb dL_law_1237 (by decide) (fun c4 => ?_) (fun c4 => ?_)
    · rw [if_pos c4] at hM
      refine lv_iinc (v := x9 + 1) (lv' := [(9, .int (x9 + 1)), (10, .int r), (2, .ref (E.1 a0)), (3, .long x3), (5, .int x5), (6, .ref q), (7, .int x7), (8, .int x8)]) hx hb dL_law_1242 hl (k := 7) rfl rfl (by decide) rfl (fun ls hl => ?_)
      refine lv_goto (tgt := 1191) hx hb dL_law_1245 (by decide) ?_
      exact ih s X hs0 σ2 g x3 x5 x7 x8 (x9 + 1) H locs ls hG (lv_sub hl [2, 3, 4, 5, 6, 7, 0] rfl) hM
    · rw [if_neg c4] at hM; cases hM
set_option maxRecDepth 20000 in
set_option maxHeartbeats 4000000 in
theorem wQ1 {p : Program} {l : Launch} {e : Env} {m : MethodId} {below : List Frame} {meth : Method} {c : Code} {args : Array Value} {E : Ev} {s0 : State} {Q : State → Prop} {CC SS a0 q jx : Nat} {w : Nat × (Nat → Int32)} {KT : St → Int64 → Int32 → Option (St × Int32)} {z : St × Int32} (hT0 : eT E = 0) (hPV : PV s0) (hCC : CC ≤ room_1.cells) (hSS : SS ≤ room_1.slots) (hAn : ∀ q, s0.heap.size ≤ q → AE E q) (hA0 : lay 10 a0) (hw : jx < nX E ∧ (eX E jx).2 = w) (hKT : ∀ (s : State) (X : Bx E p m meth c cL_law 11 (some .boolean) s args RL) (hs0 : Dr s0 s) (σ : St) (x3 : Int64) (x5 : Int32) (H : Heap) (locs : List Loc) (ls : Array Slot), GS E σ s.heap H locs → lv_has ls 11 [(2, .ref (E.1 a0)), (3, .long x3), (5, .int x5)] → KT σ x3 x5 = some z → W p l e room_1 s m args below meth c H locs CC SS Q (F0 m 1248 ls [])) : ∀ (n : Nat) (s : State) (X : Bx E p m meth c cL_law 11 (some .boolean) s args RL) (hs0 : Dr s0 s) (σ : St) (g : Nat → Int64) (x3 : Int64) (x5 x7 : Int32) (x8 : Int32) (H : Heap) (locs : List Loc) (ls : Array Slot) (i : Nat) (cells slots : Nat) (hi : i ≤ 12) (h8 : x8 = Int32.ofNat i) (hc : cells + 4 * (12 - i) ≤ CC) (hs : slots + 40 * (12 - i) ≤ SS), XR E σ [(q, wsL E g)] s.heap H locs → lv_has ls 11 [(0, .ref (eX E jx).1), (2, .ref (E.1 a0)), (3, .long x3), (5, .int x5), (6, .ref q), (7, .int x7), (8, .int x8)] → Q1 KT w n σ a0 g x3 x5 x7 x8 = some z → W p l e room_1 s m args below meth c H locs cells slots Q (F0 m 1112 ls []) := by
  intro n
  induction n with
  | zero => intro s X hs0 σ g x3 x5 x7 x8 H locs ls i cells slots hi h8 hc hs hG hl hM; cases hM
  | succ n ih =>
    intro s X hs0 σ g x3 x5 x7 x8 H locs ls i cells slots hi h8 hc hs hG hl hM
    have hx := X.1.1.1
    have hb := X.1.1.2.1
    unfold Q1 at hM
    refine lv_iload hx hb dL_law_1112 (lv_at hl 6 rfl) ?_
    refine lv_bipush (v := (12 : Int32)) hx hb dL_law_1114 (by decide) ?_
    refine lv_icmp_ge (tgt := 1179) hx hb dL_law_1116 (by decide) (fun c1 => ?_) (fun c1 => ?_)
    · rw [if_pos c1] at hM
      refine W.widen (k := CC) (n := SS) (by omega) (by omega) ?_
      refine lv_bipush (v := (8 : Int32)) hx hb dL_law_1179 (by decide) ?_
      refine lv_iload hx hb dL_law_1181 (lv_at hl 5 rfl) ?_
      refine va_mmin hx hb (by rw [X.1.1.2.2.1]; exact hl.1.symm) X.1.1.2.2.2.1 (X.1.1.2.2.2.2 _ (gw_in mw1340 rfl)) (X.1.1.2.2.2.2 _ (gw_in mw347 rfl)) (X.1.1.2.2.2.2 _ (gw_in mw23 rfl)) (X.1.1.2.2.2.2 _ (gw_in mw348 rfl)) (Nat.le_of_ble_eq_true rfl) (Nat.le_of_ble_eq_true rfl) hCC hSS dL_law_1183 ?_
      refine lv_istore (lv' := [(8, .int (if x7 < 8 then x7 else 8)), (0, .ref (eX E jx).1), (2, .ref (E.1 a0)), (3, .long x3), (5, .int x5), (6, .ref q), (7, .int x7)]) hx hb dL_law_1186 hl (by decide) rfl (fun ls hl => ?_)
      refine lv_iconst (v := (1 : Int32)) hx hb dL_law_1188 (by decide) ?_
      refine lv_istore (lv' := [(9, .int (1 : Int32)), (8, .int (if x7 < 8 then x7 else 8)), (0, .ref (eX E jx).1), (2, .ref (E.1 a0)), (3, .long x3), (5, .int x5), (6, .ref q), (7, .int x7)]) hx hb dL_law_1189 hl (by decide) rfl (fun ls hl => ?_)
      exact wQ2 hT0 hPV hCC hSS hAn hA0 hw hKT FU s X hs0 σ g x3 x5 x7 _ 1 H locs ls hG (lv_sub hl [3, 4, 5, 6, 7, 1, 0] rfl) hM
    rw [if_neg c1] at hM
    have hi2 : i < 12 := by
      rcases Nat.lt_or_ge i 12 with h | h
      · exact h
      · exfalso; apply c1; rw [h8, show i = 12 by omega]; decide
    obtain ⟨σ1, v, ho, hM⟩ := b_ca hM
    refine lv_aload_n hx hb dL_law_1119 rfl (lv_at hl 1 rfl) ?_
    refine x_cutA X hs0 hG ho hA0 mw1054 ⟨Nat.le_of_ble_eq_true rfl, Nat.le_of_ble_eq_true rfl⟩ hl.1 (Nat.le_of_ble_eq_true rfl) ⟨(by show cells + 0 ≤ room_1.cells; omega), (by show slots + 0 ≤ room_1.slots; omega)⟩ dL_law_1120 (fun s H locs X hs0 hG => ?_)
    have hx := X.1.1.1
    have hb := X.1.1.2.1
    refine lv_lstore (lv' := [(9, .long v), (0, .ref (eX E jx).1), (2, .ref (E.1 a0)), (3, .long x3), (5, .int x5), (6, .ref q), (7, .int x7), (8, .int x8)]) hx hb dL_law_1123 hl (by decide) rfl (fun ls hl => ?_)
    obtain ⟨σ2, r, ho2, hM2⟩ := b_ca hM
    clear hM
    refine lv_aload_n hx hb dL_law_1125 rfl (lv_at hl 2 rfl) ?_
    refine lv_aload_n hx hb dL_law_1126 rfl (lv_at hl 1 rfl) ?_
    refine lv_bipush (v := (20 : Int32)) hx hb dL_law_1127 (by decide) ?_
    refine lv_iload hx hb dL_law_1129 (lv_at hl 7 rfl) ?_
    refine lv_iadd hx hb dL_law_1131 ?_
    have hσ : σ2 = σ1 := at_same ho2
    subst hσ
    have hM := hM2
    clear hM2
    refine x_cutS (nA := 2) (As := [.ref (eX E jx).1, .int (20 + x8)]) X.1 hG (C_L_at l (eN E _) (jx := jx) ho2 hw) mw1006 mw1007 mw11 (gw_ok mw1008 rfl) (by decide +kernel) rfl ⟨Nat.le_of_ble_eq_true rfl, Nat.le_of_ble_eq_true rfl⟩ hl.1 rfl (Nat.le_of_ble_eq_true rfl) ⟨(by show cells + 0 ≤ room_1.cells; omega), (by show slots + 0 ≤ room_1.slots; omega)⟩ dL_law_1132 (fun H locs hG => ?_)
    refine lv_iload hx hb dL_law_1135 (lv_at hl 7 rfl) ?_
    refine lv_sipush (v := (977 : Int32)) hx hb dL_law_1137 (by decide) ?_
    refine lv_imul hx hb dL_law_1140 ?_
    refine lv_ixor hx hb dL_law_1141 ?_
    obtain ⟨σ3, b, ho3, hM⟩ := b_ca hM
    refine x_cutM X.1 hT0 (dr_an hs0 hAn) (dr_pv hs0 hPV) hG ho3 hA0 mw1112 ⟨Nat.le_of_ble_eq_true rfl, Nat.le_of_ble_eq_true rfl⟩ hl.1 (Nat.le_of_ble_eq_true rfl) ⟨(by show cells + 4 ≤ room_1.cells; omega), (by show slots + 40 ≤ room_1.slots; omega)⟩ dL_law_1142 (fun H locs hG => ?_)
    have e8 : x8 + 1 = Int32.ofNat (i + 1) := by rw [h8]; exact oN_add i 1
    refine lv_if_eq (tgt := 1161) hx hb dL_law_1145 (by decide) (fun c2 => ?_) (fun c2 => ?_)
    · rw [if_pos c2] at hM
      obtain ⟨σ4, v2, ho4, hM⟩ := b_ca hM
      refine lv_aload_n hx hb dL_law_1161 rfl (lv_at hl 2 rfl) ?_
      refine x_cutA X hs0 hG ho4 hA0 mw1054 ⟨Nat.le_of_ble_eq_true rfl, Nat.le_of_ble_eq_true rfl⟩ hl.1 (Nat.le_of_ble_eq_true rfl) ⟨(by show cells + 4 + 0 ≤ room_1.cells; omega), (by show slots + 40 + 0 ≤ room_1.slots; omega)⟩ dL_law_1162 (fun s H locs X hs0 hG => ?_)
      have hx := X.1.1.1
      have hb := X.1.1.2.1
      refine lv_lload hx hb dL_law_1165 (lv_at hl 0 rfl) ?_
      refine W.lcmp hx hb dL_law_1167 ?_
      refine lv_if_eq (tgt := 1173) hx hb dL_law_1168 (by decide) (fun c3 => ?_) (fun c3 => ?_)
      · rw [if_pos c3] at hM
        refine lv_iinc (v := x8 + 1) (lv' := [(8, .int (x8 + 1)), (9, .long v), (0, .ref (eX E jx).1), (2, .ref (E.1 a0)), (3, .long x3), (5, .int x5), (6, .ref q), (7, .int x7)]) hx hb dL_law_1173 hl (k := 7) rfl rfl (by decide) rfl (fun ls hl => ?_)
        refine lv_goto (tgt := 1112) hx hb dL_law_1176 (by decide) ?_
        exact ih s X hs0 σ4 g x3 x5 x7 (x8 + 1) H locs ls (i + 1) _ _ (by omega) e8 (by omega) (by omega) hG (lv_sub hl [2, 3, 4, 5, 6, 7, 0] rfl) hM
      · rw [if_neg c3] at hM; cases hM
    · rw [if_neg c2] at hM
      refine lv_aload hx hb dL_law_1148 (lv_at hl 5 rfl) ?_
      refine lv_iload hx hb dL_law_1150 (lv_at hl 6 rfl) ?_
      refine lv_iinc (v := x7 + 1) (lv' := [(7, .int (x7 + 1)), (9, .long v), (0, .ref (eX E jx).1), (2, .ref (E.1 a0)), (3, .long x3), (5, .int x5), (6, .ref q), (8, .int x8)]) hx hb dL_law_1152 hl (k := 6) rfl rfl (by decide) rfl (fun ls hl => ?_)
      refine lv_lload hx hb dL_law_1155 (lv_at hl 1 rfl) ?_
      refine x_stl2 X.1 hG dL_law_1157 hM (fun g1 H locs hG hM => ?_)
      refine lv_goto (tgt := 1173) hx hb dL_law_1158 (by decide) ?_
      refine lv_iinc (v := x8 + 1) (lv' := [(8, .int (x8 + 1)), (7, .int (x7 + 1)), (9, .long v), (0, .ref (eX E jx).1), (2, .ref (E.1 a0)), (3, .long x3), (5, .int x5), (6, .ref q)]) hx hb dL_law_1173 hl (k := 7) rfl rfl (by decide) rfl (fun ls hl => ?_)
      refine lv_goto (tgt := 1112) hx hb dL_law_1176 (by decide) ?_
      exact ih s X hs0 σ3 g1 x3 x5 (x7 + 1) (x8 + 1) H locs ls (i + 1) _ _ (by omega) e8 (by omega) (by omega) hG (lv_sub hl [3, 4, 5, 6, 7, 1, 0] rfl) hM
set_option maxRecDepth 20000 in
set_option maxHeartbeats 4000000 in
theorem wQ0 {p : Program} {l : Launch} {e : Env} {m : MethodId} {below : List Frame} {meth : Method} {c : Code} {args : Array Value} {E : Ev} {s0 : State} {Q : State → Prop} {CC SS a0 jx : Nat} {w : Nat × (Nat → Int32)} {KT : St → Int64 → Int32 → Option (St × Int32)} {z : St × Int32} (hT0 : eT E = 0) (hPV : PV s0) (hCC : CC ≤ room_1.cells) (hSS : SS ≤ room_1.slots) (hAn : ∀ q, s0.heap.size ≤ q → AE E q) (hA0 : lay 10 a0) (hw : jx < nX E ∧ (eX E jx).2 = w) (hKT : ∀ (s : State) (X : Bx E p m meth c cL_law 11 (some .boolean) s args RL) (hs0 : Dr s0 s) (σ : St) (x3 : Int64) (x5 : Int32) (H : Heap) (locs : List Loc) (ls : Array Slot), GS E σ s.heap H locs → lv_has ls 11 [(2, .ref (E.1 a0)), (3, .long x3), (5, .int x5)] → KT σ x3 x5 = some z → W p l e room_1 s m args below meth c H locs CC SS Q (F0 m 1248 ls [])) (s : State) (X : Bx E p m meth c cL_law 11 (some .boolean) s args RL) (hs0 : Dr s0 s) (σ : St) (x3 : Int64) (x5 : Int32) (H : Heap) (locs : List Loc) (ls : Array Slot) (cells slots : Nat) (hc : cells + 1 + 4 * 12 ≤ CC) (hs : slots + 13 + 40 * 12 ≤ SS) (hG : GS E σ s.heap H locs) (hl : lv_has ls 11 [(0, .ref (eX E jx).1), (2, .ref (E.1 a0)), (3, .long x3), (5, .int x5)]) (hM : Q1 KT w FU σ a0 (fun _ => 0) x3 x5 0 0 = some z) : W p l e room_1 s m args below meth c H locs cells slots Q (F0 m 1100 ls []) := by
  have hx := X.1.1.1
  have hb := X.1.1.2.1
  refine lv_bipush (v := (13 : Int32)) hx hb dL_law_1100 (by decide) ?_
  refine x_newL X.1 (dr_an hs0 hAn) hG (by show cells + 1 ≤ room_1.cells; omega) (by show slots + 13 ≤ room_1.slots; omega) dL_law_1102 (fun q H hG => ?_)
  refine lv_astore (lv' := [(6, .ref q), (0, .ref (eX E jx).1), (2, .ref (E.1 a0)), (3, .long x3), (5, .int x5)]) hx hb dL_law_1104 hl (by decide) rfl (fun ls hl => ?_)
  refine lv_iconst (v := (0 : Int32)) hx hb dL_law_1106 (by decide) ?_
  refine lv_istore (lv' := [(7, .int (0 : Int32)), (6, .ref q), (0, .ref (eX E jx).1), (2, .ref (E.1 a0)), (3, .long x3), (5, .int x5)]) hx hb dL_law_1107 hl (by decide) rfl (fun ls hl => ?_)
  refine lv_iconst (v := (0 : Int32)) hx hb dL_law_1109 (by decide) ?_
  refine lv_istore (lv' := [(8, .int (0 : Int32)), (7, .int (0 : Int32)), (6, .ref q), (0, .ref (eX E jx).1), (2, .ref (E.1 a0)), (3, .long x3), (5, .int x5)]) hx hb dL_law_1110 hl (by decide) rfl (fun ls hl => ?_)
  exact wQ1 hT0 hPV hCC hSS hAn hA0 hw hKT FU s X hs0 σ _ x3 x5 0 0 H locs ls 0 _ _ (by omega) rfl (by omega) (by omega) hG (lv_sub hl [3, 4, 5, 6, 2, 1, 0] rfl) hM
