/-! rows for the law's own methods: rows of whole numbers from outside, long numbers, draws, what is made -/
def bxld {α : Type} (w : Nat × (Nat → Int32)) (i : Int32) (K : Int32 → Option α) : Option α := if 0 ≤ i.toInt ∧ i.toInt < w.1 then K (w.2 i.toNatClampNeg) else none
def okN (v : Int32) : Bool := !(v == 0)
theorem okN_n {v : Int32} (h : okN v = true) : ¬ v = 0 := by
  intro e
  subst e
  exact absurd h (by decide)
/-- the state of a walk that may draw -/
def Dr (s0 s : State) : Prop := ∃ d : Drawn, s = s0.setDrawn d ∧ s0.drawn.sameBut d lw_cs
/-- a double's bits as a long number, all that are no numbers alike -/
def dlB (x : UInt64) : Int64 := if Op.cmpValue (FP.dcmp x x) CmpOp.l = 0 then x.toInt64 else 9221120237041090560
def flB (x : UInt32) : Int32 := if Op.cmpValue (FP.fcmp x x) CmpOp.l = 0 then x.toInt32 else 2143289344
def QL (E : Ev) (z : St × Int64) (below : List Frame) (args : Array Value) (s : State) : State → Prop := MQ below (va_Ql (fun (r' : Int64) (u : St) => r' = z.2 ∧ u = z.1) (GB E) (AE E)) args s 0 0 (AE E)
def QLD (E : Ev) (z : St × Int64) (below : List Frame) (args : Array Value) (s : State) : State → Prop := MQD lw_cs below (va_Ql (fun (r' : Int64) (u : St) => r' = z.2 ∧ u = z.1) (GB E) (AE E)) args s 0 0 (AE E)
def Ml (l : Launch) (E : Ev) (y : MethodName) (cc : ByteArray) (nL d : Nat) (av : List Value) (σ σ' : St) (r : Int64) : Prop := Met l y (wsM y cc nL (some .long)) (rmd d) (va_Pc av (GB E σ)) (va_Ql (fun (r' : Int64) (u : St) => r' = r ∧ u = σ') (GB E) (AE E)) 0 0 (AE E)
def MlD (l : Launch) (E : Ev) (y : MethodName) (cc : ByteArray) (nL d : Nat) (av : List Value) (σ σ' : St) (r : Int64) : Prop := MetD lw_cs l y (wsM y cc nL (some .long)) (rmd d) (va_Pc av (GB E σ)) (va_Ql (fun (r' : Int64) (u : St) => r' = r ∧ u = σ') (GB E) (AE E)) 0 0 (AE E)
theorem cx_drawn {E : Ev} {p : Program} {m : MethodId} {c : Code} {cc : ByteArray} {nL : Nat} {s : State} {args : Array Value} {own : String} (d0 : Drawn) (X : Cx E p m c cc nL s args own) : Cx E p m c cc nL (s.setDrawn d0) args own := ⟨⟨X.1.1, X.1.2.1, X.1.2.2.1, X.1.2.2.2.1, dr_words X.1.2.2.2.2 d0⟩, X.2.1, NW.same (u := s) rfl X.2.2.1, XW.same (u := s) (U := s.setDrawn d0) rfl X.2.2.2⟩
section GLR
variable {p : Program} {l : Launch} {e : Env} {R : Room} {s s0 : State} {m : MethodId} {args : Array Value} {below : List Frame} {meth : Method} {c : Code} {H H0 : Heap} {locs : List Loc} {cells slots : Nat} {Q : State → Prop} {cc : ByteArray} {pc : Nat} {ls : Array Slot} {rest : List Value} {nL : Nat} {own : String} {E : Ev} {σ : St} {ret : Option FieldType}
theorem g_xlen (X : Cx E p m c cc nL s args own) (hG : GS E σ s.heap H locs) {w : Nat × (Nat → Int32)} {jx : Nat} (hw : jx < nX E ∧ (eX E jx).2 = w) (hdg : decode cc pc = .ok (.arraylength, 1)) (kk : W p l e R s m args below meth c H locs cells slots Q (F0 m (pc + 1) ls (.int (Int32.ofNat w.1) :: rest))) : W p l e R s m args below meth c H locs cells slots Q (F0 m pc ls (.ref (eX E jx).1 :: rest)) := by
  obtain ⟨⟨hx, hb, hml, hown, hts⟩, hK, hNW, hXW⟩ := X
  obtain ⟨h1, h2⟩ := hXW.2.2.2.2.2 jx hw.1
  obtain ⟨h3, rfl⟩ := hw
  exact va_slen hx hb h1 h1.at_lt h2 hG.2.2 hdg kk
theorem g_xld {α : Type} {K : Int32 → Option α} {z : α} (X : Cx E p m c cc nL s args own) (hG : GS E σ s.heap H locs) {w : Nat × (Nat → Int32)} {jx : Nat} (hw : jx < nX E ∧ (eX E jx).2 = w) {i : Int32} (hdg : decode cc pc = .ok (.iaload, 1)) (hM : bxld w i K = some z) (kk : ∀ x : Int32, K x = some z → W p l e R s m args below meth c H locs cells slots Q (F0 m (pc + 1) ls (.int x :: rest))) : W p l e R s m args below meth c H locs cells slots Q (F0 m pc ls (.int i :: .ref (eX E jx).1 :: rest)) := by
  obtain ⟨⟨hx, hb, hml, hown, hts⟩, hK, hNW, hXW⟩ := X
  obtain ⟨h1, h2⟩ := hXW.2.2.2.2.2 jx hw.1
  obtain ⟨h3, rfl⟩ := hw
  unfold bxld at hM
  by_cases hi : 0 ≤ i.toInt ∧ i.toInt < (eX E jx).2.1
  · rw [if_pos hi] at hM
    exact va_sld hx hb h1 h1.at_lt h2 hG.2.2 (vp_in_ij hi) hdg (kk _ hM)
  · rw [if_neg hi] at hM; cases hM
theorem e_lret (X : Bx E p m meth c cc nL (some .long) s args own) (hG : GS E σ s.heap H locs) {x : Int64} {z : St × Int64} (hdg : decode cc pc = .ok (.lreturn, 1)) (hM : some (σ, x) = some z) : W p l e R s m args below meth c H locs 0 0 (QL E z below args s) (F0 m pc ls [.long x]) := by
  obtain ⟨⟨⟨hx, hb, hml, hown, hts⟩, hK, hNW, hXW⟩, hr, hlk⟩ := X
  cases hM
  exact W.lret (v := x) hx hb hr (fun t ht hW => ⟨⟨x, σ, rfl, ⟨rfl, rfl⟩, by rw [ht]; exact hG.1, va_K.moved hW.alike hK, hG.2.1, NW.warm hW hNW, XW.warm hW (by rw [ht]; exact hXW.kept hG.2.2.2.1)⟩, hG.2.2.F ht⟩) hG.2.2.2.2 hdg hlk
theorem e_lretD (X : Bx E p m meth c cc nL (some .long) s args own) (hs0 : Dr s0 s) (hG : GS E σ s.heap H locs) {x : Int64} {z : St × Int64} (hdg : decode cc pc = .ok (.lreturn, 1)) (hM : some (σ, x) = some z) : W p l e R s m args below meth c H locs 0 0 (QLD E z below args s0) (F0 m pc ls [.long x]) := by
  obtain ⟨d, rfl, hd⟩ := hs0
  obtain ⟨⟨⟨hx, hb, hml, hown, hts⟩, hK, hNW, hXW⟩, hr, hlk⟩ := X
  cases hM
  refine W.endD hd ?_
  exact W.lret (v := x) hx hb hr (fun t ht hW => ⟨⟨x, σ, rfl, ⟨rfl, rfl⟩, by rw [ht]; exact hG.1, va_K.moved hW.alike hK, hG.2.1, NW.warm hW hNW, XW.warm hW (by rw [ht]; exact hXW.kept hG.2.2.2.1)⟩, hG.2.2.F ht⟩) hG.2.2.2.2 hdg hlk

theorem g_callDS {α : Type} {K : St → UInt64 → Option α} {z : α} {index k : Nat} (X : Bx E p m meth c cc nL ret s args own) (hs0 : Dr s0 s) (hG : GS E σ s.heap H locs) (hL : lay 10 k) (w1 : Cond.methodLink own index yX10_doneShare ∈ lw_tbl) (hR : 4 + 1 ≤ R.frames ∧ 8 + (1 + 11) + 40 * 4 ≤ R.locals) (hls : ls.size = nL) (hW : (rest.map fun v => v.category).sum ≤ 8) (hcs : cells + 0 ≤ R.cells ∧ slots + 0 ≤ R.slots) (hdg : decode cc pc = .ok (.invokevirtual index, 3)) (hM : bcall (M_X10_doneShare σ k) K = some z)
    (kk : ∀ (σ1 : St) (r : UInt64) (s1 : State) (H1 : Heap) (locs1 : List Loc) (v : UInt64), Bx E p m meth c cc nL ret s1 args own → Dr s0 s1 → GS E σ1 s1.heap H1 locs1 → alike64 v r = true → K σ1 r = some z → W p l e R s1 m args below meth c H1 locs1 cells slots Q (F0 m (pc + 3) ls (.double v :: rest))) : W p l e R s m args below meth c H locs cells slots Q (F0 m pc ls (.ref (E.1 k) :: rest)) := by
  obtain ⟨d, rfl, hd⟩ := hs0
  have X0 := X
  obtain ⟨⟨⟨hx, hb, hml, hown, hts⟩, hK, hNW, hXW⟩, hrt, hlk⟩ := X
  cases ho : M_X10_doneShare σ k with
  | none => rw [ho] at hM; cases hM
  | some q =>
    rw [ho] at hM
    obtain ⟨σ1, r⟩ := q
    have hC := C_X10_doneShare l E ho hL
    refine va_calldD hd (va_runV_D (As := []) (rest := rest) ⟨hx, hb, hml, hown, hts⟩ hC (cwV 0 hts (fun w hw => (List.mem_append.mp hw).elim (fun h => by rcases List.mem_cons.mp h with rfl | h; exact ⟨gw_in w1 rfl, good_of_word rfl⟩; rcases List.mem_cons.mp h with rfl | h; exact ⟨gw_in mw956 rfl, good_of_word rfl⟩; rcases List.mem_cons.mp h with rfl | h; exact ⟨gw_in mw957 rfl, good_of_word rfl⟩; rcases List.mem_cons.mp h with rfl | h; exact ⟨gw_in mw12 rfl, good_of_word rfl⟩; cases h) (gw_ok mw958 rfl w)) rfl rfl rfl ⟨rfl, by decide +kernel⟩ (show 1 + 1 ≤ R.frames ∧ 8 + (1 + 11) + 40 * 1 ≤ R.locals from ⟨by omega, by omega⟩)) ⟨GB_blind, GB_recv hK hG hL rfl, GB_pre hK hNW hXW hG _⟩ rfl rfl hls rfl (lv_room hW) hdg hcs) hG.2.2 (fun q _ h => h) (fun q h => h) (fun v u t H1 locs1 ht hvm hw hB hz1 hk1 hS1 d1 hd1 => ?_)
    obtain ⟨hal, rfl⟩ := hw
    exact kk _ r (s0.setDrawn d1) H1 locs1 v ⟨(show Cx E p m c cc nL ((s0.setDrawn d).setDrawn d1) args own from cx_drawn d1 X0.1), hrt, hlk⟩ ⟨d1, rfl, hd1⟩ ⟨by rw [← ht]; exact hB.1, hB.2.2.1, hS1⟩ hal hM
theorem g_callMS {α : Type} {K : St → UInt32 → Option α} {z : α} {index k : Nat} (X : Bx E p m meth c cc nL ret s args own) (hs0 : Dr s0 s) (hG : GS E σ s.heap H locs) (hL : lay 10 k) (w1 : Cond.methodLink own index yX10_meanStrength ∈ lw_tbl) (hR : 4 + 1 ≤ R.frames ∧ 8 + (2 + 11) + 40 * 4 ≤ R.locals) (hls : ls.size = nL) (hW : (rest.map fun v => v.category).sum ≤ 8) (hcs : cells + 0 ≤ R.cells ∧ slots + 0 ≤ R.slots) (hdg : decode cc pc = .ok (.invokevirtual index, 3)) (hM : bcall (M_X10_meanStrength σ k) K = some z)
    (kk : ∀ (σ1 : St) (r : UInt32) (s1 : State) (H1 : Heap) (locs1 : List Loc) (v : UInt32), Bx E p m meth c cc nL ret s1 args own → Dr s0 s1 → GS E σ1 s1.heap H1 locs1 → alike32 v r = true → K σ1 r = some z → W p l e R s1 m args below meth c H1 locs1 cells slots Q (F0 m (pc + 3) ls (.float v :: rest))) : W p l e R s m args below meth c H locs cells slots Q (F0 m pc ls (.ref (E.1 k) :: rest)) := by
  obtain ⟨d, rfl, hd⟩ := hs0
  have X0 := X
  obtain ⟨⟨⟨hx, hb, hml, hown, hts⟩, hK, hNW, hXW⟩, hrt, hlk⟩ := X
  cases ho : M_X10_meanStrength σ k with
  | none => rw [ho] at hM; cases hM
  | some q =>
    rw [ho] at hM
    obtain ⟨σ1, r⟩ := q
    have hC := C_X10_meanStrength l E ho hL
    refine va_callfD hd (va_runV_D (As := []) (rest := rest) ⟨hx, hb, hml, hown, hts⟩ hC (cwV 0 hts (fun w hw => (List.mem_append.mp hw).elim (fun h => by rcases List.mem_cons.mp h with rfl | h; exact ⟨gw_in w1 rfl, good_of_word rfl⟩; rcases List.mem_cons.mp h with rfl | h; exact ⟨gw_in mw1069 rfl, good_of_word rfl⟩; rcases List.mem_cons.mp h with rfl | h; exact ⟨gw_in mw1070 rfl, good_of_word rfl⟩; rcases List.mem_cons.mp h with rfl | h; exact ⟨gw_in mw12 rfl, good_of_word rfl⟩; cases h) (gw_ok mw1071 rfl w)) rfl rfl rfl ⟨rfl, by decide +kernel⟩ (show 4 + 1 ≤ R.frames ∧ 8 + (2 + 11) + 40 * 4 ≤ R.locals from ⟨by omega, by omega⟩)) ⟨GB_blind, GB_recv hK hG hL rfl, GB_pre hK hNW hXW hG _⟩ rfl rfl hls rfl (lv_room hW) hdg hcs) hG.2.2 (fun q _ h => h) (fun q h => h) (fun v u t H1 locs1 ht hvm hw hB hz1 hk1 hS1 d1 hd1 => ?_)
    obtain ⟨hal, rfl⟩ := hw
    exact kk _ r (s0.setDrawn d1) H1 locs1 v ⟨(show Cx E p m c cc nL ((s0.setDrawn d).setDrawn d1) args own from cx_drawn d1 X0.1), hrt, hlk⟩ ⟨d1, rfl, hd1⟩ ⟨by rw [← ht]; exact hB.1, hB.2.2.1, hS1⟩ hal hM
theorem Mi_ofF {l : Launch} {E : Ev} {y : MethodName} {cc : ByteArray} {nL d : Nat} {ret : Option FieldType} {av : List Value} {σ : St} {C : String} (hC : y.cls = C) (hy : plainFor y = true) (hn : (lg_sl av).length ≤ nL) {z : St × Int32}
    (body : ∀ (p : Program) (e : Env) (s : State) (m : MethodId) (below : List Frame) (meth : Method) (c : Code) (ls : Array Slot), Bx E p m meth c cc nL ret s av.toArray C → GS E σ s.heap s.heap [] → lv_has ls nL (lv_args 0 av) → W p l e (rmd d) s m av.toArray below meth c s.heap [] 0 0 (QI E z below av.toArray s) (F0 m 0 ls [])) : Mi l E y cc nL ret d av σ z.1 z.2 := by
  unfold Mi
  refine MetFree.of_bodySF (code := cc) (maxLocals := nL) (ret := ret) hy ?_ ?_
  · intro args s m h hn
    obtain ⟨meth, c, h1, h2, h3, h4, h5, h6, -, -⟩ := Cond.code_spec hn (atoms_spec (ws := wsM y cc nL ret) h _ List.mem_cons_self)
    exact ⟨meth, c, h1, h2, h3, h4, h5, h6⟩
  · intro p e s m args below meth c s₁ B hml hv _
    have hh0 : s₁.heap = s.heap := by rw [B.state]; rfl
    obtain ⟨rfl, hP, hK, hD, hNW, hXW⟩ := hv
    subst hC
    have hts := atoms_spec (ws := wsM y cc nL ret) B.pre
    have hl := lv_entry av (n := nL) hn
    have key := body p e s m below meth c _ ⟨⟨⟨B.exec, B.bytes, hml, findClass_of_methodNamed B.named, fun w hw => hts w (List.mem_cons_of_mem _ hw)⟩, hK, hNW, hXW⟩, B.returns, B.notSynchronized⟩ ⟨hP, hD, va_S.rf⟩ hl
    rw [← lg_entry_eq] at key
    obtain ⟨t, a1, o, b1, b2, b3⟩ := key s₁ hh0 (Stand.of_body B)
    exact ⟨t, o, a1, b1, b2, ⟨b3.1, b3.2⟩⟩
theorem Ml_of {l : Launch} {E : Ev} {y : MethodName} {cc : ByteArray} {nL d : Nat} {av : List Value} {σ : St} {C : String} (hC : y.cls = C) (hy : plainName y.cls = true) (hn : (lg_sl av).length ≤ nL) {z : St × Int64}
    (body : ∀ (p : Program) (e : Env) (s : State) (m : MethodId) (below : List Frame) (meth : Method) (c : Code) (ls : Array Slot), Bx E p m meth c cc nL (some .long) s av.toArray C → GS E σ s.heap s.heap [] → lv_has ls nL (lv_args 0 av) → W p l e (rmd d) s m av.toArray below meth c s.heap [] 0 0 (QL E z below av.toArray s) (F0 m 0 ls [])) : Ml l E y cc nL d av σ z.1 z.2 := by
  refine Met.ofW (cc := cc) (maxL := nL) (ret := some .long) hy rfl ?_
  intro p e s m args below meth c s₁ B hml hv
  obtain ⟨rfl, hP, hK, hD, hNW, hXW⟩ := hv
  subst hC
  have hts := atoms_spec (ws := wsM y cc nL (some .long)) B.pre
  have hl := lv_entry av (n := nL) hn
  have key := body p e s m below meth c _ ⟨⟨⟨B.exec, B.bytes, hml, findClass_of_methodNamed B.named, fun w hw => hts w (List.mem_cons_of_mem _ hw)⟩, hK, hNW, hXW⟩, B.returns, B.notSynchronized⟩ ⟨hP, hD, va_S.rf⟩ hl
  rw [lg_entry_eq]
  exact key
theorem MlD_of {l : Launch} {E : Ev} {y : MethodName} {cc : ByteArray} {nL d : Nat} {av : List Value} {σ : St} {C : String} (hC : y.cls = C) (hy : plainName y.cls = true) (hn : (lg_sl av).length ≤ nL) {z : St × Int64}
    (body : ∀ (p : Program) (e : Env) (s0 s : State) (m : MethodId) (below : List Frame) (meth : Method) (c : Code) (ls : Array Slot), Bx E p m meth c cc nL (some .long) s av.toArray C → Dr s0 s → GS E σ s.heap s.heap [] → lv_has ls nL (lv_args 0 av) → W p l e (rmd d) s m av.toArray below meth c s.heap [] 0 0 (QLD E z below av.toArray s0) (F0 m 0 ls [])) : MlD l E y cc nL d av σ z.1 z.2 := by
  refine MetD.ofW (cc := cc) (maxL := nL) (ret := some .long) hy rfl ?_
  intro p e s m args below meth c s₁ B hml hv hd0
  obtain ⟨rfl, hP, hK, hD, hNW, hXW⟩ := hv
  subst hC
  have hts := atoms_spec (ws := wsM y cc nL (some .long)) B.pre
  have hl := lv_entry av (n := nL) hn
  have X0 : Bx E p m meth c cc nL (some .long) s av.toArray y.cls := ⟨⟨⟨B.exec, B.bytes, hml, findClass_of_methodNamed B.named, fun w hw => hts w (List.mem_cons_of_mem _ hw)⟩, hK, hNW, hXW⟩, B.returns, B.notSynchronized⟩
  have key := body p e s (s.setDrawn s.drawn) m below meth c _ ⟨cx_drawn s.drawn X0.1, X0.2⟩ ⟨s.drawn, rfl, hd0⟩ ⟨hP, hD, va_S.rf⟩ hl
  rw [lg_entry_eq]
  exact key
set_option maxRecDepth 20000 in
set_option maxHeartbeats 4000000 in
theorem C_Jxe99ae_isNaN_b9ae7 (l : Launch) (E : Ev) {σ : St} (x : UInt64) : Mi l E yJxe99ae_isNaN_b9ae7 cJxe99ae_isNaN_b9ae7 2 (some .boolean) 1 [.double x] σ σ (if Op.cmpValue (FP.dcmp x x) CmpOp.l = 0 then 0 else 1) := by
  refine Mi_of (C := RJxe99ae) rfl (by decide) (Nat.le_of_ble_eq_true rfl) (z := (σ, if Op.cmpValue (FP.dcmp x x) CmpOp.l = 0 then 0 else 1)) (fun p e s m below meth c ls X hG hl => ?_)
  have hx := X.1.1.1
  have hb := X.1.1.2.1
  have hl : lv_has ls 2 [(0, .double x)] := hl
  refine lv_dload_n hx hb dJxe99ae_isNaN_b9ae7_0 rfl (lv_at hl 0 rfl) ?_
  refine lv_dload_n hx hb dJxe99ae_isNaN_b9ae7_1 rfl (lv_at hl 0 rfl) ?_
  refine lv_dcmp hx hb dJxe99ae_isNaN_b9ae7_2 ?_
  refine lv_if_eq (tgt := 10) hx hb dJxe99ae_isNaN_b9ae7_3 (by decide) (fun c1 => ?_) (fun c1 => ?_)
  · refine lv_iconst (v := (0 : Int32)) hx hb dJxe99ae_isNaN_b9ae7_10 (by decide) ?_
    exact e_zret X hG (by decide) dJxe99ae_isNaN_b9ae7_11 (by rw [if_pos c1])
  · refine lv_iconst (v := (1 : Int32)) hx hb dJxe99ae_isNaN_b9ae7_6 (by decide) ?_
    refine lv_goto (tgt := 11) hx hb dJxe99ae_isNaN_b9ae7_7 (by decide) ?_
    exact e_zret X hG (by decide) dJxe99ae_isNaN_b9ae7_11 (by rw [if_neg c1])
set_option maxRecDepth 20000 in
set_option maxHeartbeats 4000000 in
theorem C_Jxf58ca_isNaN_12338 (l : Launch) (E : Ev) {σ : St} (x : UInt32) : Mi l E yJxf58ca_isNaN_12338 cJxf58ca_isNaN_12338 1 (some .boolean) 1 [.float x] σ σ (if Op.cmpValue (FP.fcmp x x) CmpOp.l = 0 then 0 else 1) := by
  refine Mi_ofF (C := RJxf58ca) rfl (by decide +kernel) (Nat.le_of_ble_eq_true rfl) (z := (σ, if Op.cmpValue (FP.fcmp x x) CmpOp.l = 0 then 0 else 1)) (fun p e s m below meth c ls X hG hl => ?_)
  have hx := X.1.1.1
  have hb := X.1.1.2.1
  have hl : lv_has ls 1 [(0, .float x)] := hl
  refine lv_fload_n hx hb dJxf58ca_isNaN_12338_0 rfl (lv_at hl 0 rfl) ?_
  refine lv_fload_n hx hb dJxf58ca_isNaN_12338_1 rfl (lv_at hl 0 rfl) ?_
  refine lv_fcmp hx hb dJxf58ca_isNaN_12338_2 ?_
  refine lv_if_eq (tgt := 10) hx hb dJxf58ca_isNaN_12338_3 (by decide) (fun c1 => ?_) (fun c1 => ?_)
  · refine lv_iconst (v := (0 : Int32)) hx hb dJxf58ca_isNaN_12338_10 (by decide) ?_
    exact e_zret X hG (by decide) dJxf58ca_isNaN_12338_11 (by rw [if_pos c1])
  · refine lv_iconst (v := (1 : Int32)) hx hb dJxf58ca_isNaN_12338_6 (by decide) ?_
    refine lv_goto (tgt := 11) hx hb dJxf58ca_isNaN_12338_7 (by decide) ?_
    exact e_zret X hG (by decide) dJxf58ca_isNaN_12338_11 (by rw [if_neg c1])
end GLR
set_option maxRecDepth 20000 in
set_option maxHeartbeats 4000000 in
theorem C_Jxe99ae_doubleToLongBits_ccdee (l : Launch) (E : Ev) {σ : St} (x : UInt64) : Ml l E yJxe99ae_doubleToLongBits_ccdee cJxe99ae_doubleToLongBits_ccdee 2 2 [.double x] σ σ (dlB x) := by
  refine Ml_of (C := RJxe99ae) rfl (by decide) (Nat.le_of_ble_eq_true rfl) (z := (σ, dlB x)) (fun p e s m below meth c ls X hG hl => ?_)
  have hx := X.1.1.1
  have hb := X.1.1.2.1
  have hl : lv_has ls 2 [(0, .double x)] := hl
  have hml := X.1.1.2.2.1
  have hown := X.1.1.2.2.2.1
  have hts := X.1.1.2.2.2.2
  refine lv_dload_n hx hb dJxe99ae_doubleToLongBits_ccdee_0 rfl (lv_at hl 0 rfl) ?_
  refine g_callS_i (nA := 1) (K := fun σ1 r1 => some (σ1, r1)) (z := (σ, if Op.cmpValue (FP.dcmp x x) CmpOp.l = 0 then (0 : Int32) else 1)) (o := some (σ, if Op.cmpValue (FP.dcmp x x) CmpOp.l = 0 then (0 : Int32) else 1)) (As := [.double x]) X.1 hG (fun σ' r h => by cases h; exact C_Jxe99ae_isNaN_b9ae7 l E x) mw1061 mw1062 mw30 (gw_ok mw1063 rfl) (by decide +kernel) rfl ⟨Nat.le_of_ble_eq_true rfl, Nat.le_of_ble_eq_true rfl⟩ hl.1 rfl (Nat.le_of_ble_eq_true rfl) ⟨Nat.le_refl _, Nat.le_refl _⟩ dJxe99ae_doubleToLongBits_ccdee_1 rfl (fun σ1 r1 H locs hG hM => ?_)
  obtain ⟨e91, e92⟩ := Prod.mk.inj (Option.some.inj hM)
  rw [e91] at hG
  rw [e92]
  refine lv_if_ne (tgt := 12) hx hb dJxe99ae_doubleToLongBits_ccdee_4 (by decide) (fun c1 => ?_) (fun c1 => ?_)
  · have c2 : ¬ Op.cmpValue (FP.dcmp x x) CmpOp.l = 0 := fun q => c1 (if_pos q)
    refine lv_ldc2 (v := 9221120237041090560) hx hb hown (hts _ (gw_in mw1067 rfl)) dJxe99ae_doubleToLongBits_ccdee_12 ?_
    exact e_lret X hG dJxe99ae_doubleToLongBits_ccdee_15 (by show some _ = some (σ, dlB x); unfold dlB; rw [if_neg c2])
  · have c2 : Op.cmpValue (FP.dcmp x x) CmpOp.l = 0 := by
      by_cases q : Op.cmpValue (FP.dcmp x x) CmpOp.l = 0
      · exact q
      · rw [if_neg q] at c1; exact absurd c1 (by decide)
    refine lv_dload_n hx hb dJxe99ae_doubleToLongBits_ccdee_7 rfl (lv_at hl 0 rfl) ?_
    refine vn_d2l hx hb (hml.trans hl.1.symm) hown (hts _ (gw_in mw1064 rfl)) (hts _ (gw_in mw1066 rfl)) (hts _ (gw_in mw1065 rfl)) (hts _ (gw_in mw30 rfl)) (Nat.le_of_ble_eq_true rfl) (Nat.le_of_ble_eq_true rfl) dJxe99ae_doubleToLongBits_ccdee_8 ?_
    exact e_lret X hG dJxe99ae_doubleToLongBits_ccdee_11 (by show some _ = some (σ, dlB x); unfold dlB; rw [if_pos c2])
set_option maxRecDepth 20000 in
set_option maxHeartbeats 4000000 in
theorem C_Jxf58ca_floatToIntBits_5c35a (l : Launch) (E : Ev) {σ : St} (x : UInt32) : Mi l E yJxf58ca_floatToIntBits_5c35a cJxf58ca_floatToIntBits_5c35a 1 (some .int) 2 [.float x] σ σ (flB x) := by
  refine Mi_ofF (C := RJxf58ca) rfl (by decide +kernel) (Nat.le_of_ble_eq_true rfl) (z := (σ, flB x)) (fun p e s m below meth c ls X hG hl => ?_)
  have hx := X.1.1.1
  have hb := X.1.1.2.1
  have hl : lv_has ls 1 [(0, .float x)] := hl
  have hml := X.1.1.2.2.1
  have hown := X.1.1.2.2.2.1
  have hts := X.1.1.2.2.2.2
  refine lv_fload_n hx hb dJxf58ca_floatToIntBits_5c35a_0 rfl (lv_at hl 0 rfl) ?_
  refine g_callS_i (nA := 1) (K := fun σ1 r1 => some (σ1, r1)) (z := (σ, if Op.cmpValue (FP.fcmp x x) CmpOp.l = 0 then (0 : Int32) else 1)) (o := some (σ, if Op.cmpValue (FP.fcmp x x) CmpOp.l = 0 then (0 : Int32) else 1)) (As := [.float x]) X.1 hG (fun σ' r h => by cases h; exact C_Jxf58ca_isNaN_12338 l E x) mw1079 mw1080 mw31 (gw_ok mw1081 rfl) (by decide +kernel) rfl ⟨Nat.le_of_ble_eq_true rfl, Nat.le_of_ble_eq_true rfl⟩ hl.1 rfl (Nat.le_of_ble_eq_true rfl) ⟨Nat.le_refl _, Nat.le_refl _⟩ dJxf58ca_floatToIntBits_5c35a_1 rfl (fun σ1 r1 H locs hG hM => ?_)
  obtain ⟨e91, e92⟩ := Prod.mk.inj (Option.some.inj hM)
  rw [e91] at hG
  rw [e92]
  refine lv_if_ne (tgt := 12) hx hb dJxf58ca_floatToIntBits_5c35a_4 (by decide) (fun c1 => ?_) (fun c1 => ?_)
  · have c2 : ¬ Op.cmpValue (FP.fcmp x x) CmpOp.l = 0 := fun q => c1 (if_pos q)
    refine lv_ldc (v := 2143289344) hx hb hown (hts _ (gw_in mw1085 rfl)) dJxf58ca_floatToIntBits_5c35a_12 ?_
    exact e_iret X hG dJxf58ca_floatToIntBits_5c35a_14 (by show some _ = some (σ, flB x); unfold flB; rw [if_neg c2])
  · have c2 : Op.cmpValue (FP.fcmp x x) CmpOp.l = 0 := by
      by_cases q : Op.cmpValue (FP.fcmp x x) CmpOp.l = 0
      · exact q
      · rw [if_neg q] at c1; exact absurd c1 (by decide)
    refine lv_fload_n hx hb dJxf58ca_floatToIntBits_5c35a_7 rfl (lv_at hl 0 rfl) ?_
    refine vn_f2i hx hb (hml.trans hl.1.symm) hown (hts _ (gw_in mw1082 rfl)) (hts _ (gw_in mw1084 rfl)) (hts _ (gw_in mw1083 rfl)) (hts _ (gw_in mw31 rfl)) (Nat.le_of_ble_eq_true rfl) (Nat.le_of_ble_eq_true rfl) dJxf58ca_floatToIntBits_5c35a_8 ?_
    exact e_iret X hG dJxf58ca_floatToIntBits_5c35a_11 (by show some _ = some (σ, flB x); unfold flB; rw [if_pos c2])
