section GLU
variable {p : Program} {l : Launch} {e : Env} {R : Room} {s s0 : State} {m : MethodId} {args : Array Value} {below : List Frame} {meth : Method} {c : Code} {H H0 : Heap} {locs : List Loc} {cells slots : Nat} {Q : State → Prop} {cc : ByteArray} {pc : Nat} {ls : Array Slot} {rest : List Value} {nL : Nat} {own : String} {E : Ev} {σ : St} {ret : Option FieldType}
theorem a_are {α : Type} {K : St → Int32 → Option α} {z : α} {index k q n : Nat} {f : Nat → Int32} (X : Cx E p m c cc nL s args own) (hG : AR E σ q n f s.heap H locs) (hL : lay 10 k) (w1 : Cond.methodLink own index yL_are ∈ lw_tbl) (hR : 4 + 1 ≤ R.frames ∧ 8 + (3 + 11) + 40 * 4 ≤ R.locals) (hls : ls.size = nL) (hW : (rest.map fun v => v.category).sum ≤ 8) (hcs : cells + 0 ≤ R.cells ∧ slots + 0 ≤ R.slots) (hdg : decode cc pc = .ok (.invokestatic index, 3)) (hM : bcall (M_L_are σ k (n, f)) K = some z)
    (kk : ∀ (σ1 : St) (r : Int32) (H1 : Heap) (locs1 : List Loc), GS E σ1 s.heap H1 locs1 → K σ1 r = some z → W p l e R s m args below meth c H1 locs1 cells slots Q (F0 m (pc + 3) ls (.int r :: rest))) : W p l e R s m args below meth c H locs cells slots Q (F0 m pc ls (.ref q :: .ref (E.1 k) :: rest)) := by
  obtain ⟨⟨hx, hb, hml, hown, hts⟩, hK, hNW, hXW⟩ := X
  cases ho : M_L_are σ k (n, f) with
  | none => rw [ho] at hM; cases hM
  | some q1 =>
    rw [ho] at hM
    obtain ⟨σ1, r⟩ := q1
    have hC := C_L_are l (eA E q n f) (jx := nX E) ho hL ⟨Nat.lt_succ_self (nX E), by show (if nX E = nX E then _ else _ : Nat × (Nat × (Nat → Int32))).2 = _; rw [if_pos rfl]⟩
    have e2 : (eX (eA E q n f) (nX E)).1 = q := by show (if nX E = nX E then _ else _ : Nat × (Nat × (Nat → Int32))).1 = _; rw [if_pos rfl]
    rw [e2] at hC
    have hGS := hG.GS
    refine va_calli (va_runS (As := [.ref (E.1 k), .ref q]) (rest := rest) ⟨hx, hb, hml, hown, hts⟩ hC ⟨callB_of 2 hts (gw_ok mw1014 rfl) rfl rfl rfl (hts _ (gw_in mw11 rfl)) (hts _ (gw_in w1 rfl)) (by decide +kernel) hR, hts _ (gw_in mw1013 rfl)⟩ ⟨GB_blind, fun U hU hW2 => ⟨rfl, by rw [hU]; exact hGS.1, va_K.moved hW2.alike hK, ⟨hGS.2.1.1, fun i x hi => ⟨hGS.2.1.2 i x hi, hG.ne hi⟩⟩, NW.warm hW2 hNW, XW.warm hW2 (by rw [hU]; exact hG.X hK hXW)⟩⟩ rfl rfl hls rfl (lv_room hW) hdg hcs) hG.2.2 (fun z _ h => h.1) (fun z h => h.1) (fun r1 u t H1 locs1 ht hvm hw hB hz1 hk1 hS1 => ?_)
    obtain ⟨rfl, rfl⟩ := hw
    exact kk _ _ H1 locs1 ⟨by rw [← ht]; exact hB.1, ⟨hB.2.2.1.1, fun i x hi => (hB.2.2.1.2 i x hi).1⟩, hS1⟩ hM
theorem g_callAsk {α : Type} {K : St → Int64 → Option α} {z : α} {index k : Nat} (X : Bx E p m meth c cc nL ret s args own) (hs0 : Dr s0 s) (hAn : ∀ q, s.heap.size ≤ q → AE E q) (hG : GS E σ s.heap H locs) (hL : lay 10 k) (w1 : Cond.methodLink own index yL_asks ∈ lw_tbl) (hR : 7 + 1 ≤ R.frames ∧ 8 + (5 + 11) + 40 * 7 ≤ R.locals) (hls : ls.size = nL) (hW : (rest.map fun v => v.category).sum ≤ 8) (hcs : cells + 0 ≤ R.cells ∧ slots + 0 ≤ R.slots) (hdg : decode cc pc = .ok (.invokestatic index, 3)) (hM : bcall (M_L_asks σ k) K = some z)
    (kk : ∀ (σ1 : St) (r : Int64) (s1 : State) (H1 : Heap) (locs1 : List Loc), Bx E p m meth c cc nL ret s1 args own → Dr s0 s1 → (∀ q, s1.heap.size ≤ q → AE E q) → GS E σ1 s1.heap H1 locs1 → K σ1 r = some z → W p l e R s1 m args below meth c H1 locs1 cells slots Q (F0 m (pc + 3) ls (.long r :: rest))) : W p l e R s m args below meth c H locs cells slots Q (F0 m pc ls (.ref (E.1 k) :: rest)) := by
  obtain ⟨d, rfl, hd⟩ := hs0
  have X0 := X
  obtain ⟨⟨⟨hx, hb, hml, hown, hts⟩, hK, hNW, hXW⟩, hrt, hlk⟩ := X
  cases ho : M_L_asks σ k with
  | none => rw [ho] at hM; cases hM
  | some q1 =>
    rw [ho] at hM
    obtain ⟨σ1, r⟩ := q1
    have hC := C_L_asks l E ho hL
    refine va_calllD hd (va_runS_D (As := [.ref (E.1 k)]) (rest := rest) ⟨hx, hb, hml, hown, hts⟩ hC ⟨callB_of 1 hts (gw_ok mw1056 rfl) rfl rfl rfl (hts _ (gw_in mw11 rfl)) (hts _ (gw_in w1 rfl)) (by decide +kernel) hR, hts _ (gw_in mw1055 rfl)⟩ ⟨GB_blind, GB_pre hK hNW hXW hG _⟩ rfl rfl hls rfl (lv_room hW) hdg hcs) hG.2.2 (fun z _ h => h) (fun z h => h) (fun v u t H1 locs1 ht hvm hw hB hz1 hk1 hS1 d1 hd1 => ?_)
    obtain ⟨rfl, rfl⟩ := hw
    exact kk _ _ (s0.setDrawn d1) H1 locs1 ⟨(show Cx E p m c cc nL ((s0.setDrawn d).setDrawn d1) args own from cx_drawn d1 X0.1), hrt, hlk⟩ ⟨d1, rfl, hd1⟩ hAn ⟨by rw [← ht]; exact hB.1, hB.2.2.1, hS1⟩ hM
theorem MzD_of {y : MethodName} {d mc ms : Nat} {av : List Value} {C : String} (hC : y.cls = C) (hy : plainName y.cls = true) (hn : (lg_sl av).length ≤ nL) {z : St × Int32}
    (body : ∀ (p : Program) (e : Env) (s0 s : State) (m : MethodId) (below : List Frame) (meth : Method) (c : Code) (ls : Array Slot), Bx E p m meth c cc nL (some .boolean) s av.toArray C → Dr s0 s → (∀ q, s.heap.size ≤ q → AE E q) → GS E σ s.heap s.heap [] → lv_has ls nL (lv_args 0 av) → W p l e (rmA d mc ms) s m av.toArray below meth c s.heap [] 0 0 (QZD E z below av.toArray s0 mc ms) (F0 m 0 ls [])) : MzD l E y cc nL d mc ms av σ z.1 z.2 := by
  refine MetD.ofW (cc := cc) (maxL := nL) (ret := some .boolean) hy rfl ?_
  intro p e s m args below meth c s₁ B hml hv hd0
  obtain ⟨rfl, ⟨hP, hK, hD, hNW, hXW⟩, hAn⟩ := hv
  subst hC
  have hts := atoms_spec (ws := wsM y cc nL (some .boolean)) B.pre
  have hl := lv_entry av (n := nL) hn
  have X0 : Bx E p m meth c cc nL (some .boolean) s av.toArray y.cls := ⟨⟨⟨B.exec, B.bytes, hml, findClass_of_methodNamed B.named, fun w hw => hts w (List.mem_cons_of_mem _ hw)⟩, hK, hNW, hXW⟩, B.returns, B.notSynchronized⟩
  have key := body p e s (s.setDrawn s.drawn) m below meth c _ ⟨cx_drawn s.drawn X0.1, X0.2⟩ ⟨s.drawn, rfl, hd0⟩ hAn ⟨hP, hD, va_S.rf⟩ hl
  rw [lg_entry_eq]
  exact key
theorem Mim_of {y : MethodName} {d mc ms : Nat} {av : List Value} {C : String} (hC : y.cls = C) (hy : plainName y.cls = true) (hn : (lg_sl av).length ≤ nL) {z : St × Int32}
    (body : ∀ (p : Program) (e : Env) (s : State) (m : MethodId) (below : List Frame) (meth : Method) (c : Code) (ls : Array Slot), Bx E p m meth c cc nL ret s av.toArray C → (∀ q, s.heap.size ≤ q → AE E q) → GS E σ s.heap s.heap [] → lv_has ls nL (lv_args 0 av) → W p l e (rmA d mc ms) s m av.toArray below meth c s.heap [] 0 0 (QIm E z below av.toArray s mc ms) (F0 m 0 ls [])) : Mim l E y cc nL ret d mc ms av σ z.1 z.2 := by
  refine Met.ofW (cc := cc) (maxL := nL) (ret := ret) hy rfl ?_
  intro p e s m args below meth c s₁ B hml hv
  obtain ⟨rfl, ⟨hP, hK, hD, hNW, hXW⟩, hAn⟩ := hv
  subst hC
  have hts := atoms_spec (ws := wsM y cc nL ret) B.pre
  have hl := lv_entry av (n := nL) hn
  have key := body p e s m below meth c _ ⟨⟨⟨B.exec, B.bytes, hml, findClass_of_methodNamed B.named, fun w hw => hts w (List.mem_cons_of_mem _ hw)⟩, hK, hNW, hXW⟩, B.returns, B.notSynchronized⟩ hAn ⟨hP, hD, va_S.rf⟩ hl
  rw [lg_entry_eq]
  exact key
end GLU
