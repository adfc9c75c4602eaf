def dflt (ci : Nat) : List Value := match ci with
  | 0 => [.null, .null, .int 0]
  | 1 => [.null, .null, .null, .int 0]
  | 2 => [.null, .null, .int 0, .int 0]
  | 3 => [.null, .null, .int 0]
  | 4 => [.null, .int 0]
  | 5 => [.null, .null, .int 0, .int 0]
  | 6 => [.null, .null, .int 0]
  | 7 => [.null, .null, .null, .null, .int 0, .int 0, .int 0, .int 0, .int 0, .int 0, .int 0, .int 0, .int 0, .int 0]
  | 8 => [.null, .null]
  | 9 => [.null, .null, .null, .null, .null, .null, .int 0]
  | 10 => [.null, .null, .null, .null, .null, .null, .null, .null, .int 0, .int 0]
  | _ => [.null, .int 0, .int 0, .int 0]
/-- what the slots hold when all is made (of the reference: behind begins) -/
def iniK (k : Nat) : Nat → Int32 := if k = 249 then (fun j => if j = 6 then 60 else if j = 7 then 20 else 0) else if kd k = 7 then (fun j => if j = 6 then 60 else if j = 7 then 20 else 0) else if kd k = 10 then (fun j => if j = 9 then (-4) else 0) else if kd k = 11 then (fun j => if j = 14 then (-4) else 0) else (fun _ => 0)
def bE (E : Ev) (bs : Nat → Nat) (x : Nat) : Ev := (fun j => bs (j - x), E.2)
def blk (E : Ev) (bs : Nat → Nat) (x ci : Nat) : va_W := (List.range (szc ci)).map (fun r => (bs r, cellW (bE E bs x) (x + r) (iniK (x + r))))
def WC (E : Ev) (A : Nat → Prop) (ws : va_W) (H0 H : Heap) (locs : List Loc) : Prop := va_P E.2.1 vwCl ws H ∧ va_D A ws ∧ va_S A H0 H locs
def rmc (d mc ms : Nat) : Room := { frames := d, cells := mc, slots := ms, locals := 40 * d }
abbrev SCF : String := "BambooTower$Scaffold"
def Mc (l : Launch) (E : Ev) (y : MethodName) (cc : ByteArray) (nL d mc ms x ci h sz : Nat) (av : List Value) : Prop := Met l y (wsM y cc nL none) (rmc d mc ms) (va_Pc (.ref h :: av) (fun U => U.heap.size = sz ∧ va_P E.2.1 vwCl [(h, .inr (ci, dflt ci))] U.heap ∧ va_K E.2.1 vwCl (tysE E) U ∧ va_D (fun _ => True) [(h, .inr (ci, dflt ci))] ∧ NW U ∧ va_AO SCF U)) (va_Qv (fun bs : Nat → Nat => bs 0 = h) (fun bs t => va_P E.2.1 vwCl (blk E bs x ci) t.heap ∧ va_D (va_A [(h, .inr (ci, dflt ci))] sz) (blk E bs x ci)) (va_A [(h, .inr (ci, dflt ci))] sz)) mc ms (va_A [(h, .inr (ci, dflt ci))] sz)
def QC (E : Ev) (x ci h sz mc ms : Nat) (below : List Frame) (args : Array Value) (s : State) : State → Prop := MQ below (va_Qv (fun bs : Nat → Nat => bs 0 = h) (fun bs t => va_P E.2.1 vwCl (blk E bs x ci) t.heap ∧ va_D (va_A [(h, .inr (ci, dflt ci))] sz) (blk E bs x ci)) (va_A [(h, .inr (ci, dflt ci))] sz)) args s mc ms (va_A [(h, .inr (ci, dflt ci))] sz)
def CxC (E : Ev) (A : Nat → Prop) (p : Program) (m : MethodId) (meth : Method) (c : Code) (cc : ByteArray) (nL : Nat) (s : State) (args : Array Value) (own : String) : Prop := CallFix p m c cc nL s args (lw_tbl.filter goodWord) own ∧ va_K E.2.1 vwCl (tysE E) s ∧ NW s ∧ va_AO SCF s ∧ (∀ q, s.heap.size ≤ q → A q) ∧ meth.sig.returnType = none ∧ meth.locks = false ∧ meth.name = "<init>"
theorem va_P_left {D : va_G} {cl : List vw_C} {w1 w2 : va_W} {H : Heap} (h : va_P D cl (w1 ++ w2) H) : va_P D cl w1 H := fun k q hk => h k q (by rw [List.getElem?_append_left (List.getElem?_eq_some_iff.mp hk).1]; exact hk)
theorem va_P_right {D : va_G} {cl : List vw_C} {w1 w2 : va_W} {H : Heap} (h : va_P D cl (w1 ++ w2) H) : va_P D cl w2 H := fun k q hk => h (w1.length + k) q (by rw [List.getElem?_append_right (Nat.le_add_right _ _), Nat.add_sub_cancel_left]; exact hk)
theorem va_D_left {A : Nat → Prop} {w1 w2 : va_W} (h : va_D A (w1 ++ w2)) : va_D A w1 := by
  have e : ∀ (k : Nat) (q : Nat × va_E), w1[k]? = some q → (w1 ++ w2)[k]? = some q := fun k q hk => by rw [List.getElem?_append_left (List.getElem?_eq_some_iff.mp hk).1]; exact hk
  exact ⟨fun i j p q hi hj hpq => h.1 i j p q (e _ _ hi) (e _ _ hj) hpq, fun k q hk => h.2 k q (e _ _ hk)⟩
section GC
variable {p : Program} {l : Launch} {e : Env} {R : Room} {s : State} {m : MethodId} {args : Array Value} {below : List Frame} {meth : Method} {c : Code} {H : Heap} {locs : List Loc} {cells slots : Nat} {Q : State → Prop} {cc : ByteArray} {pc : Nat} {ls : Array Slot} {rest : List Value} {nL : Nat} {own : String} {E : Ev} {A : Nat → Prop} {ws : va_W}
theorem n_obj (X : CxC E A p m meth c cc nL s args own) (hls : ls.size = nL) {idx : Nat} (w1 : Cond.methodLink own idx objectInit ∈ lw_tbl) {a : Addr} (hdg : decode cc pc = .ok (.invokespecial idx, 3)) (hfr : 1 ≤ R.frames) (hlo : 2 * (F0 m pc ls (.ref a :: rest)).monitorRoom + (rest.map fun v => v.category).sum + 12 ≤ R.locals)
    (kk : W p l e R s m args below meth c H locs cells slots Q (F0 m (pc + 3) ls rest)) : W p l e R s m args below meth c H locs cells slots Q (F0 m pc ls (.ref a :: rest)) := by
  obtain ⟨⟨hx, hb, hml, hown, hts⟩, hK, hNW, hAO, hA, hr, hlk, hin⟩ := X
  exact W.objInit hx hb hown (hts _ (gw_in w1 rfl)) (hts _ (gw_in mw42 rfl)) (hts _ (gw_in mw43 rfl)) rfl (by rw [hml]; exact hls) rfl hdg hfr hlo kk
theorem n_int (X : CxC E A p m meth c cc nL s args own) (hW : WC E A ws s.heap H locs) {n : Int32} {N : Nat} (hn : ¬ n < 0) (hN : n.toNatClampNeg = N) (hby : N * componentBytes .int ≤ 536870912) (hc : cells + 1 ≤ R.cells) (hs : slots + N ≤ R.slots) (hdg : decode cc pc = .ok (.newarray .int, 2))
    (kk : ∀ (q : Nat) (H1 : Heap), WC E A (ws ++ [(q, .inl (E.2.2.2.1, N, .inl (fun _ => 0)))]) s.heap H1 locs → W p l e R s m args below meth c H1 locs (cells + 1) (slots + N) Q (F0 m (pc + 2) ls (.ref q :: rest))) : W p l e R s m args below meth c H locs cells slots Q (F0 m pc ls (.int n :: rest)) := by
  obtain ⟨⟨hx, hb, hml, hown, hts⟩, hK, hNW, hAO, hA, hr, hlk, hin⟩ := X
  refine va_newa (atype := .int) hx hb (hts _ (gw_in mw66 rfl)) (ty := .int) rfl hK hW.1 hW.2.1 hW.2.2 hA (a0 := (N, .inl (fun _ => 0))) (fun _ => rfl) hn hN hby hc hs hdg (fun q cA H1 hK1 hP hD hS => ?_)
  have e1 : cA = E.2.2.2.1 := by
    have a1 := (hK1.2 5 (cA, .int) rfl).2
    have a2 := (hK.2 1 (E.2.2.2.1, .int) rfl).2
    exact Option.some.inj (a1.symm.trans a2)
  subst e1
  exact kk q H1 ⟨hP, hD, hS⟩
theorem n_char (X : CxC E A p m meth c cc nL s args own) (hW : WC E A ws s.heap H locs) {n : Int32} {N : Nat} (hn : ¬ n < 0) (hN : n.toNatClampNeg = N) (hby : N * componentBytes .char ≤ 536870912) (hc : cells + 1 ≤ R.cells) (hs : slots + N ≤ R.slots) (hdg : decode cc pc = .ok (.newarray .char, 2))
    (kk : ∀ (q : Nat) (H1 : Heap), WC E A (ws ++ [(q, .inl (E.2.2.1, N, .inl (fun _ => 0)))]) s.heap H1 locs → W p l e R s m args below meth c H1 locs (cells + 1) (slots + N) Q (F0 m (pc + 2) ls (.ref q :: rest))) : W p l e R s m args below meth c H locs cells slots Q (F0 m pc ls (.int n :: rest)) := by
  obtain ⟨⟨hx, hb, hml, hown, hts⟩, hK, hNW, hAO, hA, hr, hlk, hin⟩ := X
  refine va_newa (atype := .char) hx hb (hts _ (gw_in mw278 rfl)) (ty := .char) rfl hK hW.1 hW.2.1 hW.2.2 hA (a0 := (N, .inl (fun _ => 0))) (fun _ => rfl) hn hN hby hc hs hdg (fun q cA H1 hK1 hP hD hS => ?_)
  have e1 : cA = E.2.2.1 := by
    have a1 := (hK1.2 5 (cA, .char) rfl).2
    have a2 := (hK.2 0 (E.2.2.1, .char) rfl).2
    exact Option.some.inj (a1.symm.trans a2)
  subst e1
  exact kk q H1 ⟨hP, hD, hS⟩
theorem n_sca (X : CxC E A p m meth c cc nL s args own) (hW : WC E A ws s.heap H locs) {n : Int32} {N : Nat} (hn : ¬ n < 0) (hN : n.toNatClampNeg = N) (hby : N * 4 ≤ 536870912) (hc : cells + 1 ≤ R.cells) (hs : slots + N ≤ R.slots) {index : Nat} (w1 : Cond.classLink own index SCF ∈ lw_tbl) (hdg : decode cc pc = .ok (.anewarray index, 3))
    (kk : ∀ (q : Nat) (H1 : Heap), WC E A (ws ++ [(q, .inl (E.2.2.2.2.1, N, .inr (.inr (.inr (.inr (fun _ => none))))))]) s.heap H1 locs → W p l e R s m args below meth c H1 locs (cells + 1) (slots + N) Q (F0 m (pc + 3) ls (.ref q :: rest))) : W p l e R s m args below meth c H locs cells slots Q (F0 m pc ls (.int n :: rest)) := by
  obtain ⟨⟨hx, hb, hml, hown, hts⟩, hK, hNW, hAO, hA, hr, hlk, hin⟩ := X
  refine va_newq hx hb hown (hts _ (gw_in w1 rfl)) hAO hK hW.1 hW.2.1 hW.2.2 hA hn hN hby hc hs hdg (fun q cA H1 hK1 hP hD hS => ?_)
  have e1 : cA = E.2.2.2.2.1 := by
    obtain ⟨kA, comp, b1, b2, b3, a1⟩ := (hK1.2 5 (cA, .object SCF) rfl).2
    obtain ⟨kA', comp', b1', b2', b3', a2⟩ := (hK.2 2 (E.2.2.2.2.1, .object SCF) rfl).2
    exact Option.some.inj (a1.symm.trans a2)
  subst e1
  exact kk q H1 ⟨hP, hD, hS⟩
theorem n_new (X : CxC E A p m meth c cc nL s args own) (hW : WC E A ws s.heap H locs) {cj : Nat} {C : String} {T : u_T} {N : Nat} (hcl : vwCl[cj]? = some (C, T, N)) (hin : ∀ w ∈ u_ws C T N, w ∈ lw_tbl.filter goodWord) (ty : Nat → FieldType) (hty : ∀ k, k < N → parseFieldDescriptor (T k).2.2.1 = some (ty k)) (hdf : ∀ j, j < N → defaultValue (ty j) = vp_V (dflt cj) j) {index : Nat} (w1 : Cond.classLink own index C ∈ lw_tbl) (w2 : Cond.instantiable C N ∈ lw_tbl) (w3 : Cond.initialized C ∈ lw_tbl) (hc : cells + 1 ≤ R.cells) (hs : slots + N ≤ R.slots) (hdg : decode cc pc = .ok (.new index, 3))
    (kk : ∀ (q : Nat) (H1 : Heap), WC E A (ws ++ [(q, .inr (cj, dflt cj))]) s.heap H1 locs → W p l e R s m args below meth c H1 locs (cells + 1) (slots + N) Q (F0 m (pc + 3) ls (.ref q :: rest))) : W p l e R s m args below meth c H locs cells slots Q (F0 m pc ls rest) := by
  obtain ⟨⟨hx, hb, hml, hown, hts⟩, hK, hNW, hAO, hA, hr, hlk, hin2⟩ := X
  exact va_new hx hb hts hin ty hty hown (hts _ (gw_in w1 rfl)) (hts _ (gw_in w2 rfl)) (hts _ (gw_in w3 rfl)) hK hW.1 hW.2.1 hW.2.2 hA hcl hdf hc hs hdg (fun q H1 a b d => kk q H1 ⟨a, b, d⟩)
theorem n_putF (X : CxC E A p m meth c cc nL s args own) {h : Nat} {ci : Nat} {fs : List Value} {Rl : va_W} (hW : WC E A ((h, .inr (ci, fs)) :: Rl) s.heap H locs) {T : u_T} {N : Nat} (hcl : vwCl[ci]? = some (own, T, N)) (hin : ∀ w ∈ u_ws own T N, w ∈ lw_tbl.filter goodWord) (ty0 : Nat → FieldType) (hty : ∀ k, k < N → parseFieldDescriptor (T k).2.2.1 = some (ty0 k)) (hnm : ∀ a, a < N → ∀ b, b < N → a ≠ b → (T a).2.1 ≠ (T b).2.1) (j : Nat) (hj : j < N) {index : Nat} (w1 : Cond.fieldLink own index (T j).1 (T j).2.1 (T j).2.2.1 ∈ lw_tbl) (hfin : (T j).2.2.2 = true) (hdecl : (T j).1 = own) {ty : FieldType} {v : Value} (hd : parseFieldDescriptor (T j).2.2.1 = some ty) (hn : narrow ty v = v) (hfit : fits ty v = true) (hl : j < fs.length) (hdg : decode cc pc = .ok (.putfield index, 3))
    (kk : ∀ (H1 : Heap) (locs1 : List Loc), WC E A ((h, .inr (ci, fs.set j v)) :: Rl) s.heap H1 locs1 → W p l e R s m args below meth c H1 locs1 cells slots Q (F0 m (pc + 3) ls rest)) : W p l e R s m args below meth c H locs cells slots Q (F0 m pc ls (v :: .ref h :: rest)) := by
  obtain ⟨⟨hx, hb, hml, hown, hts⟩, hK, hNW, hAO, hA, hr, hlk, hin2⟩ := X
  exact va_putF hx hb hts hin ty0 hty hnm hown hK hW.1 hW.2.1 hW.2.2 0 rfl hcl j hj (hts _ (gw_in w1 rfl)) (fun _ h => h) hfin hin2 hdecl hd hn hfit hl hdg (fun H1 locs1 a b d => kk H1 locs1 ⟨a, b, d⟩)
theorem n_put (X : CxC E A p m meth c cc nL s args own) {h : Nat} {ci : Nat} {fs : List Value} {Rl : va_W} (hW : WC E A ((h, .inr (ci, fs)) :: Rl) s.heap H locs) {T : u_T} {N : Nat} (hcl : vwCl[ci]? = some (own, T, N)) (hin : ∀ w ∈ u_ws own T N, w ∈ lw_tbl.filter goodWord) (ty0 : Nat → FieldType) (hty : ∀ k, k < N → parseFieldDescriptor (T k).2.2.1 = some (ty0 k)) (hnm : ∀ a, a < N → ∀ b, b < N → a ≠ b → (T a).2.1 ≠ (T b).2.1) (j : Nat) (hj : j < N) {index : Nat} (w1 : Cond.fieldLink own index (T j).1 (T j).2.1 (T j).2.2.1 ∈ lw_tbl) (hfin : (T j).2.2.2 = false) {ty : FieldType} {v : Value} (hd : parseFieldDescriptor (T j).2.2.1 = some ty) (hn : narrow ty v = v) (hfit : fits ty v = true) (hl : j < fs.length) (hdg : decode cc pc = .ok (.putfield index, 3))
    (kk : ∀ (H1 : Heap) (locs1 : List Loc), WC E A ((h, .inr (ci, fs.set j v)) :: Rl) s.heap H1 locs1 → W p l e R s m args below meth c H1 locs1 cells slots Q (F0 m (pc + 3) ls rest)) : W p l e R s m args below meth c H locs cells slots Q (F0 m pc ls (v :: .ref h :: rest)) := by
  obtain ⟨⟨hx, hb, hml, hown, hts⟩, hK, hNW, hAO, hA, hr, hlk, hin2⟩ := X
  exact va_put hx hb hts hin ty0 hty hnm hown hK hW.1 hW.2.1 hW.2.2 0 rfl hcl j hj (hts _ (gw_in w1 rfl)) (fun _ h => h) hfin hd hn hfit hl hdg (fun H1 locs1 a b d => kk H1 locs1 ⟨a, b, d⟩)
theorem n_get (X : CxC E A p m meth c cc nL s args own) (hW : WC E A ws s.heap H locs) (q0 : Nat) {a : Nat} {ci : Nat} {fs : List Value} (he : ws[q0]? = some (a, .inr (ci, fs))) {C : String} {T : u_T} {N : Nat} (hcl : vwCl[ci]? = some (C, T, N)) (hin : ∀ w ∈ u_ws C T N, w ∈ lw_tbl.filter goodWord) (j : Nat) (hj : j < N) {index : Nat} (w1 : Cond.fieldLink own index (T j).1 (T j).2.1 (T j).2.2.1 ∈ lw_tbl) {v : Value} (hv : fs[j]? = some v) (hdg : decode cc pc = .ok (.getfield index, 3))
    (kk : W p l e R s m args below meth c H locs cells slots Q (F0 m (pc + 3) ls (v :: rest))) : W p l e R s m args below meth c H locs cells slots Q (F0 m pc ls (.ref a :: rest)) := by
  obtain ⟨⟨hx, hb, hml, hown, hts⟩, hK, hNW, hAO, hA, hr, hlk, hin2⟩ := X
  exact va_get hx hb hts hin hown hK hW.1 q0 he hcl j hj (hts _ (gw_in w1 rfl)) (fun _ h => h) hv hdg kk
theorem n_getN (X : CxC E A p m meth c cc nL s args own) (hW : WC E A ws s.heap H locs) (q0 : Nat) {a : Nat} {ci : Nat} {fs : List Value} (he : ws[q0]? = some (a, .inr (ci, fs))) {C host : String} {T : u_T} {N : Nat} (hcl : vwCl[ci]? = some (C, T, N)) (hin : ∀ w ∈ u_ws C T N, w ∈ lw_tbl.filter goodWord) (j : Nat) (hj : j < N) {index : Nat} (w1 : Cond.fieldLinkNest own index (T j).1 (T j).2.1 (T j).2.2.1 host ∈ lw_tbl) {v : Value} (hv : fs[j]? = some v) (hdg : decode cc pc = .ok (.getfield index, 3))
    (kk : W p l e R s m args below meth c H locs cells slots Q (F0 m (pc + 3) ls (v :: rest))) : W p l e R s m args below meth c H locs cells slots Q (F0 m pc ls (.ref a :: rest)) := by
  obtain ⟨⟨hx, hb, hml, hown, hts⟩, hK, hNW, hAO, hA, hr, hlk, hin2⟩ := X
  exact va_getN hx hb hts hin hown hK hW.1 q0 he hcl j hj (va_Nw.use rfl (hNW _ w1 rfl)) (fun _ h => h) hv hdg kk
theorem n_call {y : MethodName} {bytes : ByteArray} {maxL index nA d mc ms x cj q : Nat} {As : List Value} (X : CxC E A p m meth c cc nL s args own) (hW : WC E A (ws ++ [(q, .inr (cj, dflt cj))]) s.heap H locs) (hC : Mc l E y bytes maxL d mc ms x cj q H.size As) (w1 : Cond.methodLink own index y ∈ lw_tbl) (w2 : Cond.instanceMethod y ∈ lw_tbl) (w4 : Cond.initialized y.cls ∈ lw_tbl) (hg : GoodIn (lw_tbl.filter goodWord) (wsM y bytes maxL none)) (hy1 : y.name = "<init>") (hd : y.cls ≠ "java/lang/invoke/MethodHandle" ∧ y.cls ≠ "java/lang/invoke/VarHandle" ∧ (parseMethodDescriptor y.desc).map (fun d => d.parameters.length) = some nA) (hn : As.length = nA) (hR : d + 1 ≤ R.frames ∧ 8 + (maxL + 11) + 40 * d ≤ R.locals) (hls : ls.size = nL) {st : List Value} (hst : st = As.reverse ++ .ref q :: rest) (hWd : (rest.map fun v => v.category).sum ≤ 8) (hcs : cells + mc ≤ R.cells ∧ slots + ms ≤ R.slots) (hdg : decode cc pc = .ok (.invokespecial index, 3))
    (kk : ∀ (bs : Nat → Nat) (H1 : Heap) (locs1 : List Loc), bs 0 = q → WC E A (ws ++ blk E bs x cj) s.heap H1 locs1 → W p l e R s m args below meth c H1 locs1 (cells + mc) (slots + ms) Q (F0 m (pc + 3) ls rest)) : W p l e R s m args below meth c H locs cells slots Q (F0 m pc ls st) := by
  obtain ⟨⟨hx, hb, hml, hown, hts⟩, hK, hNW, hAO, hA, hr, hlk, hin⟩ := X
  obtain ⟨hP, hD, hS⟩ := hW
  have hPc := va_P_right hP
  have hPl := va_P_left hP
  have hDl := va_D_left hD
  have hlast : (ws ++ [(q, .inr (cj, dflt cj))])[ws.length]? = some (q, .inr (cj, dflt cj)) := by simp
  have hDc : va_D (fun _ => True) [(q, (.inr (cj, dflt cj) : va_E))] := ⟨fun i j p q hi hj _ => by
      have a1 := (List.getElem?_eq_some_iff.mp hi).1
      have a2 := (List.getElem?_eq_some_iff.mp hj).1
      simp only [List.length_cons, List.length_nil] at a1 a2
      omega, fun _ _ _ => trivial⟩
  have hf : ∀ z, va_A [(q, (.inr (cj, dflt cj) : va_E))] H.size z → A z := by
    intro z hz
    rcases hz with ⟨k, e, hk⟩ | hz
    · have hk0 : k = 0 := by
        have a1 := (List.getElem?_eq_some_iff.mp hk).1
        simp only [List.length_cons, List.length_nil] at a1
        omega
      subst hk0
      cases hk
      exact hD.2 _ _ hlast
    · exact hA z (Nat.le_trans hS.1 hz)
  refine va_callv (va_runI ⟨hx, hb, hml, hown, hts⟩ hC (cwI nA hts hg rfl rfl rfl (hts _ (gw_in w4 rfl)) (hts _ (gw_in w1 rfl)) (hts _ (gw_in w2 rfl)) hy1 hd hR) ⟨fun a U g mk q => ⟨q.1, q.2.1, q.2.2.1, va_K.moved (u := U) (U := U.calling g mk a) (Vm.Alike.refl U.vm) q.2.2.2.1, q.2.2.2.2.1, NW.same (u := U) (U := U.calling g mk a) rfl q.2.2.2.2.2.1, va_AO.moved (u := U) (U := U.calling g mk a) (Vm.Alike.refl U.vm) q.2.2.2.2.2.2⟩, fun U hU hW => ⟨rfl, by rw [hU], by rw [hU]; exact hPc, va_K.moved hW.alike hK, hDc, NW.warm hW hNW, va_AO.moved hW.alike hAO⟩⟩ rfl hn hls hst (lv_room hWd) hdg hcs) hS (fun q _ h => hf q h) hf (fun u t H1 locs1 ht hvm hw hB hz1 hk1 hS1 => ?_)
  have hout : ∀ (k : Nat) (z : Nat × va_E), ws[k]? = some z → z.1 < H.size ∧ z.1 ≠ q := by
    intro k z hk
    refine ⟨(hPl k z hk).lt, fun hzq => ?_⟩
    have h1 : (ws ++ [(q, .inr (cj, dflt cj))])[k]? = some z := by rw [List.getElem?_append_left (List.getElem?_eq_some_iff.mp hk).1]; exact hk
    have h2 := hD.1 k ws.length z _ h1 hlast hzq
    have h3 := (List.getElem?_eq_some_iff.mp hk).1
    omega
  have hnA : ∀ z, z < H.size → z ≠ q → ¬ va_A [(q, (.inr (cj, dflt cj) : va_E))] H.size z := by
    intro z h1 h2 h3
    rcases h3 with ⟨k, e, hk⟩ | h3
    · have hk0 : k = 0 := by
        have a1 := (List.getElem?_eq_some_iff.mp hk).1
        simp only [List.length_cons, List.length_nil] at a1
        omega
      subst hk0
      cases hk
      exact h2 rfl
    · omega
  refine kk u H1 locs1 hw ⟨va_P.app (fun k z hk => ?_) (by rw [← ht]; exact hB.1), va_D.app hDl ⟨hB.2.1, fun k z hk => hf _ (hB.2.2 k z hk)⟩ (fun i j a b hi hj hab => ?_), hS1⟩
  · have h1 := hout k z hk
    exact (hPl k z hk).kept (hk1 _ h1.1 (hnA _ h1.1 h1.2))
  · have h1 := hout i a hi
    exact hnA _ h1.1 h1.2 (by rw [hab]; exact hB.2.2 j b hj)
theorem n_callN {y : MethodName} {bytes : ByteArray} {maxL index nA d mc ms x cj q : Nat} {host : String} {As : List Value} (X : CxC E A p m meth c cc nL s args own) (hW : WC E A (ws ++ [(q, .inr (cj, dflt cj))]) s.heap H locs) (hC : Mc l E y bytes maxL d mc ms x cj q H.size As) (w1 : Cond.methodLinkNest own index y host ∈ lw_tbl) (w2 : Cond.instanceMethod y ∈ lw_tbl) (w4 : Cond.initialized y.cls ∈ lw_tbl) (hg : GoodIn (lw_tbl.filter goodWord) (wsM y bytes maxL none)) (hy1 : y.name = "<init>") (hd : y.cls ≠ "java/lang/invoke/MethodHandle" ∧ y.cls ≠ "java/lang/invoke/VarHandle" ∧ (parseMethodDescriptor y.desc).map (fun d => d.parameters.length) = some nA) (hn : As.length = nA) (hR : d + 1 ≤ R.frames ∧ 8 + (maxL + 11) + 40 * d ≤ R.locals) (hls : ls.size = nL) {st : List Value} (hst : st = As.reverse ++ .ref q :: rest) (hWd : (rest.map fun v => v.category).sum ≤ 8) (hcs : cells + mc ≤ R.cells ∧ slots + ms ≤ R.slots) (hdg : decode cc pc = .ok (.invokespecial index, 3))
    (kk : ∀ (bs : Nat → Nat) (H1 : Heap) (locs1 : List Loc), bs 0 = q → WC E A (ws ++ blk E bs x cj) s.heap H1 locs1 → W p l e R s m args below meth c H1 locs1 (cells + mc) (slots + ms) Q (F0 m (pc + 3) ls rest)) : W p l e R s m args below meth c H locs cells slots Q (F0 m pc ls st) := by
  obtain ⟨⟨hx, hb, hml, hown, hts⟩, hK, hNW, hAO, hA, hr, hlk, hin⟩ := X
  obtain ⟨hP, hD, hS⟩ := hW
  have hPc := va_P_right hP
  have hPl := va_P_left hP
  have hDl := va_D_left hD
  have hlast : (ws ++ [(q, .inr (cj, dflt cj))])[ws.length]? = some (q, .inr (cj, dflt cj)) := by simp
  have hDc : va_D (fun _ => True) [(q, (.inr (cj, dflt cj) : va_E))] := ⟨fun i j p q hi hj _ => by
      have a1 := (List.getElem?_eq_some_iff.mp hi).1
      have a2 := (List.getElem?_eq_some_iff.mp hj).1
      simp only [List.length_cons, List.length_nil] at a1 a2
      omega, fun _ _ _ => trivial⟩
  have hf : ∀ z, va_A [(q, (.inr (cj, dflt cj) : va_E))] H.size z → A z := by
    intro z hz
    rcases hz with ⟨k, e, hk⟩ | hz
    · have hk0 : k = 0 := by
        have a1 := (List.getElem?_eq_some_iff.mp hk).1
        simp only [List.length_cons, List.length_nil] at a1
        omega
      subst hk0
      cases hk
      exact hD.2 _ _ hlast
    · exact hA z (Nat.le_trans hS.1 hz)
  refine va_callv (va_runIN ⟨hx, hb, hml, hown, hts⟩ hC (⟨va_cnB nA hts hg rfl rfl rfl (hNW _ w1 rfl) (hts _ (gw_in w4 rfl)) hd hR, hy1, hts _ (gw_in w2 rfl)⟩) ⟨fun a U g mk q => ⟨q.1, q.2.1, q.2.2.1, va_K.moved (u := U) (U := U.calling g mk a) (Vm.Alike.refl U.vm) q.2.2.2.1, q.2.2.2.2.1, NW.same (u := U) (U := U.calling g mk a) rfl q.2.2.2.2.2.1, va_AO.moved (u := U) (U := U.calling g mk a) (Vm.Alike.refl U.vm) q.2.2.2.2.2.2⟩, fun U hU hW => ⟨rfl, by rw [hU], by rw [hU]; exact hPc, va_K.moved hW.alike hK, hDc, NW.warm hW hNW, va_AO.moved hW.alike hAO⟩⟩ rfl hn hls hst (lv_room hWd) hdg hcs) hS (fun q _ h => hf q h) hf (fun u t H1 locs1 ht hvm hw hB hz1 hk1 hS1 => ?_)
  have hout : ∀ (k : Nat) (z : Nat × va_E), ws[k]? = some z → z.1 < H.size ∧ z.1 ≠ q := by
    intro k z hk
    refine ⟨(hPl k z hk).lt, fun hzq => ?_⟩
    have h1 : (ws ++ [(q, .inr (cj, dflt cj))])[k]? = some z := by rw [List.getElem?_append_left (List.getElem?_eq_some_iff.mp hk).1]; exact hk
    have h2 := hD.1 k ws.length z _ h1 hlast hzq
    have h3 := (List.getElem?_eq_some_iff.mp hk).1
    omega
  have hnA : ∀ z, z < H.size → z ≠ q → ¬ va_A [(q, (.inr (cj, dflt cj) : va_E))] H.size z := by
    intro z h1 h2 h3
    rcases h3 with ⟨k, e, hk⟩ | h3
    · have hk0 : k = 0 := by
        have a1 := (List.getElem?_eq_some_iff.mp hk).1
        simp only [List.length_cons, List.length_nil] at a1
        omega
      subst hk0
      cases hk
      exact h2 rfl
    · omega
  refine kk u H1 locs1 hw ⟨va_P.app (fun k z hk => ?_) (by rw [← ht]; exact hB.1), va_D.app hDl ⟨hB.2.1, fun k z hk => hf _ (hB.2.2 k z hk)⟩ (fun i j a b hi hj hab => ?_), hS1⟩
  · have h1 := hout k z hk
    exact (hPl k z hk).kept (hk1 _ h1.1 (hnA _ h1.1 h1.2))
  · have h1 := hout i a hi
    exact hnA _ h1.1 h1.2 (by rw [hab]; exact hB.2.2 j b hj)
theorem n_ret {x ci h : Nat} (X : CxC E (va_A [(h, .inr (ci, dflt ci))] s.heap.size) p m meth c cc nL s args own) {mc ms : Nat} (bs : Nat → Nat) (hb0 : bs 0 = h) (hW : WC E (va_A [(h, .inr (ci, dflt ci))] s.heap.size) ws s.heap H locs) (hbl : blk E bs x ci = ws) (hdg : decode cc pc = .ok (.return_, 1)) : W p l e R s m args below meth c H locs mc ms (QC E x ci h s.heap.size mc ms below args s) (F0 m pc ls []) := by
  obtain ⟨⟨hx, hb, hml, hown, hts⟩, hK, hNW, hAO, hA, hr, hlk, hin⟩ := X
  obtain ⟨hP, hD, hS⟩ := hW
  exact W.vret hx hb hr (fun t ht hW => ⟨⟨bs, rfl, hb0, by rw [ht, hbl]; exact hP, by rw [hbl]; exact hD⟩, hS.F ht⟩) hS.2.2 hdg hlk
theorem Mc_of {y : MethodName} {nL d mc ms x ci h sz : Nat} {av : List Value} {C : String} (hC : y.cls = C) (hn1 : y.name = "<init>") (hy : plainName y.cls = true) (hn : (lg_sl (.ref h :: av)).length ≤ nL)
    (body : ∀ (p : Program) (e : Env) (s : State) (m : MethodId) (below : List Frame) (meth : Method) (c : Code) (ls : Array Slot), CxC E (va_A [(h, .inr (ci, dflt ci))] s.heap.size) p m meth c cc nL s (Value.ref h :: av).toArray C → WC E (va_A [(h, .inr (ci, dflt ci))] s.heap.size) [(h, .inr (ci, dflt ci))] s.heap s.heap [] → lv_has ls nL (lv_args 0 (.ref h :: av)) → W p l e (rmc d mc ms) s m (Value.ref h :: av).toArray below meth c s.heap [] 0 0 (QC E x ci h s.heap.size mc ms below (Value.ref h :: av).toArray s) (F0 m 0 ls [])) : Mc l E y cc nL d mc ms x ci h sz av := by
  refine Met.ofW (cc := cc) (maxL := nL) (ret := none) hy rfl ?_
  intro p e s m args below meth c s₁ B hml hv
  obtain ⟨rfl, hsz, hP, hK, hD, hNW, hAO⟩ := hv
  subst hC
  subst hsz
  have hts := atoms_spec (ws := wsM y cc nL none) B.pre
  have hl := lv_entry (.ref h :: av) (n := nL) hn
  have key := body p e s m below meth c _ ⟨⟨B.exec, B.bytes, hml, findClass_of_methodNamed B.named, fun w hw => hts w (List.mem_cons_of_mem _ hw)⟩, hK, hNW, hAO, fun q hq => Or.inr hq, B.returns, B.notSynchronized, (name_of_methodNamed B.named B.method).1.trans hn1⟩ ⟨hP, hD.self, va_S.rf⟩ hl
  rw [lg_entry_eq]
  exact key
def seg (E : Ev) (bs : Nat → Nat) (x off n : Nat) : va_W := (List.range n).map (fun r => (bs (off + r), cellW (bE E bs x) (x + (off + r)) (iniK (x + (off + r)))))
theorem seg_app (E : Ev) (bs : Nat → Nat) (x off a b : Nat) : seg E bs x off (a + b) = seg E bs x off a ++ seg E bs x (off + a) b := by
  unfold seg
  rw [List.range_add, List.map_append, List.map_map]
  congr 1
  refine List.map_congr_left (fun r _ => ?_)
  show (bs (off + (a + r)), _) = _
  rw [Nat.add_assoc]
theorem blk_cons (E : Ev) (bs : Nat → Nat) (x ci n : Nat) (h : szc ci = n + 1) : blk E bs x ci = (bs 0, cellW (bE E bs x) x (iniK x)) :: seg E bs x 1 n := by
  have h1 : blk E bs x ci = seg E bs x 0 (1 + n) := by
    unfold blk seg
    rw [h, Nat.add_comm n 1]
    refine List.map_congr_left (fun r _ => ?_)
    rw [Nat.zero_add]
  rw [h1, seg_app]
  rfl
theorem flds_cg {ad1 ad2 : Nat → Nat} {k : Nat} (f : Nat → Int32) (ci : Nat) (h : ∀ q, q < szc ci → ad1 (k + q) = ad2 (k + q)) (hci : ci < 12) : flds ad1 k f ci = flds ad2 k f ci := by
  have hc : ci = 0 ∨ ci = 1 ∨ ci = 2 ∨ ci = 3 ∨ ci = 4 ∨ ci = 5 ∨ ci = 6 ∨ ci = 7 ∨ ci = 8 ∨ ci = 9 ∨ ci = 10 ∨ ci = 11 := by omega
  rcases hc with rfl | rfl | rfl | rfl | rfl | rfl | rfl | rfl | rfl | rfl | rfl | rfl
  · show ([.ref (ad1 (k + 1)), .ref (ad1 (k + 2)), .int (f 2)] : List Value) = [.ref (ad2 (k + 1)), .ref (ad2 (k + 2)), .int (f 2)]
    simp only [h 1 (by decide), h 2 (by decide)]
  · show ([.ref (ad1 (k + 1)), .ref (ad1 (k + 2)), .ref (ad1 (k + 3)), .int (f 3)] : List Value) = [.ref (ad2 (k + 1)), .ref (ad2 (k + 2)), .ref (ad2 (k + 3)), .int (f 3)]
    simp only [h 1 (by decide), h 2 (by decide), h 3 (by decide)]
  · show ([.ref (ad1 (k + 1)), .ref (ad1 (k + 2)), .int (f 2), .int (f 3)] : List Value) = [.ref (ad2 (k + 1)), .ref (ad2 (k + 2)), .int (f 2), .int (f 3)]
    simp only [h 1 (by decide), h 2 (by decide)]
  · show ([.ref (ad1 (k + 1)), .ref (ad1 (k + 2)), .int (f 2)] : List Value) = [.ref (ad2 (k + 1)), .ref (ad2 (k + 2)), .int (f 2)]
    simp only [h 1 (by decide), h 2 (by decide)]
  · show ([.ref (ad1 (k + 1)), .int (f 1)] : List Value) = [.ref (ad2 (k + 1)), .int (f 1)]
    simp only [h 1 (by decide)]
  · show ([.ref (ad1 (k + 1)), .ref (ad1 (k + 2)), .int (f 2), .int (f 3)] : List Value) = [.ref (ad2 (k + 1)), .ref (ad2 (k + 2)), .int (f 2), .int (f 3)]
    simp only [h 1 (by decide), h 2 (by decide)]
  · show ([.ref (ad1 (k + 1)), .ref (ad1 (k + 2)), .int (f 2)] : List Value) = [.ref (ad2 (k + 1)), .ref (ad2 (k + 2)), .int (f 2)]
    simp only [h 1 (by decide), h 2 (by decide)]
  · show ([.ref (ad1 (k + 1)), .ref (ad1 (k + 4)), .ref (ad1 (k + 11)), .ref (ad1 (k + 15)), .int (f 4), .int (f 5), .int (f 6), .int (f 7), .int (f 8), .int (f 9), .int (f 10), .int (f 11), .int (f 12), .int (f 13)] : List Value) = [.ref (ad2 (k + 1)), .ref (ad2 (k + 4)), .ref (ad2 (k + 11)), .ref (ad2 (k + 15)), .int (f 4), .int (f 5), .int (f 6), .int (f 7), .int (f 8), .int (f 9), .int (f 10), .int (f 11), .int (f 12), .int (f 13)]
    simp only [h 1 (by decide), h 4 (by decide), h 11 (by decide), h 15 (by decide)]
  · show ([.ref (ad1 (k + 1)), .ref (ad1 (k + 4))] : List Value) = [.ref (ad2 (k + 1)), .ref (ad2 (k + 4))]
    simp only [h 1 (by decide), h 4 (by decide)]
  · show ([.ref (ad1 (k + 1)), .ref (ad1 (k + 2)), .ref (ad1 (k + 3)), .ref (ad1 (k + 4)), .ref (ad1 (k + 5)), .ref (ad1 (k + 6)), .int (f 6)] : List Value) = [.ref (ad2 (k + 1)), .ref (ad2 (k + 2)), .ref (ad2 (k + 3)), .ref (ad2 (k + 4)), .ref (ad2 (k + 5)), .ref (ad2 (k + 6)), .int (f 6)]
    simp only [h 1 (by decide), h 2 (by decide), h 3 (by decide), h 4 (by decide), h 5 (by decide), h 6 (by decide)]
  · show ([.ref (ad1 (k + 1)), .ref (ad1 (k + 5)), .ref (ad1 (k + 23)), .ref (ad1 (k + 41)), .ref (ad1 (k + 59)), .ref (ad1 (k + 241)), .ref (ad1 (k + 243)), .ref (ad1 (k + 245)), .int (f 8), .int (f 9)] : List Value) = [.ref (ad2 (k + 1)), .ref (ad2 (k + 5)), .ref (ad2 (k + 23)), .ref (ad2 (k + 41)), .ref (ad2 (k + 59)), .ref (ad2 (k + 241)), .ref (ad2 (k + 243)), .ref (ad2 (k + 245)), .int (f 8), .int (f 9)]
    simp only [h 1 (by decide), h 5 (by decide), h 23 (by decide), h 41 (by decide), h 59 (by decide), h 241 (by decide), h 243 (by decide), h 245 (by decide)]
  · rfl
/-- a cell looks only at what lies in its own block -/
theorem cellW_cg {E1 E2 : Ev} (he : E1.2 = E2.2) {k n : Nat} (f : Nat → Int32) (h : ∀ q, q < n → E1.1 (k + q) = E2.1 (k + q)) (hn : kd k < 12 → szc (kd k) ≤ n) (h14 : kd k ≥ 12 → kd k = 12 ∨ kd k = 13 ∨ 164 ≤ n) : cellW E1 k f = cellW E2 k f := by
  unfold cellW
  by_cases c : kd k < 12
  · rw [if_pos c, if_pos c, flds_cg f (kd k) (fun q hq => h q (Nat.lt_of_lt_of_le hq (hn c))) c]
  · rw [if_neg c, if_neg c]
    rcases h14 (Nat.le_of_not_lt c) with c1 | c1 | c1
    · rw [if_pos c1, if_pos c1, he]
    · have c2 : ¬ kd k = 12 := by omega
      rw [if_neg c2, if_neg c2, if_pos c1, if_pos c1, he]
    · have e : (fun i => if i < 9 then some (E1.1 (k + 19 + 18 * i)) else none) = (fun i => if i < 9 then some (E2.1 (k + 19 + 18 * i)) else none) := by
        funext i
        by_cases c2 : i < 9
        · rw [if_pos c2, if_pos c2]
          have := h (19 + 18 * i) (by omega)
          rw [Nat.add_assoc, this]
        · rw [if_neg c2, if_neg c2]
      rw [e, he]
def clo (ci : Nat) : Prop := ∀ r, r < szc ci → (kd (repc ci + r) < 12 → r + szc (kd (repc ci + r)) ≤ szc ci) ∧ (kd (repc ci + r) ≥ 12 → kd (repc ci + r) = 12 ∨ kd (repc ci + r) = 13 ∨ r + 164 ≤ szc ci)
set_option maxRecDepth 20000 in
theorem clo_all : ∀ ci, ci < 12 → clo ci := by unfold clo; decide +kernel
theorem seg_blk {E : Ev} {bs bs' : Nat → Nat} {x off cj : Nat} (hl : lay cj (x + off)) (hb : ∀ r, r < szc cj → bs (off + r) = bs' r) : seg E bs x off (szc cj) = blk E bs' (x + off) cj := by
  unfold seg blk
  refine List.map_congr_left (fun r hr => ?_)
  have hr := List.mem_range.mp hr
  have e1 : x + (off + r) = x + off + r := by omega
  rw [hb r hr, e1]
  have hk := hl.2.2 r hr
  have hc := clo_all cj hl.1 r hr
  rw [cellW_cg (n := szc cj - r) (E1 := bE E bs x) (E2 := bE E bs' (x + off)) rfl (iniK (x + off + r)) (fun q hq => ?_) (fun c => ?_) (fun c => ?_)]
  · show bs (x + off + r + q - x) = bs' (x + off + r + q - (x + off))
    have a1 : x + off + r + q - x = off + (r + q) := by omega
    have a2 : x + off + r + q - (x + off) = r + q := by omega
    rw [a1, a2]
    exact hb (r + q) (by omega)
  · rw [hk] at c ⊢
    have := hc.1 c
    omega
  · rw [hk] at c ⊢
    rcases hc.2 c with c1 | c1 | c1
    · exact Or.inl c1
    · exact Or.inr (Or.inl c1)
    · exact Or.inr (Or.inr (by omega))
/-- an index of the class's part, laid out and with the lengths of its kind -/
def Ly (ci x : Nat) : Prop := lay ci x ∧ x + szc ci ≤ 248 ∧ ∀ r, r < szc ci → ln (x + r) = ln (repc ci + r)
theorem Ly_sub {ci x : Nat} (h : Ly ci x) (off cj : Nat) (hj : cj < 12) (hr : off + szc cj ≤ szc ci) (hs : ∀ q, q < szc cj → kd (repc ci + (off + q)) = kd (repc cj + q) ∧ ln (repc ci + (off + q)) = ln (repc cj + q)) : Ly cj (x + off) := by
  refine ⟨lay_sub h.1 off cj hj hr (fun q hq => (hs q hq).1), by have := h.2.1; omega, fun r hr2 => ?_⟩
  rw [Nat.add_assoc, h.2.2 (off + r) (by omega)]
  exact (hs r hr2).2
theorem iniK_0 {k : Nat} (h : k < 248) (h7 : kd k ≠ 7) (h10 : kd k ≠ 10) (h11 : kd k ≠ 11) : iniK k = fun _ => 0 := by
  unfold iniK
  rw [if_neg (by omega), if_neg h7, if_neg h10, if_neg h11]
theorem iniK_7 {k : Nat} (h : k < 248) (h7 : kd k = 7) : iniK k = fun j => if j = 6 then 60 else if j = 7 then 20 else 0 := by
  unfold iniK
  rw [if_neg (by omega), if_pos h7]
/-- the cell of an array of ints, of an object, as they are made -/
theorem cell_arr {E : Ev} {bs : Nat → Nat} {ci x r : Nat} (h : Ly ci x) (hr : r < szc ci) (n : Nat) (hk : kd (repc ci + r) = 13) (hn : ln (repc ci + r) = n) : cellW (bE E bs x) (x + r) (iniK (x + r)) = .inl (E.2.2.2.1, n, .inl (fun _ => 0)) := by
  have k1 := h.1.2.2 r hr
  rw [hk] at k1
  rw [cell_in k1, iniK_0 (by have := h.2.1; omega) (by omega) (by omega) (by omega), h.2.2 r hr, hn]
  rfl
theorem cell_obj {E : Ev} {bs : Nat → Nat} {ci x : Nat} (h : Ly ci x) : cellW (bE E bs x) x (iniK x) = .inr (ci, flds (bE E bs x).1 x (iniK x) ci) := cell_ob h.1
theorem seg_one (E : Ev) (bs : Nat → Nat) (x off : Nat) : seg E bs x off 1 = [(bs off, cellW (bE E bs x) (x + off) (iniK (x + off)))] := rfl
theorem n_alen (X : CxC E A p m meth c cc nL s args own) (hW : WC E A ws s.heap H locs) (q0 : Nat) {a cA : Nat} {x : vp_A} (ha : ws[q0]? = some (a, .inl (cA, x))) (t0 : Nat) {ty : FieldType} (ht : (tysE E)[t0]? = some (cA, ty)) {v : Int32} (hv : Int32.ofNat x.1 = v) (hdg : decode cc pc = .ok (.arraylength, 1)) (kk : W p l e R s m args below meth c H locs cells slots Q (F0 m (pc + 1) ls (.int v :: rest))) : W p l e R s m args below meth c H locs cells slots Q (F0 m pc ls (.ref a :: rest)) := va_alen X.1.1 X.1.2.1 X.2.1 hW.1 q0 t0 ha ht hv hdg kk
theorem n_ast (X : CxC E A p m meth c cc nL s args own) (hW : WC E A ws s.heap H locs) (q0 qk ci : Nat) {a : Nat} {r : vw_C} {n v : Nat} {vs : List Value} {f : Nat → Option Nat} (ha : ws[q0]? = some (a, .inl (E.2.2.2.2.1, n, .inr (.inr (.inr (.inr f)))))) (hr : r.1 = SCF) (hv : ws[qk]? = some (v, .inr (ci, vs))) (hc : vwCl[ci]? = some r) {i : Int32} (hin : vp_in i n) (hdg : decode cc pc = .ok (.aastore, 1))
    (kk : ∀ (H1 : Heap) (locs1 : List Loc), WC E A (ws.set q0 (a, .inl (E.2.2.2.2.1, n, .inr (.inr (.inr (.inr (va_up f i.toNatClampNeg (some v)))))))) s.heap H1 locs1 → W p l e R s m args below meth c H1 locs1 cells slots Q (F0 m (pc + 1) ls rest)) : W p l e R s m args below meth c H locs cells slots Q (F0 m pc ls (.ref v :: .int i :: .ref a :: rest)) :=
  va_astq X.1.1 X.1.2.1 X.2.1 hW.1 hW.2.1 hW.2.2 q0 2 qk ci ha (by rw [hr]; rfl) hv hc hin hdg (fun H1 locs1 a b d => kk H1 locs1 ⟨a, b, d⟩)
end GC
