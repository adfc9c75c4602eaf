theorem mw1148 : Cond.superclass "java/lang/StringBuilder" "java/lang/AbstractStringBuilder" ∈ lw_tbl := List.mem_of_getElem? (i := 1148) (by decide +kernel)
theorem mw1192 : Cond.sameMethod "java/lang/AbstractStringBuilder" "java/lang/AbstractStringBuilder" "isLatin1" "()Z" ∈ lw_tbl := List.mem_of_getElem? (i := 1192) (by decide +kernel)
theorem mw1286 : Cond.sameMethod "java/lang/AbstractStringBuilder" "java/lang/AbstractStringBuilder" "getValue" "()[B" ∈ lw_tbl := List.mem_of_getElem? (i := 1286) (by decide +kernel)
theorem mw1291 : Cond.sameMethod "java/lang/AbstractStringBuilder" "java/lang/AbstractStringBuilder" "length" "()I" ∈ lw_tbl := List.mem_of_getElem? (i := 1291) (by decide +kernel)
theorem mw1345 : Cond.sameMethod "java/lang/AbstractStringBuilder" "java/lang/AbstractStringBuilder" "append" "(Ljava/lang/String;)Ljava/lang/AbstractStringBuilder;" ∈ lw_tbl := List.mem_of_getElem? (i := 1345) (by decide +kernel)
theorem mw1347 : Cond.sameMethod "java/lang/AbstractStringBuilder" "java/lang/AbstractStringBuilder" "ensureCapacityInternal" "(I)V" ∈ lw_tbl := List.mem_of_getElem? (i := 1347) (by decide +kernel)
theorem mw1349 : Cond.sameMethod "java/lang/AbstractStringBuilder" "java/lang/AbstractStringBuilder" "putStringAt" "(ILjava/lang/String;)V" ∈ lw_tbl := List.mem_of_getElem? (i := 1349) (by decide +kernel)
theorem mw1350 : Cond.sameMethod "java/lang/AbstractStringBuilder" "java/lang/AbstractStringBuilder" "inflateIfNeededFor" "(Ljava/lang/String;)V" ∈ lw_tbl := List.mem_of_getElem? (i := 1350) (by decide +kernel)
theorem mw1352 : Cond.sameMethod "java/lang/AbstractStringBuilder" "java/lang/AbstractStringBuilder" "append" "(I)Ljava/lang/AbstractStringBuilder;" ∈ lw_tbl := List.mem_of_getElem? (i := 1352) (by decide +kernel)
/-! cells beside the class's: a text that is made -/
/-- the world, without what lies beside it -/
def eN (E : Ev) (L : List (Nat × va_E)) : Ev := (E.1, (E.2.1, (E.2.2.1, (E.2.2.2.1, (E.2.2.2.2.1, (E.2.2.2.2.2.1, (E.2.2.2.2.2.2.1, (E.2.2.2.2.2.2.2.1, (E.2.2.2.2.2.2.2.2.1, (E.2.2.2.2.2.2.2.2.2.1, ((fun z => AE E z ∧ ∀ x ∈ L, x.1 ≠ z), (eX E, nX E))))))))))))
def XR (E : Ev) (σ : St) (L : List (Nat × va_E)) (H0 H : Heap) (locs : List Loc) : Prop := va_P E.2.1 vwCl (gW E σ ++ L) H ∧ va_D (AE E) (gW E σ ++ L) ∧ va_S (AE E) H0 H locs
def XB (E : Ev) (σ : St) (L : List (Nat × va_E)) (U : State) : Prop := va_P E.2.1 vwCl (gW E σ ++ L) U.heap ∧ va_K E.2.1 vwCl (tysE E) U ∧ va_D (AE E) (gW E σ ++ L) ∧ NW U ∧ XW E U U.heap
/-- an array of bytes beside the world, which is not written -/
def XT (E : Ev) (t : Option (Nat × (Nat → Int32))) (U : State) : Prop := match t with
  | none => True
  | some (v, f) => va_T .byte v 16 (fun j => .int (f j)) (AE E) U U.heap
/-- what the tables say of AbstractStringBuilder's private methods, for a StringBuilder -/
def PV (U : State) : Prop := (Cond.selects RJ4 yJ5_ensureCapacityInternal_d00df yJ5_ensureCapacityInternal_d00df).before #[] U = true ∧ (Cond.selects RJ4 yJ5_putStringAt_47b60 yJ5_putStringAt_47b60).before #[] U = true ∧ (Cond.selects RJ4 yJ5_inflateIfNeededFor_a7421 yJ5_inflateIfNeededFor_a7421).before #[] U = true
theorem PV.warm {s U : State} (hW : s.WarmedH U.vm) (h : PV s) : PV U := ⟨word_at hW (Or.inl rfl) h.1, word_at hW (Or.inl rfl) h.2.1, word_at hW (Or.inl rfl) h.2.2⟩
def XN (E : Ev) (σ : St) (L : List (Nat × va_E)) (t : Option (Nat × (Nat → Int32))) (U : State) : Prop := XB E σ L U ∧ (∀ q, U.heap.size ≤ q → AE E q) ∧ PV U ∧ XT E t U
def Xv (l : Launch) (E : Ev) (y : MethodName) (cc : ByteArray) (nL d mc ms : Nat) (av : List Value) (σ : St) (L : List (Nat × va_E)) (PL : List (Nat × va_E) → Prop) : Prop := Met l y (wsM y cc nL none) (rmA d mc ms) (va_Pc av (XN E σ L none)) (va_Qv PL (fun u t => XB E σ u t) (AE E)) mc ms (AE E)
def Xi (l : Launch) (E : Ev) (y : MethodName) (cc : ByteArray) (nL : Nat) (ret : Option FieldType) (d mc ms : Nat) (av : List Value) (σ : St) (L : List (Nat × va_E)) (PL : Int32 → List (Nat × va_E) → Prop) : Prop := Met l y (wsM y cc nL ret) (rmA d mc ms) (va_Pc av (XN E σ L none)) (va_Qi PL (fun u t => XB E σ u t) (AE E)) mc ms (AE E)
def Xr (l : Launch) (E : Ev) (y : MethodName) (cc : ByteArray) (nL : Nat) (ret : Option FieldType) (d mc ms : Nat) (av : List Value) (σ : St) (L : List (Nat × va_E)) (t : Option (Nat × (Nat → Int32))) (PL : Nat → List (Nat × va_E) → Prop) : Prop := Met l y (wsM y cc nL ret) (rmA d mc ms) (va_Pc av (XN E σ L t)) (va_Qr (fun _ : List (Nat × va_E) => True) (fun u ra U => PL ra u ∧ XB E σ u U) (AE E)) mc ms (AE E)
def QXv (E : Ev) (σ : St) (PL : List (Nat × va_E) → Prop) (below : List Frame) (args : Array Value) (s : State) (mc ms : Nat) : State → Prop := MQ below (va_Qv PL (fun u t => XB E σ u t) (AE E)) args s mc ms (AE E)
def QXi (E : Ev) (σ : St) (PL : Int32 → List (Nat × va_E) → Prop) (below : List Frame) (args : Array Value) (s : State) (mc ms : Nat) : State → Prop := MQ below (va_Qi PL (fun u t => XB E σ u t) (AE E)) args s mc ms (AE E)
def QXr (E : Ev) (σ : St) (PL : Nat → List (Nat × va_E) → Prop) (below : List Frame) (args : Array Value) (s : State) (mc ms : Nat) : State → Prop := MQ below (va_Qr (fun _ : List (Nat × va_E) => True) (fun u ra U => PL ra u ∧ XB E σ u U) (AE E)) args s mc ms (AE E)
theorem gW_ap (E : Ev) (σ : St) (L : List (Nat × va_E)) (i : Nat) : (gW E σ ++ L)[248 + i]? = L[i]? := by
  rw [List.getElem?_append_right (by rw [gW_len]; omega), gW_len, Nat.add_sub_cancel_left]
theorem gW_st (E : Ev) (σ : St) (L : List (Nat × va_E)) (i : Nat) (x : Nat × va_E) : (gW E σ ++ L).set (248 + i) x = gW E σ ++ L.set i x := by
  rw [List.set_append_right _ _ (by rw [gW_len]; omega), gW_len, Nat.add_sub_cancel_left]
theorem gW_lf {E : Ev} {σ : St} {L : List (Nat × va_E)} {k : Nat} {z : Nat × va_E} (hk : (gW E σ)[k]? = some z) : (gW E σ ++ L)[k]? = some z := by
  rw [List.getElem?_append_left (List.getElem?_eq_some_iff.mp hk).1]; exact hk
theorem XN_blind {E : Ev} {σ : St} {L : List (Nat × va_E)} {t : Option (Nat × (Nat → Int32))} {av : List Value} : FrameBlind (va_Pc av (XN E σ L t)) := fun a U g mk q => ⟨q.1, ⟨q.2.1.1, va_K.moved (u := U) (U := U.calling g mk a) (Vm.Alike.refl U.vm) q.2.1.2.1, q.2.1.2.2.1, NW.same (u := U) (U := U.calling g mk a) rfl q.2.1.2.2.2.1, XW.same (u := U) (U := U.calling g mk a) rfl q.2.1.2.2.2.2⟩, q.2.2.1, PV.warm (s := U) (U := U.calling g mk a) (State.WarmedH.refl U) q.2.2.2.1, by
  have h := q.2.2.2.2
  cases t with
  | none => trivial
  | some t => exact va_T.moved (u := U) (U := U.calling g mk a) (Vm.Alike.refl U.vm) h⟩
section GLX
variable {p : Program} {l : Launch} {e : Env} {R : Room} {s : State} {m : MethodId} {args : Array Value} {below : List Frame} {meth : Method} {c : Code} {H H0 : Heap} {locs : List Loc} {cells slots : Nat} {Q : State → Prop} {cc : ByteArray} {pc : Nat} {ls : Array Slot} {rest : List Value} {nL : Nat} {own : String} {E : Ev} {σ : St} {L : List (Nat × va_E)}
theorem XR.gs (h : XR E σ L H0 H locs) : GS E σ H0 H locs := ⟨fun k z hk => h.1 k z (gW_lf hk), ⟨fun i j x y hi hj => h.2.1.1 i j x y (gW_lf hi) (gW_lf hj), fun k z hk => h.2.1.2 k z (gW_lf hk)⟩, h.2.2⟩
theorem XR.ne (h : XR E σ L H0 H locs) {k : Nat} {z : Nat × va_E} (hk : (gW E σ)[k]? = some z) {i : Nat} {x : Nat × va_E} (hi : L[i]? = some x) : x.1 ≠ z.1 := by
  intro e1
  have h1 := (List.getElem?_eq_some_iff.mp hk).1
  rw [gW_len] at h1
  have h2 := h.2.1.1 (248 + i) k x z (by rw [gW_ap]; exact hi) (gW_lf hk) e1
  omega
theorem XR.cutD (h : XR E σ L H0 H locs) : va_D (AE (eN E L)) (gW E σ) := ⟨h.gs.2.1.1, fun k z hk => ⟨h.gs.2.1.2 k z hk, fun x hx => by
  obtain ⟨i, hi⟩ := List.mem_iff_getElem?.mp hx
  exact h.ne hk hi⟩⟩
theorem XR.cutX (h : XR E σ L s.heap H locs) (hXW : XW E s s.heap) : XW (eN E L) s H := by
  have h1 := hXW.kept h.2.2.2.1
  have hA : ∀ z, AE (eN E L) z → AE E z := fun z hz => hz.1
  refine ⟨h1.1.narrow hA, h1.2.1.narrow hA, h1.2.2.1.narrow hA, h1.2.2.2.1, ?_, fun i hi => ⟨(h1.2.2.2.2.2 i hi).1, fun z => (h1.2.2.2.2.2 i hi).2 z.1⟩⟩
  obtain ⟨dg, d1, d2⟩ := h1.2.2.2.2.1
  exact ⟨dg, d1.narrow hA, d2.narrow hA⟩
/-- behind a call that was handed the world without what lies beside it -/
theorem XR.join {σ1 : St} {M : List (Nat × va_E)} {H1 : Heap} {locs1 : List Loc} (h : XR E σ L s.heap H locs) {U : State} (ht : U.heap = H1) (hB1 : va_P E.2.1 vwCl (gW E σ1 ++ M) U.heap) (hB2 : va_D (AE (eN E L)) (gW E σ1 ++ M)) (hk : ∀ q : Nat, q < H.size → ¬ AE (eN E L) q → H1[q]? = H[q]?) (hS1 : va_S (AE E) s.heap H1 locs1) : XR E σ1 (L ++ M) s.heap H1 locs1 := by
  subst ht
  have cut : ∀ (k : Nat) (z : Nat × va_E), (gW E σ1 ++ (L ++ M))[k]? = some z → (∃ j, L[j]? = some z ∧ k = 248 + j) ∨ (∃ j, (gW E σ1 ++ M)[j]? = some z ∧ ((j < 248 ∧ k = j) ∨ (248 ≤ j ∧ k = j + L.length))) := by
    intro k z hz
    by_cases c1 : k < 248
    · refine Or.inr ⟨k, ?_, Or.inl ⟨c1, rfl⟩⟩
      rw [List.getElem?_append_left (by rw [gW_len]; exact c1)] at hz ⊢
      exact hz
    · rw [List.getElem?_append_right (by rw [gW_len]; omega), gW_len] at hz
      by_cases c2 : k - 248 < L.length
      · rw [List.getElem?_append_left c2] at hz
        exact Or.inl ⟨k - 248, hz, by omega⟩
      · rw [List.getElem?_append_right (by omega)] at hz
        refine Or.inr ⟨248 + (k - 248 - L.length), ?_, Or.inr ⟨by omega, by omega⟩⟩
        rw [gW_ap]; exact hz
  have out : ∀ (j : Nat) (z : Nat × va_E), L[j]? = some z → ¬ AE (eN E L) z.1 := fun j z hj ha => ha.2 z (List.mem_of_getElem? hj) rfl
  have lt : ∀ (j : Nat) (z : Nat × va_E), L[j]? = some z → z.1 < H.size := fun j z hj => by
    have h1 := h.1 (248 + j) z (by rw [gW_ap]; exact hj)
    exact h1.lt
  refine ⟨fun k z hz => ?_, ⟨fun i j x y hx hy hxy => ?_, fun k z hz => ?_⟩, hS1⟩
  · rcases cut k z hz with ⟨j, hj, -⟩ | ⟨j, hj, -⟩
    · exact (h.1 (248 + j) z (by rw [gW_ap]; exact hj)).kept (hk z.1 (lt j z hj) (out j z hj))
    · exact hB1 j z hj
  · rcases cut i x hx with ⟨a, ha, ea⟩ | ⟨a, ha, ea⟩ <;> rcases cut j y hy with ⟨b, hb, eb⟩ | ⟨b, hb, eb⟩
    · have := h.2.1.1 (248 + a) (248 + b) x y (by rw [gW_ap]; exact ha) (by rw [gW_ap]; exact hb) hxy
      omega
    · exact absurd (hB2.2 b y hb) (by rw [← hxy]; exact out a x ha)
    · exact absurd (hB2.2 a x ha) (by rw [hxy]; exact out b y hb)
    · have := hB2.1 a b x y ha hb hxy
      omega
  · rcases cut k z hz with ⟨j, hj, -⟩ | ⟨j, hj, -⟩
    · exact h.2.1.2 (248 + j) z (by rw [gW_ap]; exact hj)
    · exact (hB2.2 j z hj).1
theorem XN_pre (hK : va_K E.2.1 vwCl (tysE E) s) (hNW : NW s) (hXW : XW E s s.heap) (hAn : ∀ q, s.heap.size ≤ q → AE E q) (hPV : PV s) (hG : XR E σ L s.heap H locs) (av : List Value) : ∀ U : State, U.heap = H → s.WarmedH U.vm → va_Pc av (XN E σ L none) av.toArray U := fun U hU hW => ⟨rfl, ⟨by rw [hU]; exact hG.1, va_K.moved hW.alike hK, hG.2.1, NW.warm hW hNW, XW.warm hW (by rw [hU]; exact hXW.kept hG.2.2.2.1)⟩, fun q hq => hAn q (Nat.le_trans hG.2.2.1 (by rw [← hU]; exact hq)), PV.warm hW hPV, trivial⟩
/-- .. the world alone, for what doesn't touch the rest -/
theorem XC_pre (hK : va_K E.2.1 vwCl (tysE E) s) (hNW : NW s) (hXW : XW E s s.heap) (hG : XR E σ L s.heap H locs) (av : List Value) : ∀ U : State, U.heap = H → s.WarmedH U.vm → va_Pc av (GB (eN E L) σ) av.toArray U := fun U hU hW => ⟨rfl, by rw [hU]; exact hG.gs.1, va_K.moved hW.alike hK, hG.cutD, NW.warm hW hNW, XW.warm hW (by rw [hU]; exact hG.cutX hXW)⟩
theorem x_endv {mc ms : Nat} {PL : List (Nat × va_E) → Prop} {av : Array Value} {st : List Value} (hr : va_Run p l e R s m args below meth c H locs cells slots mc ms (F0 m pc ls st) rest (va_Qv PL (fun u t => XB E σ u t) (AE E) av) (AE E)) (hG : XR E σ L s.heap H locs)
    (kk : ∀ (u : List (Nat × va_E)) (H1 : Heap) (locs1 : List Loc), PL u → XR E σ u s.heap H1 locs1 → W p l e R s m args below meth c H1 locs1 (cells + mc) (slots + ms) Q (F0 m (pc + 3) ls rest)) : W p l e R s m args below meth c H locs cells slots Q (F0 m pc ls st) :=
  va_callv hr hG.2.2 (fun q _ h => h) (fun q h => h) (fun u t H1 locs1 ht hvm hw hB hz1 hk1 hS1 => kk u H1 locs1 hw ⟨by rw [← ht]; exact hB.1, hB.2.2.1, hS1⟩)
theorem x_endi {mc ms : Nat} {PL : Int32 → List (Nat × va_E) → Prop} {av : Array Value} {st : List Value} (hr : va_Run p l e R s m args below meth c H locs cells slots mc ms (F0 m pc ls st) rest (va_Qi PL (fun u t => XB E σ u t) (AE E) av) (AE E)) (hG : XR E σ L s.heap H locs)
    (kk : ∀ (r : Int32) (u : List (Nat × va_E)) (H1 : Heap) (locs1 : List Loc), PL r u → XR E σ u s.heap H1 locs1 → W p l e R s m args below meth c H1 locs1 (cells + mc) (slots + ms) Q (F0 m (pc + 3) ls (.int r :: rest))) : W p l e R s m args below meth c H locs cells slots Q (F0 m pc ls st) :=
  va_calli hr hG.2.2 (fun q _ h => h) (fun q h => h) (fun r u t H1 locs1 ht hvm hw hB hz1 hk1 hS1 => kk r u H1 locs1 hw ⟨by rw [← ht]; exact hB.1, hB.2.2.1, hS1⟩)
theorem x_endr {mc ms : Nat} {PL : Nat → List (Nat × va_E) → Prop} {av : Array Value} {st : List Value} (hr : va_Run p l e R s m args below meth c H locs cells slots mc ms (F0 m pc ls st) rest (va_Qr (fun _ : List (Nat × va_E) => True) (fun u ra U => PL ra u ∧ XB E σ u U) (AE E) av) (AE E)) (hG : XR E σ L s.heap H locs)
    (kk : ∀ (r : Nat) (u : List (Nat × va_E)) (H1 : Heap) (locs1 : List Loc), PL r u → XR E σ u s.heap H1 locs1 → W p l e R s m args below meth c H1 locs1 (cells + mc) (slots + ms) Q (F0 m (pc + 3) ls (.ref r :: rest))) : W p l e R s m args below meth c H locs cells slots Q (F0 m pc ls st) :=
  va_callr hr hG.2.2 (fun q _ h => h) (fun q h => h) (fun u ra t H1 locs1 ht hvm hw hB hz1 hk1 hS1 => kk ra u H1 locs1 hB.1 ⟨by rw [← ht]; exact hB.2.1, hB.2.2.2.1, hS1⟩)
theorem fnJ4 : ∀ w ∈ u_ws RJ4 TJ4 4, w ∈ lw_tbl.filter goodWord := gw_ws inJ4 (by decide +kernel)
theorem fnJ0 : ∀ w ∈ u_ws RJ0 TJ0 4, w ∈ lw_tbl.filter goodWord := gw_ws inJ0 (by decide +kernel)
theorem x_get (X : Cx E p m c cc nL s args own) (hG : XR E σ L H0 H locs) {i q : Nat} {fs : List Value} (he : L[i]? = some (q, .inr (12, fs))) (j : Nat) (hj : j < 4) {index : Nat} (hw : Cond.fieldLink own index (TJ4 j).1 (TJ4 j).2.1 (TJ4 j).2.2.1 ∈ lw_tbl) {v : Value} (hv : fs[j]? = some v) (hdg : decode cc pc = .ok (.getfield index, 3))
    (kk : W p l e R s m args below meth c H locs cells slots Q (F0 m (pc + 3) ls (v :: rest))) : W p l e R s m args below meth c H locs cells slots Q (F0 m pc ls (.ref q :: rest)) := by
  obtain ⟨⟨hx, hb, hml, hown, hts⟩, hK, hNW, hXW⟩ := X
  exact va_get hx hb hts fnJ4 hown hK hG.1 (248 + i) (by rw [gW_ap]; exact he) rfl j hj (hts _ (gw_in hw rfl)) (fun _ h => h) hv hdg kk
theorem x_put (X : Cx E p m c cc nL s args own) (hG : XR E σ L H0 H locs) {i q : Nat} {fs : List Value} (he : L[i]? = some (q, .inr (12, fs))) (j : Nat) (hj : j < 4) {index : Nat} (hw : Cond.fieldLink own index (TJ4 j).1 (TJ4 j).2.1 (TJ4 j).2.2.1 ∈ lw_tbl) (hfin : (TJ4 j).2.2.2 = false) {ty : FieldType} {v : Value} (hd : parseFieldDescriptor (TJ4 j).2.2.1 = some ty) (hn : narrow ty v = v) (hfit : fits ty v = true) (hl : j < fs.length) (hdg : decode cc pc = .ok (.putfield index, 3))
    (kk : ∀ (H1 : Heap) (locs1 : List Loc), XR E σ (L.set i (q, .inr (12, fs.set j v))) H0 H1 locs1 → W p l e R s m args below meth c H1 locs1 cells slots Q (F0 m (pc + 3) ls rest)) : W p l e R s m args below meth c H locs cells slots Q (F0 m pc ls (v :: .ref q :: rest)) := by
  obtain ⟨⟨hx, hb, hml, hown, hts⟩, hK, hNW, hXW⟩ := X
  refine va_put hx hb hts fnJ4 tyJ4 tyJ4_ok nmJ4 hown hK hG.1 hG.2.1 hG.2.2 (248 + i) (by rw [gW_ap]; exact he) rfl j hj (hts _ (gw_in hw rfl)) (fun _ h => h) hfin hd hn hfit hl hdg (fun H1 locs1 a b d => ?_)
  rw [gW_st] at a b
  exact kk H1 locs1 ⟨a, b, d⟩
theorem x_putF (X : Cx E p m c cc nL s args own) (hG : XR E σ L H0 H locs) {i q : Nat} {fs : List Value} (he : L[i]? = some (q, .inr (11, fs))) (j : Nat) (hj : j < 4) {index : Nat} (hw : Cond.fieldLink own index (TJ0 j).1 (TJ0 j).2.1 (TJ0 j).2.2.1 ∈ lw_tbl) (hfin : (TJ0 j).2.2.2 = true) (hin2 : meth.name = "<init>") (hdecl : (TJ0 j).1 = own) {ty : FieldType} {v : Value} (hd : parseFieldDescriptor (TJ0 j).2.2.1 = some ty) (hn : narrow ty v = v) (hfit : fits ty v = true) (hl : j < fs.length) (hdg : decode cc pc = .ok (.putfield index, 3))
    (kk : ∀ (H1 : Heap) (locs1 : List Loc), XR E σ (L.set i (q, .inr (11, fs.set j v))) H0 H1 locs1 → W p l e R s m args below meth c H1 locs1 cells slots Q (F0 m (pc + 3) ls rest)) : W p l e R s m args below meth c H locs cells slots Q (F0 m pc ls (v :: .ref q :: rest)) := by
  obtain ⟨⟨hx, hb, hml, hown, hts⟩, hK, hNW, hXW⟩ := X
  refine va_putF hx hb hts fnJ0 tyJ0 tyJ0_ok nmJ0 hown hK hG.1 hG.2.1 hG.2.2 (248 + i) (by rw [gW_ap]; exact he) rfl j hj (hts _ (gw_in hw rfl)) (fun _ h => h) hfin hin2 hdecl hd hn hfit hl hdg (fun H1 locs1 a b d => ?_)
  rw [gW_st] at a b
  exact kk H1 locs1 ⟨a, b, d⟩
theorem x_len (X : Cx E p m c cc nL s args own) (hG : XR E σ L H0 H locs) {i q n : Nat} {f : Nat → Int32} (he : L[i]? = some (q, .inl (eB E, n, .inl f))) (hdg : decode cc pc = .ok (.arraylength, 1))
    (kk : W p l e R s m args below meth c H locs cells slots Q (F0 m (pc + 1) ls (.int (Int32.ofNat n) :: rest))) : W p l e R s m args below meth c H locs cells slots Q (F0 m pc ls (.ref q :: rest)) := by
  obtain ⟨⟨hx, hb, hml, hown, hts⟩, hK, hNW, hXW⟩ := X
  exact va_alen (x := (n, .inl f)) hx hb hK hG.1 (248 + i) 3 (by rw [gW_ap]; exact he) (ty := .byte) rfl rfl hdg kk
theorem x_bst (X : Cx E p m c cc nL s args own) (hG : XR E σ L H0 H locs) {i q n : Nat} {f : Nat → Int32} (he : L[i]? = some (q, .inl (eB E, n, .inl f))) {k x : Int32} (hi : vp_in k n) (hdg : decode cc pc = .ok (.bastore, 1))
    (kk : ∀ (H1 : Heap) (locs1 : List Loc), XR E σ (L.set i (q, .inl (eB E, n, .inl (upd f k.toNatClampNeg (vp_nar .byte x))))) H0 H1 locs1 → W p l e R s m args below meth c H1 locs1 cells slots Q (F0 m (pc + 1) ls rest)) : W p l e R s m args below meth c H locs cells slots Q (F0 m pc ls (.int x :: .int k :: .ref q :: rest)) := by
  obtain ⟨⟨hx, hb, hml, hown, hts⟩, hK, hNW, hXW⟩ := X
  refine va_bast hx hb hK hG.1 hG.2.1 hG.2.2 (248 + i) 3 (by rw [gW_ap]; exact he) rfl hi hdg (fun H1 locs1 a b d => ?_)
  rw [gW_st] at a b
  exact kk H1 locs1 ⟨a, b, d⟩
theorem x_new (X : Cx E p m c cc nL s args own) (hAn : ∀ q, s.heap.size ≤ q → AE E q) (hG : XR E σ L s.heap H locs) {n : Int32} {N : Nat} (hn : ¬ n < 0) (hN : n.toNatClampNeg = N) (hby : N * componentBytes .byte ≤ 536870912) (hc : cells + 1 ≤ R.cells) (hs : slots + N ≤ R.slots) (hdg : decode cc pc = .ok (.newarray .byte, 2))
    (kk : ∀ (q : Nat) (H1 : Heap), XR E σ (L ++ [(q, .inl (eB E, N, .inl (fun _ => 0)))]) s.heap H1 locs → W p l e R s m args below meth c H1 locs (cells + 1) (slots + N) Q (F0 m (pc + 2) ls (.ref q :: rest))) : W p l e R s m args below meth c H locs cells slots Q (F0 m pc ls (.int n :: rest)) := by
  obtain ⟨⟨hx, hb, hml, hown, hts⟩, hK, hNW, hXW⟩ := X
  refine va_newa (atype := .byte) hx hb (hts _ (gw_in mw860 rfl)) (ty := .byte) rfl hK hG.1 hG.2.1 hG.2.2 hAn (a0 := (N, .inl (fun _ => 0))) (fun _ => rfl) hn hN hby hc hs hdg (fun q cA H1 hK1 hP hD hS => ?_)
  have e1 : cA = eB E := by
    have a1 := (hK1.2 5 (cA, .byte) rfl).2
    have a2 := (hK.2 3 (eB E, .byte) rfl).2
    exact Option.some.inj (a1.symm.trans a2)
  subst e1
  rw [List.append_assoc] at hP hD
  exact kk q H1 ⟨hP, hD, hS⟩
theorem x_newO (X : Cx E p m c cc nL s args own) (hAn : ∀ q, s.heap.size ≤ q → AE E q) (hG : XR E σ L s.heap H locs) {C : String} {T : u_T} {N ci index : Nat} (hin : ∀ w ∈ u_ws C T N, w ∈ lw_tbl.filter goodWord) (ty : Nat → FieldType) (hty : ∀ k, k < N → parseFieldDescriptor (T k).2.2.1 = some (ty k)) (w1 : Cond.classLink own index C ∈ lw_tbl) (w2 : Cond.instantiable C N ∈ lw_tbl) (w3 : Cond.initialized C ∈ lw_tbl) (hcl : vwCl[ci]? = some (C, T, N)) {fs : List Value} (hfs : ∀ j, j < N → defaultValue (ty j) = vp_V fs j) (hc : cells + 1 ≤ R.cells) (hs : slots + N ≤ R.slots) (hdg : decode cc pc = .ok (.new index, 3))
    (kk : ∀ (q : Nat) (H1 : Heap), XR E σ (L ++ [(q, .inr (ci, fs))]) s.heap H1 locs → W p l e R s m args below meth c H1 locs (cells + 1) (slots + N) Q (F0 m (pc + 3) ls (.ref q :: rest))) : W p l e R s m args below meth c H locs cells slots Q (F0 m pc ls rest) := by
  obtain ⟨⟨hx, hb, hml, hown, hts⟩, hK, hNW, hXW⟩ := X
  refine va_new hx hb hts hin ty hty hown (hts _ (gw_in w1 rfl)) (hts _ (gw_in w2 rfl)) (hts _ (gw_in w3 rfl)) hK hG.1 hG.2.1 hG.2.2 hAn hcl hfs hc hs hdg (fun q H1 hP hD hS => ?_)
  rw [List.append_assoc] at hP hD
  exact kk q H1 ⟨hP, hD, hS⟩
/-- bytes that lie outside, copied into an array beside the world -/
theorem x_cpy (X : Cx E p m c cc nL s args own) (hls : ls.size = nL) (hG : XR E σ L s.heap H locs) {b0 n0 : Nat} {f : Nat → Int32} (hT : va_T .byte b0 n0 (fun j => .int (f j)) (AE E) s s.heap) {i q n1 : Nat} {g : Nat → Int32} (he : L[i]? = some (q, .inl (eB E, n1, .inl g))) {index : Nat} (w1 : Cond.methodLink own index arraycopyName ∈ lw_tbl) {sp dp n : Int32} (h1 : ¬ sp < 0) (h2 : ¬ dp < 0) (h3 : ¬ n < 0) (h4 : sp.toNatClampNeg + n.toNatClampNeg ≤ n0) (h5 : dp.toNatClampNeg + n.toNatClampNeg ≤ n1) (hfit : ∀ i : Nat, i < n.toNatClampNeg → fits .byte (.int (f (sp.toNatClampNeg + i))) = true)
    (hfr : 1 ≤ R.frames) (hlo : (rest.map fun v => v.category).sum + (nativeFrameWords "java/lang/System" "arraycopy" 5 + 11) ≤ R.locals) (hdg : decode cc pc = .ok (.invokestatic index, 3))
    (kk : ∀ (H1 : Heap) (locs1 : List Loc), XR E σ (L.set i (q, .inl (eB E, n1, .inl (va_cpy f g sp.toNatClampNeg dp.toNatClampNeg n.toNatClampNeg)))) s.heap H1 locs1 → W p l e R s m args below meth c H1 locs1 cells slots Q (F0 m (pc + 3) ls rest)) : W p l e R s m args below meth c H locs cells slots Q (F0 m pc ls (.int n :: .int dp :: .ref q :: .int sp :: .ref b0 :: rest)) := by
  obtain ⟨⟨hx, hb, hml, hown, hts⟩, hK, hNW, hXW⟩ := X
  refine vk_copyt hx hb (by rw [hml]; exact hls.symm) hown (hts _ (gw_in w1 rfl)) (hts _ (gw_in mw401 rfl)) (hts _ (gw_in mw400 rfl)) (hts _ (gw_in mw24 rfl)) hK hG.1 hG.2.1 hG.2.2 hT (248 + i) 3 (by rw [gW_ap]; exact he) rfl h1 h2 h3 h4 h5 hfit hfr hlo hdg (fun H1 locs1 a b d => ?_)
  rw [gW_st] at a b
  exact kk H1 locs1 ⟨a, b, d⟩
theorem x_recv (X : Cx E p m c cc nL s args own) (hG : XR E σ L H0 H locs) {i q ci : Nat} {fs : List Value} (he : L[i]? = some (q, .inr (ci, fs))) {C : String} {T : u_T} {N : Nat} (hc : vwCl[ci]? = some (C, T, N)) : ∃ cell : Cell, H[q]? = some cell ∧ cell.vm.isStatics = false ∧ s.vm.findClass C = some cell.cls :=
  va_recv (q := (C, T, N)) X.2.1 hG.1 hc (q0 := 248 + i) (by rw [gW_ap]; exact he)
theorem x_obj (X : Cx E p m c cc nL s args own) (hls : ls.size = nL) {idx : Nat} (w1 : Cond.methodLink own idx objectInit ∈ lw_tbl) {a : Addr} (hdg : decode cc pc = .ok (.invokespecial idx, 3)) (hfr : 1 ≤ R.frames) (hlo : 2 * (F0 m pc ls (.ref a :: rest)).monitorRoom + (rest.map fun v => v.category).sum + 12 ≤ R.locals)
    (kk : W p l e R s m args below meth c H locs cells slots Q (F0 m (pc + 3) ls rest)) : W p l e R s m args below meth c H locs cells slots Q (F0 m pc ls (.ref a :: rest)) := by
  obtain ⟨⟨hx, hb, hml, hown, hts⟩, hK, hNW, hXW⟩ := X
  exact W.objInit hx hb hown (hts _ (gw_in w1 rfl)) (hts _ (gw_in mw42 rfl)) (hts _ (gw_in mw43 rfl)) rfl (by rw [hml]; exact hls) rfl hdg hfr hlo kk
/-- a method of a text, which touches nothing -/
theorem x_text (X : Cx E p m c cc nL s args own) (hG : XR E σ L s.heap H locs) {y : MethodName} {bytes : ByteArray} {maxL d index z : Nat} {ret : Option FieldType} {r : Int32} (hi : okS E z) (hC : Mi l (eN E L) y bytes maxL ret d [.ref (eK E z)] σ σ r) (hyC : y.cls = "java/lang/String") (w1 : Cond.methodLink own index y ∈ lw_tbl) (w2 : Cond.instanceMethod y ∈ lw_tbl) (w3 : Cond.selects "java/lang/String" y y ∈ lw_tbl) (w4 : Cond.initialized "java/lang/String" ∈ lw_tbl) (hg : GoodIn (lw_tbl.filter goodWord) (wsM y bytes maxL ret)) (hd : y.cls ≠ "java/lang/invoke/MethodHandle" ∧ y.cls ≠ "java/lang/invoke/VarHandle" ∧ (parseMethodDescriptor y.desc).map (fun d => d.parameters.length) = some 0) (hR : d + 1 ≤ R.frames ∧ 8 + (maxL + 11) + 40 * d ≤ R.locals) (hls : ls.size = nL) (hW : (rest.map fun v => v.category).sum ≤ 8) (hcs : cells + 0 ≤ R.cells ∧ slots + 0 ≤ R.slots) (hdg : decode cc pc = .ok (.invokevirtual index, 3))
    (kk : ∀ (H1 : Heap) (locs1 : List Loc), XR E σ L s.heap H1 locs1 → W p l e R s m args below meth c H1 locs1 cells slots Q (F0 m (pc + 3) ls (.int r :: rest))) : W p l e R s m args below meth c H locs cells slots Q (F0 m pc ls (.ref (eK E z) :: rest)) := by
  obtain ⟨⟨hx, hb, hml, hown, hts⟩, hK, hNW, hXW⟩ := X
  refine va_calli (va_runV (As := []) ⟨hx, hb, hml, hown, hts⟩ hC (cwV 0 hts (fun w hw => (List.mem_append.mp hw).elim (fun h => by rcases List.mem_cons.mp h with rfl | h; exact ⟨gw_in w1 rfl, good_of_word rfl⟩; rcases List.mem_cons.mp h with rfl | h; exact ⟨gw_in w2 rfl, good_of_word rfl⟩; rcases List.mem_cons.mp h with rfl | h; exact ⟨gw_in w3 rfl, good_of_word rfl⟩; rcases List.mem_cons.mp h with rfl | h; exact ⟨gw_in w4 rfl, good_of_word rfl⟩; cases h) (hg w)) rfl rfl rfl ⟨hyC, hd⟩ hR) ⟨GB_blind, vk_recv hXW.2.2.1 (okS_at hi).1 hG.2.2, XC_pre hK hNW hXW hG _⟩ rfl rfl hls rfl (lv_room hW) hdg hcs) hG.2.2 (fun q _ h => h.1) (fun q h => h.1) (fun r1 u t H1 locs1 ht hvm hw hB hz1 hk1 hS1 => ?_)
  obtain ⟨rfl, rfl⟩ := hw
  have hB2 : XB (eN E L) u [] t := ⟨by rw [List.append_nil]; exact hB.1, hB.2.1, by rw [List.append_nil]; exact hB.2.2.1, hB.2.2.2⟩
  have h9 := hG.join ht hB2.1 hB2.2.2.1 hk1 hS1
  rw [List.append_nil] at h9
  exact kk H1 locs1 h9
theorem x_txT (X : Cx E p m c cc nL s args own) {z : Nat} (hi : okS E z) : va_T .byte (eV E z) (lnS z) (fun j => .int ((byS z).getD j 0)) (AE E) s s.heap := by
  obtain ⟨-, -, -, hXW⟩ := X
  have h4 := (hXW.2.2.1.1 (slS z) (okS_at hi).1).2.2.2
  rw [(okS_at hi).2.1, (okS_at hi).2.2] at h4
  exact h4
/-- a private method is what is selected, whatever the receiver's class -/
theorem sel_priv {y : MethodName} {C : String} {n : Nat} {st : State} {av : Array Value} (hins : (Cond.instantiable C n).before av st = true) (hpriv : (Cond.privateMethod y).before av st = true) (hinst : (Cond.instanceMethod y).before av st = true) (hsame : (Cond.sameMethod y.cls y.cls y.name y.desc).before av st = true) : (Cond.selects C y y).before av st = true := by
  obtain ⟨c1, k1, hc, -, -, -, -, -⟩ := Cond.instantiable_spec hins
  obtain ⟨ca, ck, r, h1, h2, hni, h3, h4⟩ := Cond.sameMethod_found hsame
  obtain ⟨mk, methM, hnamed, hmethM, -, -⟩ := Cond.instanceMethod_spec hinst
  have e : mk = r := Option.some.inj (hnamed.symm.trans h4)
  subst e
  have hcls : mk.cls = ca := Option.some.inj ((findClass_of_methodNamed hnamed).symm.trans h1)
  have hsel : selectMethod {} st.vm c1 mk = .method mk := selectMethod_private hmethM (Cond.privateMethod_at hpriv mk methM hnamed hmethM)
  simp only [Cond.before, Cond.holds, Cond.value, hc, h3, hnamed, hsel, hcls, h2]
  simp; exact hni
/-- what a call of a private method of AbstractStringBuilder asks -/
theorem cw_priv {y : MethodName} {bytes : ByteArray} {maxL index n d mc ms : Nat} {ret : Option FieldType} (hts : ∀ w ∈ lw_tbl.filter goodWord, w.before args s = true) (hyC : y.cls = RJ5) (w1 : Cond.methodLink own index y ∈ lw_tbl) (w2 : Cond.instanceMethod y ∈ lw_tbl) (hsel : (Cond.selects RJ4 y y).before #[] s = true) (w4 : Cond.sameMethod y.cls y.cls y.name y.desc ∈ lw_tbl) (hg : GoodIn (lw_tbl.filter goodWord) (wsM y bytes maxL ret)) (hd : y.cls ≠ "java/lang/invoke/MethodHandle" ∧ y.cls ≠ "java/lang/invoke/VarHandle" ∧ (parseMethodDescriptor y.desc).map (fun d => d.parameters.length) = some n) (hR : d + 1 ≤ R.frames ∧ 8 + (maxL + 11) + 40 * d ≤ R.locals) :
    va_CU R s args own RJ4 y.cls index y y bytes maxL ret (wsM y bytes maxL ret) (rmA d mc ms) mc ms n := by
  have hc : Cond.code y bytes maxL ret ∈ wsM y bytes maxL ret := List.mem_cons_self
  refine ⟨⟨rfl, rfl, hR.1, hR.2, pay_in hts hg, hc⟩, hts _ (hg _ hc).1, by rw [hyC]; exact hts _ (gw_in mw32 rfl), ⟨hd.1, hd.2.1⟩, fun sig h => ?_, hts _ (gw_in w1 rfl), hts _ (gw_in w4 rfl), va_Decl.of (hts _ (gw_in w2 rfl)) (hts _ (hg _ hc).1), word_at (State.WarmedH.refl s) (Or.inl rfl) hsel, hts _ (gw_in w2 rfl)⟩
  have h2 := hd.2.2
  rw [h] at h2
  exact (Option.some.inj h2).symm
/-! ends -/
theorem xe_v {mc ms : Nat} {PL : List (Nat × va_E) → Prop} (X : Bx E p m meth c cc nL none s args own) (hG : XR E σ L s.heap H locs) (hdg : decode cc pc = .ok (.return_, 1)) (hPL : PL L) (hc : cells ≤ mc) (hs : slots ≤ ms) : W p l e R s m args below meth c H locs cells slots (QXv E σ PL below args s mc ms) (F0 m pc ls []) := by
  obtain ⟨⟨⟨hx, hb, hml, hown, hts⟩, hK, hNW, hXW⟩, hr, hlk⟩ := X
  exact W.widen hc hs (W.vret hx hb hr (fun t ht hW => ⟨⟨L, rfl, hPL, by rw [ht]; exact hG.1, va_K.moved hW.alike hK, hG.2.1, NW.warm hW hNW, XW.warm hW (by rw [ht]; exact hXW.kept hG.2.2.2.1)⟩, hG.2.2.F ht⟩) hG.2.2.2.2 hdg hlk)
theorem xe_i {mc ms : Nat} {PL : Int32 → List (Nat × va_E) → Prop} (X : Bx E p m meth c cc nL (some .int) s args own) (hG : XR E σ L s.heap H locs) {x : Int32} (hdg : decode cc pc = .ok (.ireturn, 1)) (hPL : PL x L) (hc : cells ≤ mc) (hs : slots ≤ ms) : W p l e R s m args below meth c H locs cells slots (QXi E σ PL below args s mc ms) (F0 m pc ls [.int x]) := by
  obtain ⟨⟨⟨hx, hb, hml, hown, hts⟩, hK, hNW, hXW⟩, hr, hlk⟩ := X
  exact W.widen hc hs (W.iret (v := x) hx hb hr (fun t ht hW => ⟨⟨x, L, rfl, hPL, by rw [ht]; exact hG.1, va_K.moved hW.alike hK, hG.2.1, NW.warm hW hNW, XW.warm hW (by rw [ht]; exact hXW.kept hG.2.2.2.1)⟩, hG.2.2.F ht⟩) hG.2.2.2.2 hdg hlk)
theorem xe_z {mc ms : Nat} {ty : FieldType} {PL : Int32 → List (Nat × va_E) → Prop} (X : Bx E p m meth c cc nL (some ty) s args own) (hG : XR E σ L s.heap H locs) {x : Int32} (hn : narrow ty (.int x) = .int x) (hdg : decode cc pc = .ok (.ireturn, 1)) (hPL : PL x L) (hc : cells ≤ mc) (hs : slots ≤ ms) : W p l e R s m args below meth c H locs cells slots (QXi E σ PL below args s mc ms) (F0 m pc ls [.int x]) := by
  obtain ⟨⟨⟨hx, hb, hml, hown, hts⟩, hK, hNW, hXW⟩, hr, hlk⟩ := X
  exact W.widen hc hs (W.zret (v := x) hx hb hr hn (fun t ht hW => ⟨⟨x, L, rfl, hPL, by rw [ht]; exact hG.1, va_K.moved hW.alike hK, hG.2.1, NW.warm hW hNW, XW.warm hW (by rw [ht]; exact hXW.kept hG.2.2.2.1)⟩, hG.2.2.F ht⟩) hG.2.2.2.2 hdg hlk)
theorem xe_r {mc ms : Nat} {rt : FieldType} {PL : Nat → List (Nat × va_E) → Prop} (X : Bx E p m meth c cc nL (some rt) s args own) (hrt : (∃ n, rt = .object n) ∨ ∃ t, rt = .array t) (hG : XR E σ L s.heap H locs) {x : Nat} (hdg : decode cc pc = .ok (.areturn, 1)) (hPL : PL x L) (hc : cells ≤ mc) (hs : slots ≤ ms) : W p l e R s m args below meth c H locs cells slots (QXr E σ PL below args s mc ms) (F0 m pc ls [.ref x]) := by
  obtain ⟨⟨⟨hx, hb, hml, hown, hts⟩, hK, hNW, hXW⟩, hr, hlk⟩ := X
  exact W.widen hc hs (W.aret (v := .ref x) hx hb hr hrt (Or.inr ⟨x, rfl⟩) (fun t ht hW => ⟨⟨L, x, rfl, trivial, hPL, by rw [ht]; exact hG.1, va_K.moved hW.alike hK, hG.2.1, NW.warm hW hNW, XW.warm hW (by rw [ht]; exact hXW.kept hG.2.2.2.1)⟩, hG.2.2.F ht⟩) hG.2.2.2.2 hdg hlk)
end GLX
theorem Xv_of {l : Launch} {E : Ev} {y : MethodName} {cc : ByteArray} {nL d mc ms : Nat} {av : List Value} {σ : St} {L : List (Nat × va_E)} {C : String} {PL : List (Nat × va_E) → Prop} (hC : y.cls = C) (hy : plainFor y = true) (hn : (lg_sl av).length ≤ nL)
    (body : ∀ (p : Program) (e : Env) (s : State) (m : MethodId) (below : List Frame) (meth : Method) (c : Code) (ls : Array Slot), Bx E p m meth c cc nL none s av.toArray C → (∀ q, s.heap.size ≤ q → AE E q) → PV s → XR E σ L s.heap s.heap [] → lv_has ls nL (lv_args 0 av) → (∀ nm, y.name = nm → meth.name = nm) → W p l e (rmA d mc ms) s m av.toArray below meth c s.heap [] 0 0 (QXv E σ PL below av.toArray s mc ms) (F0 m 0 ls [])) : Xv l E y cc nL d mc ms av σ L PL := by
  unfold Xv
  refine MetFree.of_bodySF (code := cc) (maxLocals := nL) (ret := none) hy ?_ ?_
  · intro args s m h hn
    obtain ⟨meth, c, h1, h2, h3, h4, h5, h6, -, -⟩ := Cond.code_spec hn (atoms_spec (ws := wsM y cc nL none) h _ List.mem_cons_self)
    exact ⟨meth, c, h1, h2, h3, h4, h5, h6⟩
  · intro p e s m args below meth c s₁ B hml hv _
    have hh0 : s₁.heap = s.heap := by rw [B.state]; rfl
    obtain ⟨rfl, ⟨hP, hK, hD, hNW, hXW⟩, hAn, hPV, hT⟩ := hv
    subst hC
    have hts := atoms_spec (ws := wsM y cc nL none) B.pre
    have hl := lv_entry av (n := nL) hn
    have key := body p e s m below meth c _ ⟨⟨⟨B.exec, B.bytes, hml, findClass_of_methodNamed B.named, fun w hw => hts w (List.mem_cons_of_mem _ hw)⟩, hK, hNW, hXW⟩, B.returns, B.notSynchronized⟩ hAn hPV ⟨hP, hD, va_S.rf⟩ hl (fun nm h => (name_of_methodNamed B.named B.method).1.trans h)
    rw [← lg_entry_eq] at key
    obtain ⟨t, a1, o, b1, b2, b3⟩ := key s₁ hh0 (Stand.of_body B)
    exact ⟨t, o, a1, b1, b2, ⟨b3.1, b3.2⟩⟩
theorem Xi_of {l : Launch} {E : Ev} {y : MethodName} {cc : ByteArray} {nL d mc ms : Nat} {ret : Option FieldType} {av : List Value} {σ : St} {L : List (Nat × va_E)} {C : String} {PL : Int32 → List (Nat × va_E) → Prop} (hC : y.cls = C) (hy : plainFor y = true) (hn : (lg_sl av).length ≤ nL)
    (body : ∀ (p : Program) (e : Env) (s : State) (m : MethodId) (below : List Frame) (meth : Method) (c : Code) (ls : Array Slot), Bx E p m meth c cc nL ret s av.toArray C → (∀ q, s.heap.size ≤ q → AE E q) → PV s → XR E σ L s.heap s.heap [] → lv_has ls nL (lv_args 0 av) → (∀ nm, y.name = nm → meth.name = nm) → W p l e (rmA d mc ms) s m av.toArray below meth c s.heap [] 0 0 (QXi E σ PL below av.toArray s mc ms) (F0 m 0 ls [])) : Xi l E y cc nL ret d mc ms av σ L PL := by
  unfold Xi
  refine MetFree.of_bodySF (code := cc) (maxLocals := nL) (ret := ret) hy ?_ ?_
  · intro args s m h hn
    obtain ⟨meth, c, h1, h2, h3, h4, h5, h6, -, -⟩ := Cond.code_spec hn (atoms_spec (ws := wsM y cc nL ret) h _ List.mem_cons_self)
    exact ⟨meth, c, h1, h2, h3, h4, h5, h6⟩
  · intro p e s m args below meth c s₁ B hml hv _
    have hh0 : s₁.heap = s.heap := by rw [B.state]; rfl
    obtain ⟨rfl, ⟨hP, hK, hD, hNW, hXW⟩, hAn, hPV, hT⟩ := hv
    subst hC
    have hts := atoms_spec (ws := wsM y cc nL ret) B.pre
    have hl := lv_entry av (n := nL) hn
    have key := body p e s m below meth c _ ⟨⟨⟨B.exec, B.bytes, hml, findClass_of_methodNamed B.named, fun w hw => hts w (List.mem_cons_of_mem _ hw)⟩, hK, hNW, hXW⟩, B.returns, B.notSynchronized⟩ hAn hPV ⟨hP, hD, va_S.rf⟩ hl (fun nm h => (name_of_methodNamed B.named B.method).1.trans h)
    rw [← lg_entry_eq] at key
    obtain ⟨t, a1, o, b1, b2, b3⟩ := key s₁ hh0 (Stand.of_body B)
    exact ⟨t, o, a1, b1, b2, ⟨b3.1, b3.2⟩⟩
theorem Xr_of {l : Launch} {E : Ev} {y : MethodName} {cc : ByteArray} {nL d mc ms : Nat} {ret : Option FieldType} {av : List Value} {σ : St} {L : List (Nat × va_E)} {t : Option (Nat × (Nat → Int32))} {C : String} {PL : Nat → List (Nat × va_E) → Prop} (hC : y.cls = C) (hy : plainFor y = true) (hn : (lg_sl av).length ≤ nL)
    (body : ∀ (p : Program) (e : Env) (s : State) (m : MethodId) (below : List Frame) (meth : Method) (c : Code) (ls : Array Slot), Bx E p m meth c cc nL ret s av.toArray C → (∀ q, s.heap.size ≤ q → AE E q) → PV s → XT E t s → XR E σ L s.heap s.heap [] → lv_has ls nL (lv_args 0 av) → (∀ nm, y.name = nm → meth.name = nm) → W p l e (rmA d mc ms) s m av.toArray below meth c s.heap [] 0 0 (QXr E σ PL below av.toArray s mc ms) (F0 m 0 ls [])) : Xr l E y cc nL ret d mc ms av σ L t PL := by
  unfold Xr
  refine MetFree.of_bodySF (code := cc) (maxLocals := nL) (ret := ret) hy ?_ ?_
  · intro args s m h hn
    obtain ⟨meth, c, h1, h2, h3, h4, h5, h6, -, -⟩ := Cond.code_spec hn (atoms_spec (ws := wsM y cc nL ret) h _ List.mem_cons_self)
    exact ⟨meth, c, h1, h2, h3, h4, h5, h6⟩
  · intro p e s m args below meth c s₁ B hml hv _
    have hh0 : s₁.heap = s.heap := by rw [B.state]; rfl
    obtain ⟨rfl, ⟨hP, hK, hD, hNW, hXW⟩, hAn, hPV, hT⟩ := hv
    subst hC
    have hts := atoms_spec (ws := wsM y cc nL ret) B.pre
    have hl := lv_entry av (n := nL) hn
    have key := body p e s m below meth c _ ⟨⟨⟨B.exec, B.bytes, hml, findClass_of_methodNamed B.named, fun w hw => hts w (List.mem_cons_of_mem _ hw)⟩, hK, hNW, hXW⟩, B.returns, B.notSynchronized⟩ hAn hPV hT ⟨hP, hD, va_S.rf⟩ hl (fun nm h => (name_of_methodNamed B.named B.method).1.trans h)
    rw [← lg_entry_eq] at key
    obtain ⟨t, a1, o, b1, b2, b3⟩ := key s₁ hh0 (Stand.of_body B)
    exact ⟨t, o, a1, b1, b2, ⟨b3.1, b3.2⟩⟩
