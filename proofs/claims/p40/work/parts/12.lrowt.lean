/-! more rows: numbers that are none, calls that answer long numbers, arrays that are made, ends with room -/
theorem nan64_dec {x : UInt64} (h : isNaN64 x = true) : FP.Core.decode FP.Core.b64 x.toNat = .nan := by
  simp only [isNaN64, decide_eq_true_eq, gt_iff_lt, UInt64.lt_iff_toNat_lt, UInt64.toNat_and] at h
  have h1 : x.toNat &&& (0x7fffffffffffffff : UInt64).toNat = x.toNat % 2 ^ 63 := Nat.and_two_pow_sub_one_eq_mod x.toNat 63
  rw [h1] at h
  have h2 : (0x7ff0000000000000 : UInt64).toNat = 2047 * 4503599627370496 := rfl
  rw [h2] at h
  have e1 : FP.Core.fieldE FP.Core.b64 x.toNat = x.toNat / 4503599627370496 % 2048 := rfl
  have e2 : FP.Core.fieldT FP.Core.b64 x.toNat = x.toNat % 4503599627370496 := rfl
  have e3 : FP.Core.b64.exps - 1 = 2047 := rfl
  unfold FP.Core.decode
  rw [e1, e2, e3, if_pos (by omega), if_neg (by omega)]
theorem nan32_dec {x : UInt32} (h : isNaN32 x = true) : FP.Core.decode FP.Core.b32 x.toNat = .nan := by
  simp only [isNaN32, decide_eq_true_eq, gt_iff_lt, UInt32.lt_iff_toNat_lt, UInt32.toNat_and] at h
  have h1 : x.toNat &&& (0x7fffffff : UInt32).toNat = x.toNat % 2 ^ 31 := Nat.and_two_pow_sub_one_eq_mod x.toNat 31
  rw [h1] at h
  have h2 : (0x7f800000 : UInt32).toNat = 255 * 8388608 := rfl
  rw [h2] at h
  have e1 : FP.Core.fieldE FP.Core.b32 x.toNat = x.toNat / 8388608 % 256 := rfl
  have e2 : FP.Core.fieldT FP.Core.b32 x.toNat = x.toNat % 8388608 := rfl
  have e3 : FP.Core.b32.exps - 1 = 255 := rfl
  unfold FP.Core.decode
  rw [e1, e2, e3, if_pos (by omega), if_neg (by omega)]
theorem dcmp_nan {x : UInt64} (h : isNaN64 x = true) : FP.Core.dcmp x x = none := by
  show FP.Core.order (FP.Core.decode FP.Core.b64 x.toNat) (FP.Core.decode FP.Core.b64 x.toNat) = none
  rw [nan64_dec h]; rfl
theorem fcmp_nan {x : UInt32} (h : isNaN32 x = true) : FP.Core.fcmp x x = none := by
  show FP.Core.order (FP.Core.decode FP.Core.b32 x.toNat) (FP.Core.decode FP.Core.b32 x.toNat) = none
  rw [nan32_dec h]; rfl
theorem alike64_or {x v : UInt64} (h : alike64 x v = true) : x = v ∨ (isNaN64 x = true ∧ isNaN64 v = true) := by
  unfold alike64 at h
  rcases (Bool.or_eq_true _ _).mp h with h | h
  · exact Or.inl (of_decide_eq_true h)
  · exact Or.inr ((Bool.and_eq_true _ _).mp h)
theorem alike32_or {x v : UInt32} (h : alike32 x v = true) : x = v ∨ (isNaN32 x = true ∧ isNaN32 v = true) := by
  unfold alike32 at h
  rcases (Bool.or_eq_true _ _).mp h with h | h
  · exact Or.inl (of_decide_eq_true h)
  · exact Or.inr ((Bool.and_eq_true _ _).mp h)
theorem dlB_nan {x : UInt64} (h : isNaN64 x = true) : dlB x = 9221120237041090560 := by
  have h1 : FP.dcmp x x = none := dcmp_nan h
  unfold dlB
  rw [h1, if_neg (by decide)]
theorem flB_nan {x : UInt32} (h : isNaN32 x = true) : flB x = 2143289344 := by
  have h1 : FP.fcmp x x = none := fcmp_nan h
  unfold flB
  rw [h1, if_neg (by decide)]
theorem dlB_alike {x v : UInt64} (h : alike64 x v = true) : dlB x = dlB v := by
  rcases alike64_or h with rfl | ⟨h1, h2⟩
  · rfl
  · rw [dlB_nan h1, dlB_nan h2]
theorem flB_alike {x v : UInt32} (h : alike32 x v = true) : flB x = flB v := by
  rcases alike32_or h with rfl | ⟨h1, h2⟩
  · rfl
  · rw [flB_nan h1, flB_nan h2]
def bletL {α : Type} (v : Int64) (K : Int64 → Option α) : Option α := K v
def rmA (d mc ms : Nat) : Room := { frames := d, cells := mc, slots := ms, locals := 40 * d }
/-- the world with room for what is made -/
def GN (E : Ev) (σ : St) (U : State) : Prop := GB E σ U ∧ ∀ q, U.heap.size ≤ q → AE E q
def QIm (E : Ev) (z : St × Int32) (below : List Frame) (args : Array Value) (s : State) (mc ms : Nat) : State → Prop := MQ below (va_Qi (fun (r' : Int32) (u : St) => r' = z.2 ∧ u = z.1) (GB E) (AE E)) args s mc ms (AE E)
def QZD (E : Ev) (z : St × Int32) (below : List Frame) (args : Array Value) (s : State) (mc ms : Nat) : State → Prop := MQD lw_cs below (va_Qi (fun (r' : Int32) (u : St) => r' = z.2 ∧ u = z.1) (GB E) (AE E)) args s mc ms (AE E)
def Mim (l : Launch) (E : Ev) (y : MethodName) (cc : ByteArray) (nL : Nat) (ret : Option FieldType) (d mc ms : Nat) (av : List Value) (σ σ' : St) (r : Int32) : Prop := Met l y (wsM y cc nL ret) (rmA d mc ms) (va_Pc av (GN E σ)) (va_Qi (fun (r' : Int32) (u : St) => r' = r ∧ u = σ') (GB E) (AE E)) mc ms (AE E)
def MzD (l : Launch) (E : Ev) (y : MethodName) (cc : ByteArray) (nL d mc ms : Nat) (av : List Value) (σ σ' : St) (r : Int32) : Prop := MetD lw_cs l y (wsM y cc nL (some .boolean)) (rmA d mc ms) (va_Pc av (GN E σ)) (va_Qi (fun (r' : Int32) (u : St) => r' = r ∧ u = σ') (GB E) (AE E)) mc ms (AE E)
section R16
variable {p : Program} {l : Launch} {e : Env} {R : Room} {s : State} {m : MethodId} {args : Array Value} {below : List Frame} {meth : Method} {c : Code} {H : Heap} {locs : List Loc} {cells slots : Nat}
theorem run16 {y : MethodName} {bytes cc : ByteArray} {maxL nL mc ms n index : Nat} {ret : Option FieldType} {ws : List Cond} {rm : Room} {Pc : Array Value → State → Prop} {Qc : Array Value → State → Outcome → State → Prop} {free : Addr → Prop} {Ts : List Cond} {own C : String} {b : Addr} {As rest : List Value} {g : JFrame}
    (S : CallFix p m c cc nL s args Ts own) (hM : Met l y ws rm Pc Qc mc ms free) (cw : CallW R s args own C index y bytes maxL ret ws rm mc ms n) (hlo16 : 16 + (maxL + 11) + rm.locals ≤ R.locals) (hp : PreV s H C b Pc As)
    (hg : g.method = m) (hn : As.length = n) (hsize : g.locals.size = nL) (hstack : g.stack = As.reverse ++ .ref b :: rest) (hW : 2 * g.monitorRoom + (rest.map fun v => v.category).sum ≤ 16) (hdg : decode cc g.pc = .ok (.invokevirtual index, 3)) (hf : cells + mc ≤ R.cells ∧ slots + ms ≤ R.slots) :
    va_Run p l e R s m args below meth c H locs cells slots mc ms g rest (Qc (Value.ref b :: As).toArray) (free) := by
  have hK : Back l R p e below s args y 3 16 (PreOf R mc ms Pc) (PostOf Qc mc ms free) := by
    obtain ⟨hrc, hrs, hfr, hlo, hws, hcw, -, hini, -⟩ := cw.1
    exact back_of (bytes := bytes) (maxL := maxL) (ret := ret) hM hp.1 hrc hrs hfr hlo16 hws hcw (fun a' U hW => word_at hW (Or.inl (by first | rfl | simp [Cond.onTables, Cond.keeps, Cond.steady])) hini)
  obtain ⟨⟨-, -, -, -, -, -, hcode, -, hy, hlen, hl⟩, hin, hse⟩ := cw
  obtain ⟨hx, hb, hml, ho, -⟩ := S
  obtain ⟨-, ⟨cellB, hcB, hoB, hclB⟩, hPc⟩ := hp
  intro T hT X
  obtain ⟨v, vm₁, ⟨U', l2, c2, s2⟩, hW₁, X', ⟨g', mk, t, L, e1, e2, hq, h1, hL, h2, h3⟩, st⟩ := callV X hx (C := C) (bytes := bytes) (maxL := maxL) (ret := ret) ho hl hin hse hcode hy hK (by rw [hT]; exact hcB) hoB hclB hg (hsize.trans hml.symm) (argsL := As) (rest := rest) (fun sig h => hn.trans (hlen sig h)) hstack hW (by rw [hb]; exact hdg)
    (fun vm₁ hW₁ => ⟨hf.1, hf.2, hPc (T.setVm vm₁) hT hW₁⟩)
  dsimp only [Pt.U, Pt.locs, Pt.cells, Pt.slots] at X' e1 e2 h1 h2 h3 st
  subst h1; subst h2; subst h3
  exact ⟨v, (T.setVm vm₁).calling g' mk (Value.ref b :: As).toArray, t, U', L, hT, X', hL, e1, e2, hq, st⟩
theorem room16 {pc : Nat} {ls : Array Slot} {rest st : List Value} (h : (st.map fun v => v.category).sum ≤ 16) : 2 * (F0 m pc ls rest).monitorRoom + (st.map fun v => v.category).sum ≤ 16 := by
  show 2 * 0 + _ ≤ 16
  omega
end R16
section GLS
variable {p : Program} {l : Launch} {e : Env} {R : Room} {s s0 : State} {m : MethodId} {args : Array Value} {below : List Frame} {meth : Method} {c : Code} {H H0 : Heap} {locs : List Loc} {cells slots : Nat} {Q : State → Prop} {cc : ByteArray} {pc : Nat} {ls : Array Slot} {rest : List Value} {nL : Nat} {own : String} {E : Ev} {σ : St} {ret : Option FieldType}
theorem g_nameL {α : Type} {K : Int64 → Option α} {z : α} {v : Int64} (hM : bletL v K = some z) (kk : ∀ x : Int64, K x = some z → W p l e R s m args below meth c H locs cells slots Q (F0 m pc ls (.long x :: rest))) : W p l e R s m args below meth c H locs cells slots Q (F0 m pc ls (.long v :: rest)) := kk v hM
theorem e_zretM {ty : FieldType} {mc ms : Nat} (X : Bx E p m meth c cc nL (some ty) s args own) (hG : GS E σ s.heap H locs) {x : Int32} {z : St × Int32} (hn : narrow ty (.int x) = .int x) (hdg : decode cc pc = .ok (.ireturn, 1)) (hM : some (σ, x) = some z) (hc : cells ≤ mc) (hs : slots ≤ ms) : W p l e R s m args below meth c H locs cells slots (QIm E z below args s mc ms) (F0 m pc ls [.int x]) := by
  obtain ⟨⟨⟨hx, hb, hml, hown, hts⟩, hK, hNW, hXW⟩, hr, hlk⟩ := X
  cases hM
  exact W.widen hc hs (W.zret (v := x) hx hb hr hn (fun t ht hW => ⟨⟨x, σ, rfl, ⟨rfl, rfl⟩, by rw [ht]; exact hG.1, va_K.moved hW.alike hK, hG.2.1, NW.warm hW hNW, XW.warm hW (by rw [ht]; exact hXW.kept hG.2.2.2.1)⟩, hG.2.2.F ht⟩) hG.2.2.2.2 hdg hlk)
theorem e_zretD {mc ms : Nat} (X : Bx E p m meth c cc nL (some .boolean) s args own) (hs0 : Dr s0 s) (hG : GS E σ s.heap H locs) {x : Int32} {z : St × Int32} (hn : narrow .boolean (.int x) = .int x) (hdg : decode cc pc = .ok (.ireturn, 1)) (hM : some (σ, x) = some z) (hc : cells ≤ mc) (hs : slots ≤ ms) : W p l e R s m args below meth c H locs cells slots (QZD E z below args s0 mc ms) (F0 m pc ls [.int x]) := by
  obtain ⟨d, rfl, hd⟩ := hs0
  obtain ⟨⟨⟨hx, hb, hml, hown, hts⟩, hK, hNW, hXW⟩, hr, hlk⟩ := X
  cases hM
  refine W.endD hd ?_
  exact W.widen hc hs (W.zret (v := x) hx hb hr hn (fun t ht hW => ⟨⟨x, σ, rfl, ⟨rfl, rfl⟩, by rw [ht]; exact hG.1, va_K.moved hW.alike hK, hG.2.1, NW.warm hW hNW, XW.warm hW (by rw [ht]; exact hXW.kept hG.2.2.2.1)⟩, hG.2.2.F ht⟩) hG.2.2.2.2 hdg hlk)
/-- the world, and a row of whole numbers that was made -/
def AR (E : Ev) (σ : St) (q n : Nat) (f : Nat → Int32) (H0 H : Heap) (locs : List Loc) : Prop := va_P E.2.1 vwCl (gW E σ ++ [(q, .inl (E.2.2.2.1, n, .inl f))]) H ∧ va_D (AE E) (gW E σ ++ [(q, .inl (E.2.2.2.1, n, .inl f))]) ∧ va_S (AE E) H0 H locs
theorem gW_app (E : Ev) (σ : St) (x : Nat × va_E) : (gW E σ ++ [x])[248]? = some x := by
  rw [List.getElem?_append_right (by rw [gW_len]; exact Nat.le_refl _), gW_len]; rfl
theorem a_new (X : Cx E p m c cc nL s args own) (hAn : ∀ q, s.heap.size ≤ q → AE E q) (hG : GS E σ s.heap H locs) {n : Int32} {N : Nat} (hn : ¬ n < 0) (hN : n.toNatClampNeg = N) (hby : N * componentBytes .int ≤ 536870912) (hc : cells + 1 ≤ R.cells) (hs : slots + N ≤ R.slots) (hdg : decode cc pc = .ok (.newarray .int, 2))
    (kk : ∀ (q : Nat) (H1 : Heap), AR E σ q N (fun _ => 0) s.heap H1 locs → W p l e R s m args below meth c H1 locs (cells + 1) (slots + N) Q (F0 m (pc + 2) ls (.ref q :: rest))) : W p l e R s m args below meth c H locs cells slots Q (F0 m pc ls (.int n :: rest)) := by
  obtain ⟨⟨hx, hb, hml, hown, hts⟩, hK, hNW, hXW⟩ := X
  refine va_newa (atype := .int) hx hb (hts _ (gw_in mw66 rfl)) (ty := .int) rfl hK hG.1 hG.2.1 hG.2.2 hAn (a0 := (N, .inl (fun _ => 0))) (fun _ => rfl) hn hN hby hc hs hdg (fun q cA H1 hK1 hP hD hS => ?_)
  have e1 : cA = E.2.2.2.1 := by
    have a1 := (hK1.2 5 (cA, .int) rfl).2
    have a2 := (hK.2 1 (E.2.2.2.1, .int) rfl).2
    exact Option.some.inj (a1.symm.trans a2)
  subst e1
  exact kk q H1 ⟨hP, hD, hS⟩
theorem a_ast (X : Cx E p m c cc nL s args own) {q n : Nat} {f : Nat → Int32} (hG : AR E σ q n f s.heap H locs) {i x : Int32} (hi : vp_in i n) (hdg : decode cc pc = .ok (.iastore, 1))
    (kk : ∀ (H1 : Heap) (locs1 : List Loc), AR E σ q n (upd f i.toNatClampNeg x) s.heap H1 locs1 → W p l e R s m args below meth c H1 locs1 cells slots Q (F0 m (pc + 1) ls rest)) : W p l e R s m args below meth c H locs cells slots Q (F0 m pc ls (.int x :: .int i :: .ref q :: rest)) := by
  obtain ⟨⟨hx, hb, hml, hown, hts⟩, hK, hNW, hXW⟩ := X
  refine va_iast hx hb hK hG.1 hG.2.1 hG.2.2 248 1 (gW_app E σ _) rfl hi hdg (fun H1 locs1 a b d => ?_)
  have e1 : (gW E σ ++ [(q, (.inl (E.2.2.2.1, n, .inl f) : va_E))]).set 248 (q, .inl (E.2.2.2.1, n, .inl (upd f i.toNatClampNeg x))) = gW E σ ++ [(q, .inl (E.2.2.2.1, n, .inl (upd f i.toNatClampNeg x)))] := by
    rw [List.set_append_right _ _ (by rw [gW_len]; exact Nat.le_refl _), gW_len]; rfl
  rw [e1] at a b
  exact kk H1 locs1 ⟨a, b, d⟩
theorem AR.GS {q n : Nat} {f : Nat → Int32} (h : AR E σ q n f H0 H locs) : GS E σ H0 H locs := ⟨fun k z hk => h.1 k z (by rw [List.getElem?_append_left (List.getElem?_eq_some_iff.mp hk).1]; exact hk), ⟨fun i j x y hi hj => h.2.1.1 i j x y (by rw [List.getElem?_append_left (List.getElem?_eq_some_iff.mp hi).1]; exact hi) (by rw [List.getElem?_append_left (List.getElem?_eq_some_iff.mp hj).1]; exact hj), fun k z hk => h.2.1.2 k z (by rw [List.getElem?_append_left (List.getElem?_eq_some_iff.mp hk).1]; exact hk)⟩, h.2.2⟩
theorem AR.ne {q n : Nat} {f : Nat → Int32} (h : AR E σ q n f H0 H locs) {k : Nat} {z : Nat × va_E} (hk : (gW E σ)[k]? = some z) : z.1 ≠ q := by
  intro e1
  have h1 := (List.getElem?_eq_some_iff.mp hk).1
  rw [gW_len] at h1
  have h2 := h.2.1.1 k 248 z _ (by rw [List.getElem?_append_left (List.getElem?_eq_some_iff.mp hk).1]; exact hk) (gW_app E σ _) e1
  omega
/-- the world as a method sees it to which the row that was made is handed -/
def eA (E : Ev) (q n : Nat) (f : Nat → Int32) : Ev := (E.1, (E.2.1, (E.2.2.1, (E.2.2.2.1, (E.2.2.2.2.1, (E.2.2.2.2.2.1, (E.2.2.2.2.2.2.1, (E.2.2.2.2.2.2.2.1, (E.2.2.2.2.2.2.2.2.1, (E.2.2.2.2.2.2.2.2.2.1, ((fun z => AE E z ∧ z ≠ q), ((fun i => if i = nX E then (q, (n, f)) else eX E i), nX E + 1))))))))))))
theorem AR.X {q n : Nat} {f : Nat → Int32} (h : AR E σ q n f s.heap H locs) (hK : va_K E.2.1 vwCl (tysE E) s) (hXW : XW E s s.heap) : XW (eA E q n f) s H := by
  have h1 := hXW.kept h.2.2.2.1
  have hA : ∀ z, AE (eA E q n f) z → AE E z := fun z hz => hz.1
  refine ⟨h1.1.narrow hA, h1.2.1.narrow hA, h1.2.2.1.narrow hA, h1.2.2.2.1, ?_, fun i hi => ?_⟩
  · obtain ⟨dg, d1, d2⟩ := h1.2.2.2.2.1
    exact ⟨dg, d1.narrow hA, d2.narrow hA⟩
  · by_cases c1 : i = nX E
    · subst c1
      have e1 : eX (eA E q n f) (nX E) = (q, (n, f)) := if_pos rfl
      rw [e1]
      refine ⟨⟨vp_cell E.2.2.2.1 (n, .inl f), h.1 248 _ (gW_app E σ _), (hK.2 1 _ rfl).1 n (fun j => .int (f j)), (fun z => by cases z), ?_, fun j hj => ?_⟩, fun z => z.2 rfl⟩
      · show (arrV _ _ _).slots.size = n
        rw [arrV_size]
      · show (arrV _ _ _).slots[j]? = _
        rw [arrV_read _ _ hj]
    · have e1 : eX (eA E q n f) i = eX E i := if_neg c1
      have hi2 : i < nX E + 1 := hi
      rw [e1]
      exact ⟨(h1.2.2.2.2.2 i (by omega)).1, fun z => (h1.2.2.2.2.2 i (by omega)).2 z.1⟩
theorem g_callS_l {α : Type} {o : Option (St × Int64)} {K : St → Int64 → Option α} {z : α} {y : MethodName} {bytes : ByteArray} {maxL index nA d : Nat} {As : List Value} (X : Cx E p m c cc nL s args own) (hG : GS E σ s.heap H locs) (hC : ∀ (σ' : St) (r : Int64), o = some (σ', r) → Ml l E y bytes maxL d As σ σ' r)
    (w1 : Cond.methodLink own index y ∈ lw_tbl) (w2 : Cond.static y ∈ lw_tbl) (w4 : Cond.initialized y.cls ∈ lw_tbl) (hg : GoodIn (lw_tbl.filter goodWord) (wsM y bytes maxL (some .long))) (hd : y.cls ≠ "java/lang/invoke/MethodHandle" ∧ y.cls ≠ "java/lang/invoke/VarHandle" ∧ (parseMethodDescriptor y.desc).map (fun d => d.parameters.length) = some nA) (hn : As.length = nA) (hR : d + 1 ≤ R.frames ∧ 8 + (maxL + 11) + 40 * d ≤ R.locals) (hls : ls.size = nL) {st : List Value} (hst : st = As.reverse ++ rest) (hW : (rest.map fun v => v.category).sum ≤ 8) (hcs : cells + 0 ≤ R.cells ∧ slots + 0 ≤ R.slots) (hdg : decode cc pc = .ok (.invokestatic index, 3)) (hM : bcall o K = some z)
    (kk : ∀ (σ1 : St) (r : Int64) (H1 : Heap) (locs1 : List Loc), GS E σ1 s.heap H1 locs1 → K σ1 r = some z → W p l e R s m args below meth c H1 locs1 cells slots Q (F0 m (pc + 3) ls (.long r :: rest))) : W p l e R s m args below meth c H locs cells slots Q (F0 m pc ls st) := by
  obtain ⟨⟨hx, hb, hml, hown, hts⟩, hK, hNW, hXW⟩ := X
  cases ho : o with
  | none => rw [ho] at hM; cases hM
  | some q =>
    rw [ho] at hM
    obtain ⟨σ1, r⟩ := q
    refine va_calll (va_runS ⟨hx, hb, hml, hown, hts⟩ (hC σ1 r ho) (⟨callB_of nA hts hg rfl rfl rfl (hts _ (gw_in w4 rfl)) (hts _ (gw_in w1 rfl)) hd hR, hts _ (gw_in w2 rfl)⟩) ⟨GB_blind, GB_pre hK hNW hXW hG _⟩ rfl hn hls hst (lv_room hW) hdg hcs) hG.2.2 (fun q _ h => h) (fun q h => h) (fun r1 u t H1 locs1 ht hvm hw hB hz1 hk1 hS1 => ?_)
    obtain ⟨rfl, rfl⟩ := hw
    exact kk _ _ H1 locs1 ⟨by rw [← ht]; exact hB.1, hB.2.2.1, hS1⟩ hM
theorem g_callV_i16 {α : Type} {o : Option (St × Int32)} {K : St → Int32 → Option α} {z : α} {y : MethodName} {bytes : ByteArray} {maxL index nA d : Nat} {ret : Option FieldType} {As : List Value} (X : Cx E p m c cc nL s args own) (hG : GS E σ s.heap H locs) {ci k : Nat} (hL : lay ci k) {C : String} {T : u_T} {N : Nat} (hc : vwCl[ci]? = some (C, T, N)) (hyC : y.cls = C) (hC : ∀ (σ' : St) (r : Int32), o = some (σ', r) → Mi l E y bytes maxL ret d (.ref (E.1 k) :: As) σ σ' r)
    (w1 : Cond.methodLink own index y ∈ lw_tbl) (w2 : Cond.instanceMethod y ∈ lw_tbl) (w3 : Cond.selects C y y ∈ lw_tbl) (w4 : Cond.initialized C ∈ lw_tbl) (hg : GoodIn (lw_tbl.filter goodWord) (wsM y bytes maxL ret)) (hd : y.cls ≠ "java/lang/invoke/MethodHandle" ∧ y.cls ≠ "java/lang/invoke/VarHandle" ∧ (parseMethodDescriptor y.desc).map (fun d => d.parameters.length) = some nA) (hn : As.length = nA) (hR : d + 1 ≤ R.frames ∧ 16 + (maxL + 11) + 40 * d ≤ R.locals) (hls : ls.size = nL) {st : List Value} (hst : st = As.reverse ++ .ref (E.1 k) :: rest) (hW : (rest.map fun v => v.category).sum ≤ 16) (hcs : cells + 0 ≤ R.cells ∧ slots + 0 ≤ R.slots) (hdg : decode cc pc = .ok (.invokevirtual index, 3)) (hM : bcall o K = some z)
    (kk : ∀ (σ1 : St) (r : Int32) (H1 : Heap) (locs1 : List Loc), GS E σ1 s.heap H1 locs1 → K σ1 r = some z → W p l e R s m args below meth c H1 locs1 cells slots Q (F0 m (pc + 3) ls (.int r :: rest))) : W p l e R s m args below meth c H locs cells slots Q (F0 m pc ls st) := by
  obtain ⟨⟨hx, hb, hml, hown, hts⟩, hK, hNW, hXW⟩ := X
  cases ho : o with
  | none => rw [ho] at hM; cases hM
  | some q =>
    rw [ho] at hM
    obtain ⟨σ1, r⟩ := q
    refine va_calli (run16 ⟨hx, hb, hml, hown, hts⟩ (hC σ1 r ho) (cwV nA hts (fun w hw => (List.mem_append.mp hw).elim (fun h => by rcases List.mem_cons.mp h with rfl | h; exact ⟨gw_in w1 rfl, good_of_word rfl⟩; rcases List.mem_cons.mp h with rfl | h; exact ⟨gw_in w2 rfl, good_of_word rfl⟩; rcases List.mem_cons.mp h with rfl | h; exact ⟨gw_in w3 rfl, good_of_word rfl⟩; rcases List.mem_cons.mp h with rfl | h; exact ⟨gw_in w4 rfl, good_of_word rfl⟩; cases h) (hg w)) rfl rfl rfl ⟨hyC, hd⟩ ⟨hR.1, by have := hR.2; show 8 + _ + 40 * d ≤ _; omega⟩) hR.2 ⟨GB_blind, GB_recv hK hG hL hc, GB_pre hK hNW hXW hG _⟩ rfl hn hls hst (room16 hW) hdg hcs) hG.2.2 (fun q _ h => h) (fun q h => h) (fun r1 u t H1 locs1 ht hvm hw hB hz1 hk1 hS1 => ?_)
    obtain ⟨rfl, rfl⟩ := hw
    exact kk _ _ H1 locs1 ⟨by rw [← ht]; exact hB.1, hB.2.2.1, hS1⟩ hM
end GLS
