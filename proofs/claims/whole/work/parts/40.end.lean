-- ===== YOUR PART BEGINS =====
theorem lt7 {P : Nat → Prop} (h0 : P 0) (h1 : P 1) (h2 : P 2) (h3 : P 3) (h4 : P 4) (h5 : P 5) (h6 : P 6) : ∀ i : Nat, i < 7 → P i := by
  intro i hi
  rcases (show i = 0 ∨ i = 1 ∨ i = 2 ∨ i = 3 ∨ i = 4 ∨ i = 5 ∨ i = 6 by omega) with rfl | rfl | rfl | rfl | rfl | rfl | rfl <;> assumption
abbrev tmS (i : Nat) : Term := Term.string (stO i) (stI i)
abbrev gN : Cond := Jvm.Cond.and given_1 narrow_1
abbrev fV (i : Nat) : Term := Term.field (tmS i) "java/lang/String" "value" "[B"
set_option maxRecDepth 20000 in
theorem wn_ex : ∀ i : Nat, i < 7 → Cond.exactly (tmS i) "java/lang/String" ∈ flatC gN := by decide +kernel
set_option maxRecDepth 20000 in
theorem wn_co : ∀ i : Nat, i < 7 → Cond.eq (.field (tmS i) "java/lang/String" "coder" "B") (.int 0) ∈ flatC gN := by decide +kernel
set_option maxRecDepth 20000 in
theorem wn_ar : ∀ i : Nat, i < 7 → Cond.arrayOf (fV i) .byte ∈ flatC gN := by decide +kernel
set_option maxRecDepth 20000 in
theorem wn_le : ∀ i : Nat, i < 7 → Cond.eq (.length (fV i)) (.int (Int32.ofNat (lenS.getD i 0))) ∈ flatC gN := by decide +kernel
set_option maxRecDepth 20000 in
theorem wn_el : ∀ i : Nat, i < 7 → ∀ j : Nat, j < lenS.getD i 0 → Cond.eq (.elem (fV i) (.int (Int32.ofNat j))) (.int ((bytS.getD i []).getD j 0)) ∈ flatC gN := by decide +kernel
set_option maxRecDepth 20000 in
theorem wn_ne : ∀ i : Nat, i < 7 → ∀ j : Nat, j < 7 → i ≠ j → (Cond.not (Cond.eq (tmS i) (tmS j)) ∈ flatC gN ∨ Cond.not (Cond.eq (tmS j) (tmS i)) ∈ flatC gN) := by decide +kernel
theorem wn_z0 : Cond.eq (.static "java/lang/String" "COMPACT_STRINGS" "Z") (.int 1) ∈ flatC gN := by decide +kernel
theorem wn_z1 : Cond.isRef (.static "jdk/internal/util/Preconditions" "SIOOBE_FORMATTER" "Ljava/util/function/BiFunction;") ∈ flatC gN := by decide +kernel
theorem mwAO : Cond.arrayOver (.object SCF) ∈ lw_tbl := List.mem_of_getElem? (i := 281) (by decide +kernel)
theorem mwZ0 : Cond.laysStatic "java/lang/String" "COMPACT_STRINGS" "Z" ∈ lw_tbl := List.mem_of_getElem? (i := 823) (by decide +kernel)
theorem mwZ1 : Cond.laysStatic "jdk/internal/util/Preconditions" "SIOOBE_FORMATTER" "Ljava/util/function/BiFunction;" ∈ lw_tbl := List.mem_of_getElem? (i := 839) (by decide +kernel)
theorem mwR : ∀ i : Nat, i < 7 → Cond.stringRef (stO i) (stI i) (stT i) ∈ lw_tbl := lt7 (List.mem_of_getElem? (i := 803) (by decide +kernel)) (List.mem_of_getElem? (i := 804) (by decide +kernel)) (List.mem_of_getElem? (i := 805) (by decide +kernel)) (List.mem_of_getElem? (i := 806) (by decide +kernel)) (List.mem_of_getElem? (i := 807) (by decide +kernel)) (List.mem_of_getElem? (i := 808) (by decide +kernel)) (List.mem_of_getElem? (i := 1444) (by decide +kernel))
/-- what the tables and the Statement say of the start, by one E -/
theorem start_E {p : Program} {s : State} {m : MethodId} {meth : Method} {c : Code} {b L : Nat} {xs : Nat → Int32} (C0 : lw_At p s m meth c b L xs) : ∃ E : Ev, va_K E.2.1 vwCl (tysE E) s ∧ NW s ∧ va_AO SCF s ∧ XZ E (fun q => s.heap.size ≤ q) s s.heap := by
  obtain ⟨hx, hb, hr, hml, hown, hts, hX, hbl, hlocks, hgv⟩ := C0
  have hs := flat_of_before _ hgv
  have hnA : ∀ a : Nat, a < s.heap.size → ¬ (fun q : Nat => s.heap.size ≤ q) a := fun a h => Nat.not_le.mpr h
  obtain ⟨c0, i0, K0⟩ := u_known (C := RX0) (T := TX0) (N := 3) (n := 3) hts inX0 (hts _ mw108)
  obtain ⟨c1, i1, K1⟩ := u_known (C := RX1) (T := TX1) (N := 4) (n := 4) hts inX1 (hts _ mw157)
  obtain ⟨c2, i2, K2⟩ := u_known (C := RX2) (T := TX2) (N := 4) (n := 4) hts inX2 (hts _ mw275)
  obtain ⟨c3, i3, K3⟩ := u_known (C := RX3) (T := TX3) (N := 3) (n := 3) hts inX3 (hts _ mw179)
  obtain ⟨c4, i4, K4⟩ := u_known (C := RX4) (T := TX4) (N := 2) (n := 2) hts inX4 (hts _ mw298)
  obtain ⟨c5, i5, K5⟩ := u_known (C := RX5) (T := TX5) (N := 4) (n := 4) hts inX5 (hts _ mw314)
  obtain ⟨c6, i6, K6⟩ := u_known (C := RX6) (T := TX6) (N := 3) (n := 3) hts inX6 (hts _ mw85)
  obtain ⟨c7, i7, K7⟩ := u_known (C := RX7) (T := TX7) (N := 14) (n := 14) hts inX7 (hts _ mw102)
  obtain ⟨c8, i8, K8⟩ := u_known (C := RX8) (T := TX8) (N := 2) (n := 2) hts inX8 (hts _ mw79)
  obtain ⟨c9, i9, K9⟩ := u_known (C := RX9) (T := TX9) (N := 7) (n := 7) hts inX9 (hts _ mw126)
  obtain ⟨c10, i10, K10⟩ := u_known (C := RX10) (T := TX10) (N := 10) (n := 10) hts inX10 (hts _ mw71)
  obtain ⟨c11, i11, K11⟩ := u_known (C := RX11) (T := TX11) (N := 18) (n := 18) hts inX11 (hts _ mw1110)
  obtain ⟨dC, dI, hKc⟩ : ∃ (dC : Nat → ClassId) (dI : Nat → Nat → Nat), ∀ (k : Nat) (q : vw_C), vwCl[k]? = some q → u_Kn s q.1 q.2.1 q.2.2 (dC k) (dI k) := by
    refine ⟨fun k => if k = 0 then c0 else if k = 1 then c1 else if k = 2 then c2 else if k = 3 then c3 else if k = 4 then c4 else if k = 5 then c5 else if k = 6 then c6 else if k = 7 then c7 else if k = 8 then c8 else if k = 9 then c9 else if k = 10 then c10 else c11, fun k => if k = 0 then i0 else if k = 1 then i1 else if k = 2 then i2 else if k = 3 then i3 else if k = 4 then i4 else if k = 5 then i5 else if k = 6 then i6 else if k = 7 then i7 else if k = 8 then i8 else if k = 9 then i9 else if k = 10 then i10 else i11, ?_⟩
    intro k q hq
    match k, hq with
    | 0, hq => cases hq; exact K0
    | 1, hq => cases hq; exact K1
    | 2, hq => cases hq; exact K2
    | 3, hq => cases hq; exact K3
    | 4, hq => cases hq; exact K4
    | 5, hq => cases hq; exact K5
    | 6, hq => cases hq; exact K6
    | 7, hq => cases hq; exact K7
    | 8, hq => cases hq; exact K8
    | 9, hq => cases hq; exact K9
    | 10, hq => cases hq; exact K10
    | 11, hq => cases hq; exact K11
    | k + 12, hq => simp [vwCl] at hq
  obtain ⟨cA, kA, coA, a1, a2, a3⟩ := Cond.arrayClass_spec (hts _ mw312)
  obtain ⟨cB, kB, coB, b1, b2, b3⟩ := Cond.arrayClass_spec (hts _ mw100)
  obtain ⟨comp, cD, kD, d1, d2, d3, d4, d5⟩ := Cond.arrayOver_spec (hts _ mwAO)
  obtain ⟨adK, adV, hvS, hvE⟩ := vk_Sof (args := #[Value.ref b]) (s := s) (N := 7) (tm := tmS) (len := lenS) (byt := bytS) (A := fun q => s.heap.size ≤ q) (by decide) (fun i hi => hs _ (wn_ex i hi)) (fun i hi => hs _ (wn_co i hi)) (fun i hi => hs _ (wn_ar i hi)) (fun i hi => hs _ (wn_le i hi)) (fun i hi j hj => hs _ (wn_el i hi j hj)) (fun i j hi hj hij => (wn_ne i hi j hj hij).elim (fun h => Or.inl (hs _ h)) (fun h => Or.inr (hs _ h))) hnA
  refine ⟨((fun _ => 0), ((dC, dI), (cA, (cB, (cD, (adK, (adV, 0))))))), ⟨hKc, ?_⟩, ?_, va_AO.of (hts _ mwAO), va_Zof (hts _ mwZ0) (hts _ mw66) (va_eqi (hs _ wn_z0)) hnA, va_Zqof (hts _ mwZ1) (hts _ mw68) (hs _ wn_z1) hnA, hvS, fun i hi => vk_R.of (hts _ (mwR i hi)) (hvE i hi)⟩
  · intro k q hq
    match k, hq with
    | 0, hq => cases hq; exact ⟨fun n z => ⟨fun k h => (by cases h), kA, a2, coA, a3⟩, a1⟩
    | 1, hq => cases hq; exact ⟨fun n z => ⟨fun k h => (by cases h), kB, b2, coB, b3⟩, b1⟩
    | 2, hq => cases hq; exact ⟨fun n z => ⟨fun k h => (by cases h), kD, d3, comp, d4⟩, ⟨kD, comp, d3, d4, d1, d5⟩⟩
    | k + 3, hq => simp [tysE] at hq
  · intro w hw hn
    have h1 := hts w hw
    cases w <;> first | exact va_Nw.of rfl h1 | exact absurd hn (by simp [isNest])
def CxL (E : Ev) (A : Nat → Prop) (p : Program) (m : MethodId) (c : Code) (cc : ByteArray) (nL : Nat) (s : State) (args : Array Value) (own : String) : Prop := CallFix p m c cc nL s args (lw_tbl.filter goodWord) own ∧ va_K E.2.1 vwCl (tysE E) s ∧ NW s ∧ va_AO SCF s ∧ (∀ q, s.heap.size ≤ q → A q)
def mvJ (n i : Nat) : Nat := if i = 0 then n else if i ≤ n then i - 1 else i
theorem mvJ_inj {n : Nat} : ∀ i j, mvJ n i = mvJ n j → i = j := by
  intro i j h
  unfold mvJ at h
  split at h <;> split at h <;> (try split at h) <;> (try split at h) <;> omega
theorem mvJ_at {α : Type} (w : List α) (x : α) (i : Nat) : (x :: w)[i]? = (w ++ [x])[mvJ w.length i]? := by
  unfold mvJ
  cases i with
  | zero => simp
  | succ j =>
    rw [if_neg (by omega), List.getElem?_cons_succ]
    by_cases c : j + 1 ≤ w.length
    · rw [if_pos c, Nat.add_sub_cancel, List.getElem?_append_left (by omega)]
    · rw [if_neg c, List.getElem?_eq_none (by omega), List.getElem?_eq_none (by rw [List.length_append]; simp; omega)]
section GL
variable {p : Program} {l : Launch} {e : Env} {R : Room} {s : State} {m : MethodId} {args : Array Value} {below : List Frame} {meth : Method} {c : Code} {H : Heap} {locs : List Loc} {cells slots : Nat} {Q : State → Prop} {cc : ByteArray} {pc : Nat} {ls : Array Slot} {rest : List Value} {nL : Nat} {own : String} {E : Ev} {A : Nat → Prop} {ws : va_W}
theorem o_new (X : CxL E A p m c cc nL s args own) (hW : WC E A ws s.heap H locs) {cj : Nat} {C : String} {T : u_T} {N : Nat} (hcl : vwCl[cj]? = some (C, T, N)) (hin : ∀ w ∈ u_ws C T N, w ∈ lw_tbl.filter goodWord) (ty : Nat → FieldType) (hty : ∀ k, k < N → parseFieldDescriptor (T k).2.2.1 = some (ty k)) (hdf : ∀ j, j < N → defaultValue (ty j) = vp_V (dflt cj) j) {index : Nat} (w1 : Cond.classLink own index C ∈ lw_tbl) (w2 : Cond.instantiable C N ∈ lw_tbl) (w3 : Cond.initialized C ∈ lw_tbl) (hc : cells + 1 ≤ R.cells) (hs : slots + N ≤ R.slots) (hdg : decode cc pc = .ok (.new index, 3))
    (kk : ∀ (q : Nat) (H1 : Heap), WC E A (ws ++ [(q, .inr (cj, dflt cj))]) s.heap H1 locs → W p l e R s m args below meth c H1 locs (cells + 1) (slots + N) Q (F0 m (pc + 3) ls (.ref q :: rest))) : W p l e R s m args below meth c H locs cells slots Q (F0 m pc ls rest) := by
  obtain ⟨⟨hx, hb, hml, hown, hts⟩, hK, hNW, hAO, hA⟩ := X
  exact va_new hx hb hts hin ty hty hown (hts _ (gw_in w1 rfl)) (hts _ (gw_in w2 rfl)) (hts _ (gw_in w3 rfl)) hK hW.1 hW.2.1 hW.2.2 hA hcl hdf hc hs hdg (fun q H1 a b d => kk q H1 ⟨a, b, d⟩)
theorem o_call {y : MethodName} {bytes : ByteArray} {maxL index nA d mc ms x cj q : Nat} {As : List Value} (X : CxL E A p m c cc nL s args own) (hW : WC E A (ws ++ [(q, .inr (cj, dflt cj))]) s.heap H locs) (hC : Mc l E y bytes maxL d mc ms x cj q H.size As) (w1 : Cond.methodLink own index y ∈ lw_tbl) (w2 : Cond.instanceMethod y ∈ lw_tbl) (w4 : Cond.initialized y.cls ∈ lw_tbl) (hg : GoodIn (lw_tbl.filter goodWord) (wsM y bytes maxL none)) (hy1 : y.name = "<init>") (hd : y.cls ≠ "java/lang/invoke/MethodHandle" ∧ y.cls ≠ "java/lang/invoke/VarHandle" ∧ (parseMethodDescriptor y.desc).map (fun d => d.parameters.length) = some nA) (hn : As.length = nA) (hR : d + 1 ≤ R.frames ∧ 8 + (maxL + 11) + 200 * d ≤ R.locals) (hls : ls.size = nL) {st : List Value} (hst : st = As.reverse ++ .ref q :: rest) (hWd : (rest.map fun v => v.category).sum ≤ 8) (hcs : cells + mc ≤ R.cells ∧ slots + ms ≤ R.slots) (hdg : decode cc pc = .ok (.invokespecial index, 3))
    (kk : ∀ (bs : Nat → Nat) (H1 : Heap) (locs1 : List Loc), bs 0 = q → WC E A (ws ++ blk E bs x cj) s.heap H1 locs1 → W p l e R s m args below meth c H1 locs1 (cells + mc) (slots + ms) Q (F0 m (pc + 3) ls rest)) : W p l e R s m args below meth c H locs cells slots Q (F0 m pc ls st) := by
  obtain ⟨⟨hx, hb, hml, hown, hts⟩, hK, hNW, hAO, hA⟩ := X
  obtain ⟨hP, hD, hS⟩ := hW
  have hPc := va_P_right hP
  have hPl := va_P_left hP
  have hDl := va_D_left hD
  have hlast : (ws ++ [(q, .inr (cj, dflt cj))])[ws.length]? = some (q, .inr (cj, dflt cj)) := by simp
  have hDc : va_D (fun _ => True) [(q, (.inr (cj, dflt cj) : va_E))] := ⟨fun i j p q hi hj _ => by
      have a1 := (List.getElem?_eq_some_iff.mp hi).1
      have a2 := (List.getElem?_eq_some_iff.mp hj).1
      simp only [List.length_cons, List.length_nil] at a1 a2
      omega, fun _ _ _ => trivial⟩
  have hf : ∀ z, va_A [(q, (.inr (cj, dflt cj) : va_E))] H.size z → A z := by
    intro z hz
    rcases hz with ⟨k, e, hk⟩ | hz
    · have hk0 : k = 0 := by
        have a1 := (List.getElem?_eq_some_iff.mp hk).1
        simp only [List.length_cons, List.length_nil] at a1
        omega
      subst hk0
      cases hk
      exact hD.2 _ _ hlast
    · exact hA z (Nat.le_trans hS.1 hz)
  refine va_callv (va_runI ⟨hx, hb, hml, hown, hts⟩ hC (cwI nA hts hg rfl rfl rfl (hts _ (gw_in w4 rfl)) (hts _ (gw_in w1 rfl)) (hts _ (gw_in w2 rfl)) hy1 hd hR) ⟨fun a U g mk q => ⟨q.1, q.2.1, q.2.2.1, va_K.moved (u := U) (U := U.calling g mk a) (Vm.Alike.refl U.vm) q.2.2.2.1, q.2.2.2.2.1, NW.same (u := U) (U := U.calling g mk a) rfl q.2.2.2.2.2.1, va_AO.moved (u := U) (U := U.calling g mk a) (Vm.Alike.refl U.vm) q.2.2.2.2.2.2⟩, fun U hU hW => ⟨rfl, by rw [hU], by rw [hU]; exact hPc, va_K.moved hW.alike hK, hDc, NW.warm hW hNW, va_AO.moved hW.alike hAO⟩⟩ rfl hn hls hst (lv_room hWd) hdg hcs) hS (fun q _ h => hf q h) hf (fun u t H1 locs1 ht hvm hw hB hz1 hk1 hS1 => ?_)
  have hout : ∀ (k : Nat) (z : Nat × va_E), ws[k]? = some z → z.1 < H.size ∧ z.1 ≠ q := by
    intro k z hk
    refine ⟨(hPl k z hk).lt, fun hzq => ?_⟩
    have h1 : (ws ++ [(q, .inr (cj, dflt cj))])[k]? = some z := by rw [List.getElem?_append_left (List.getElem?_eq_some_iff.mp hk).1]; exact hk
    have h2 := hD.1 k ws.length z _ h1 hlast hzq
    have h3 := (List.getElem?_eq_some_iff.mp hk).1
    omega
  have hnA : ∀ z, z < H.size → z ≠ q → ¬ va_A [(q, (.inr (cj, dflt cj) : va_E))] H.size z := by
    intro z h1 h2 h3
    rcases h3 with ⟨k, e, hk⟩ | h3
    · have hk0 : k = 0 := by
        have a1 := (List.getElem?_eq_some_iff.mp hk).1
        simp only [List.length_cons, List.length_nil] at a1
        omega
      subst hk0
      cases hk
      exact h2 rfl
    · omega
  refine kk u H1 locs1 hw ⟨va_P.app (fun k z hk => ?_) (by rw [← ht]; exact hB.1), va_D.app hDl ⟨hB.2.1, fun k z hk => hf _ (hB.2.2 k z hk)⟩ (fun i j a b hi hj hab => ?_), hS1⟩
  · have h1 := hout k z hk
    exact (hPl k z hk).kept (hk1 _ h1.1 (hnA _ h1.1 h1.2))
  · have h1 := hout i a hi
    exact hnA _ h1.1 h1.2 (by rw [hab]; exact hB.2.2 j b hj)
end GL
set_option maxRecDepth 20000 in
set_option maxHeartbeats 4000000 in
/-- YOUR PART: from the entry, for every script of at most 2048 ints, the law comes to its end with true ('hflags': the launch's flags, for a law that throws: no stack traces) -/
theorem whole_start {p : Program} {e : Env} {s : State} {m : MethodId} {below : List Frame} {meth : Method} {c : Code} (l : Launch) (hflags : l.flags = flags0) {b L : Nat} {xs : Nat → Int32} (hL : L ≤ 2048) (C0 : lw_At p s m meth c b L xs) : W p l e room_1 s m #[Value.ref b] below meth c s.heap [] 0 0 (lw_Z below #[Value.ref b] s) (entryFrame m ([Value.ref b] : List Value).toArray 8) := by
  obtain ⟨E, hK, hNW, hAO, hXZ⟩ := start_E C0
  obtain ⟨σI, hB0, hRel⟩ := ini_ex
  obtain ⟨hx, hb, hr, hml, hown, hts, hX, hbl, hlocks, hgv⟩ := id C0
  have hl := lv_entry ([.ref b]) (n := 8) (Nat.le_of_ble_eq_true rfl)
  rw [lg_entry_eq]
  generalize (lg_sl ([.ref b]) ++ List.replicate (8 - (lg_sl ([.ref b])).length) Slot.unset).toArray = ls at hl ⊢
  have hl : lv_has ls 8 [(0, .ref b)] := hl
  have hf : CallFix p m c code 8 s #[Value.ref b] (lw_tbl.filter goodWord) R_law := ⟨hx, hb, hml, hown, fun w hw => hts w (List.mem_filter.mp hw).1⟩
  have X : CxL E (fun q => s.heap.size ≤ q) p m c code 8 s #[Value.ref b] R_law := ⟨hf, hK, hNW, hAO, fun _ h => h⟩
  have hW0 : WC E (fun q => s.heap.size ≤ q) [] s.heap s.heap [] := ⟨fun k q h => by simp at h, ⟨fun i j p q h => by simp at h, fun k q h => by simp at h⟩, va_S.rf⟩
  refine o_new X hW0 (cj := 10) rfl fnX10 tyX10 tyX10_ok (by decide) mw70 mw71 mw51 (Nat.le_of_ble_eq_true rfl) (Nat.le_of_ble_eq_true rfl) dL_law_0 (fun q1 H hW => ?_)
  refine lv_dup hx hb dL_law_3 rfl ?_
  refine o_call (nA := 0) (As := []) (rest := [.ref q1]) X hW (C_X10_init l E (x := 0) ⟨lay10_0, by decide +kernel, fun r _ => by rw [Nat.zero_add, show repc 10 = 0 from rfl, Nat.zero_add]⟩ rfl) mw72 mw73 mw51 (gw_ok mw74 rfl) rfl (by decide +kernel) rfl ⟨Nat.le_of_ble_eq_true rfl, Nat.le_of_ble_eq_true rfl⟩ hl.1 rfl (Nat.le_of_ble_eq_true rfl) ⟨Nat.le_of_ble_eq_true rfl, Nat.le_of_ble_eq_true rfl⟩ dL_law_4 (fun bs H locs hb0 hW1 => ?_)
  rw [List.nil_append] at hW1
  subst hb0
  refine lv_astore_n (lv' := [(1, .ref (bs 0)), (0, .ref b)]) hx hb dL_law_7 rfl hl (by decide) rfl (fun ls hl => ?_)
  refine o_new X hW1 (cj := 11) rfl fnX11 tyX11 tyX11_ok (by decide) mw1109 mw1110 mw62 (Nat.le_of_ble_eq_true rfl) (Nat.le_of_ble_eq_true rfl) dL_law_8 (fun q2 H hW => ?_)
  refine lv_dup hx hb dL_law_11 rfl ?_
  have hP2 : va_P E.2.1 vwCl ((q2, .inr (11, dflt 11)) :: blk E bs 0 10) H := va_P_map (mvJ _) (fun i => mvJ_at _ _ i) hW.1
  have hD2 : va_D (fun q => s.heap.size ≤ q) ((q2, .inr (11, dflt 11)) :: blk E bs 0 10) := va_D_map (mvJ _) (fun i => mvJ_at _ _ i) mvJ_inj hW.2.1
  refine va_callv (va_runI (As := []) (rest := [.ref q2]) hf (C_X11_init l E (bs := bs) (h := q2) (sz := H.size) (sz0 := s.heap.size) hB0) (cwI 0 hf.2.2.2.2 (gw_ok mw1113 rfl) rfl rfl rfl (hts _ mw62) (hts _ mw1111) (hts _ mw1112) rfl (by decide +kernel) ⟨Nat.le_of_ble_eq_true rfl, Nat.le_of_ble_eq_true rfl⟩) ⟨fun a U g mk q => ⟨q.1, q.2.1, q.2.2.1, va_K.moved (u := U) (U := U.calling g mk a) (Vm.Alike.refl U.vm) q.2.2.2.1, q.2.2.2.2.1, NW.same (u := U) (U := U.calling g mk a) rfl q.2.2.2.2.2.1, va_AO.moved (u := U) (U := U.calling g mk a) (Vm.Alike.refl U.vm) q.2.2.2.2.2.2.1, XZ.same (u := U) (U := U.calling g mk a) rfl q.2.2.2.2.2.2.2.1, q.2.2.2.2.2.2.2.2⟩, fun U hU hW2 => ⟨rfl, by rw [hU], by rw [hU]; exact hP2, va_K.moved hW2.alike hK, hD2, NW.warm hW2 hNW, va_AO.moved hW2.alike hAO, XZ.warm hW2 (by rw [hU]; exact hXZ.kept hW.2.2.2.1), hW.2.2.1⟩⟩ rfl rfl hl.1 rfl (lv_room (Nat.le_of_ble_eq_true rfl)) dL_law_12 ⟨Nat.le_of_ble_eq_true rfl, Nat.le_of_ble_eq_true rfl⟩) hW.2.2 (fun q _ h => h) (fun q h => h) (fun bs2 t H1 locs1 ht hvm hw hB hz1 hk1 hS => ?_)
  subst hw
  obtain ⟨hP, hD⟩ := hB
  rw [ht] at hP
  have hAE : ∀ q, AE (eJ E bs bs2) q → s.heap.size ≤ q := fun q hq => by
    obtain ⟨k, hk, e⟩ := hq
    rw [e]
    exact hD.2 k _ (gW_at (eJ E bs bs2) σI hk)
  have hDE : va_D (AE (eJ E bs bs2)) (gW (eJ E bs bs2) σI) := ⟨hD.1, fun k q hk => by
    by_cases c : k < 258
    · rw [gW_at _ _ c] at hk
      cases hk
      exact ⟨k, c, rfl⟩
    · rw [gW_out _ _ (by omega)] at hk
      cases hk⟩
  have hl : lv_has ls 8 [(1, .ref ((eJ E bs bs2).1 0)), (0, .ref b)] := hl
  refine lv_astore_n (lv' := [(2, .ref ((eJ E bs bs2).1 248)), (1, .ref ((eJ E bs bs2).1 0)), (0, .ref b)]) (x := (eJ E bs bs2).1 248) hx hb dL_law_15 rfl hl (by decide) rfl (fun ls hl => ?_)
  refine lv_iconst (v := 0) hx hb dL_law_16 (by decide) ?_
  refine lv_istore_n (lv' := [(3, .int (Int32.ofNat 0)), (2, .ref ((eJ E bs bs2).1 248)), (1, .ref ((eJ E bs bs2).1 0)), (0, .ref b)]) hx hb dL_law_17 rfl hl (by decide) rfl (fun ls hl => ?_)
  refine va_forget hS.2.2 ?_
  refine W.base ?_
  have hSE : va_S (AE (eJ E bs bs2)) s.heap H1 [] := ⟨hS.1, fun q h1 _ => hS.2.1 q h1 (Nat.not_le.mpr h1), fun q h => absurd h List.not_mem_nil⟩
  have hC : Cx (eJ E bs bs2) p m c code 8 s #[Value.ref b] R_law := ⟨hf, hK, hNW, show XZ E (AE (eJ E bs bs2)) s s.heap from XZ_mono hAE hXZ⟩
  refine law_loop (E := eJ E bs bs2) ⟨Nat.le_of_ble_eq_true rfl, Nat.le_of_ble_eq_true rfl⟩ allP hL hC hX hbl (fun h => absurd (hAE b h) (Nat.not_le.mpr hbl)) (fun H locs ls d0 hS hd0 => ?_) (L + 5) 0 (by omega) (by omega) σI H1 [] ls s.drawn hRel ⟨hP, hDE, hSE⟩ (Drawn.sameBut.refl s.drawn lw_cs) hl
  refine lv_iconst (v := 1) hx hb dL_law_1187 (by decide) ?_
  refine va_forget (fun q hq => hAE _ (hS.2.2 q hq)) ?_
  exact W.widen (k := room_1.cells) (n := room_1.slots) (Nat.le_of_ble_eq_true rfl) (Nat.le_of_ble_eq_true rfl) (lw_ret hd0 hx hb hr hlocks dL_law_1188)
-- ===== YOUR PART ENDS =====
set_option maxHeartbeats 4000000 in
theorem lw_walk (l : Launch) (hflags : l.flags = flags0) (b : Addr) (xs : List Int32) : MetFree l x (headSpec (Jvm.Cond.code x code maxLocals ret :: tables_1) room_1) (lw_P b xs) (fun _ _ _ _ _ => True) lw_Q := by
  refine MetFree.of_bodyS (code := code) (maxLocals := maxLocals) (ret := ret) (by decide) ?_ ?_
  · intro args s m h hn
    obtain ⟨meth, c, h1, h2, h3, h4, h5, h6, -, -⟩ := Cond.code_spec hn (atoms_spec (ws := Jvm.Cond.code x code maxLocals ret :: tables_1) h _ List.mem_cons_self)
    exact ⟨meth, c, h1, h2, h3, h4, h5, h6⟩
  · intro p e s m args below meth c s₁ B hml0 hP _
    obtain ⟨rfl, hx, hbd, hgv⟩ := hP
    obtain ⟨scr, harrAt, hlist, hof, hsmall⟩ := hx
    obtain ⟨hcb, hkn, -, -⟩ := State.arrayAt?_spec harrAt
    have hown : s.vm.findClass R_law = some m.cls := findClass_of_methodNamed B.named
    have hts0 : ∀ c ∈ (Jvm.Cond.code x code maxLocals ret :: tables_1), c.before #[Value.ref b] s = true := atoms_spec (ws := Jvm.Cond.code x code maxLocals ret :: tables_1) B.pre
    have hts : ∀ w ∈ lw_tbl, w.before #[Value.ref b] s = true := k2_hts_sels lw_privs (fun w hw => hts0 w (List.mem_cons_of_mem _ hw)) lw_privs_ok
    have hml : c.maxLocals = 8 := B.maxLocals_eq (hts0 _ List.mem_cons_self)
    have X₀ : Stand p l e room_1 s m #[Value.ref b] below meth c s₁ [] 0 0 := Stand.of_body B
    have hh0 : s₁.heap = s.heap := by rw [B.state]; rfl
    have hsz : scr.slots.size = xs.length := by rw [← Array.length_toList, hlist, List.length_map]
    have hval : ∀ j : Nat, j < xs.length → scr.slots[j]? = some (.int (xs.getD j 0)) := fun j hj => by
      rw [← Array.getElem?_toList, hlist]
      simp [hj]
    have hbl : b < s.heap.size := (Array.getElem?_eq_some_iff.mp hcb).1
    have hX : va_X b xs.length (fun j => xs.getD j 0) s s.heap := ⟨scr, hcb, hof, hkn, hsz, hval⟩
    have K : W p l e room_1 s m #[Value.ref b] below meth c s₁.heap [] 0 0 (lw_Z below #[Value.ref b] s) (entryFrame m ([Value.ref b] : List Value).toArray 8) := by
      rw [hh0]
      exact whole_start l hflags hbd ⟨B.exec, B.bytes, B.returns, hml, hown, hts, hX, hbl, B.notSynchronized, hgv⟩
    obtain ⟨t, a1, o, b1, b2, b3⟩ := K s₁ rfl X₀
    exact ⟨t, o, a1, b1, b2, b3⟩
theorem lw_pre_spec {args : Array Value} {s : State} (h : (Jvm.Cond.and given_1 narrow_1).before args s = true) (hr : rest_1_c.before args s = true) : ∃ (b : Addr) (xs : List Int32), lw_P b xs args s := by
  have hs := flat_of_before _ h
  have hq := flat_of_before _ hr
  have hc : (Cond.count 1).before args s = true := hs _ (by decide +kernel)
  have harr : (Cond.arrayOf (.arg 0) .int).before args s = true := hs _ (by decide +kernel)
  have hle : (Cond.le (.length (.arg 0)) (.int 2048)).before args s = true := hs _ (by decide +kernel)
  have hlen : (Cond.isInt (.length (.arg 0))).before args s = true := hq _ (by decide +kernel)
  have hall : (Cond.all (.arg 0) (.isInt (.elem (.arg 0) (.index 0)))).before args s = true := hq _ (by decide +kernel)
  obtain ⟨b, xs, hb, hx⟩ := State.ints_of_pre rfl harr hlen hall
  have hsm : xs.length < 2 ^ 31 := hx.choose_spec.2.2.2
  have hev : (Term.length (.arg 0)).eval args s none [] s = some (.int xs.length.toInt32) := hx.length_eval hb
  have hv := Cond.le_ints hev (show (Term.int 2048).eval args s none [] s = some (.int 2048) from rfl)
  have hd : xs.length.toInt32 ≤ 2048 := by
    simpa [Cond.before, Cond.holds, hv] using hle
  have hN : xs.length ≤ 2048 := (Int32.ofNat_le_ofNat hsm (by decide)).mp (show Int32.ofNat xs.length ≤ Int32.ofNat 2048 from hd)
  exact ⟨b, xs, Cond.one_arg hc (show args[0]? = some (.ref b) from hb), hx, hN, h⟩
theorem lw_comes (l : Launch) (hflags : l.flags = flags0) : Comes l x (Jvm.Cond.code x code maxLocals ret :: tables_1) room_1 (fun tb e args s => Calls_1 tb e args s ∧ rest_1 tb e args s ∧ Pre_1 tb e args s)
    (fun _ _ args s o t => lw_Q args s o t) := by
  intro p e ha hc hk s m args below hf hfit hheap happ hpre
  obtain ⟨b, xs, hP⟩ := lw_pre_spec hpre.2.2 hpre.2.1
  obtain ⟨k, o, h1, h2, h3, hQ⟩ := lw_walk l hflags b xs p e ha hc hk s m args below hf ((Spec.applies_iff_loose hf).mp happ).1 hP trivial
  exact ⟨k, o, h1, h2, h3, hQ⟩
theorem lw_frame {s t : State} {o : Outcome} {args : Array Value} (h : State.butDraws s t lw_cs (fun t1 => Framed s o t1 [] room_1.cells room_1.slots)) :
    State.butDraws s t [Jvm.Choice.named "NaN.bits"] (fun t1 => Framed s o t1 (fieldLocs frame_1_writes args s ++ arrayLocs frame_1_arrays args s ++ staticLocs frame_1_statics s) room_1.cells room_1.slots) := h
theorem lw_limb (L : Cond) (hL : ∀ (args : Array Value) (s t : State), L.after args s (.returned (some (.int 1))) t = true) :
    ArmFor flags0 classFile x code maxLocals ret World_1 tables_1 room_1 Calls_1 rest_1 Pre_1
      (fun tb e a s o t => postC L tb e a s o t ∧ State.butDraws s t [Jvm.Choice.named "NaN.bits"] (fun t1 => Framed s o t1 (fieldLocs frame_1_writes a s ++ arrayLocs frame_1_arrays a s ++ staticLocs frame_1_statics s) room_1.cells room_1.slots)) := by
  intro l hflags _ _ p e ha hc hk s m args below hf hfit hheap happ hpre
  obtain ⟨k, o, h1, h2, h3, rfl, hF⟩ := lw_comes l hflags p e ha hc hk s m args below hf hfit hheap happ hpre
  exact ⟨k, _, h1, h2, h3, hL args s _, lw_frame hF⟩
theorem i_vc : Claimed_1_1 ∧ Claimed_1_2 := ⟨lw_limb limb_1_1 (fun args s t => by simp [limb_1_1, Cond.after, Cond.holds, Cond.value]), lw_limb limb_1_2 (fun args s t => Cond.after_iff.mpr (by
  first | (rw [show limb_1_2 = Cond.eq .result (.int 1) from rfl, Cond.eq_ints (x := 1) (y := 1) rfl rfl]; simp; done) | (simp [limb_1_2, Cond.value, Term.eval]; done)))⟩
