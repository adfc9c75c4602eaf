/-! a text that is made is read -/
def smN (x : Int32) (n : Nat) : Nat := (x.toInt % (n : Int)).toNat
theorem smN_lt (x : Int32) {n : Nat} (h0 : 0 < n) : smN x n < n := by
  have p1 := Int.emod_nonneg x.toInt (b := (n : Int)) (by omega)
  have p2 := Int.emod_lt_of_pos x.toInt (b := (n : Int)) (by omega)
  unfold smN
  omega
theorem some_eq (σ : St) (x : Int32) {n : Nat} (h0 : 0 < n) (h1 : n < 1000) : M_L_some σ x (Int32.ofNat n) = some (σ, Int32.ofNat (smN x n)) := by
  have hn : (Int32.ofNat n).toInt = (n : Int) := Int32.toInt_ofNat_of_lt (by omega)
  have em : (x % Int32.ofNat n).toInt = x.toInt.tmod n := by rw [Int32.toInt_mod, hn]
  have p1 := Int.emod_nonneg x.toInt (b := (n : Int)) (by omega)
  have p2 := Int.emod_lt_of_pos x.toInt (b := (n : Int)) (by omega)
  have hs : ((smN x n : Nat) : Int) = x.toInt % n := Int.toNat_of_nonneg p1
  have hm : (Int32.ofNat (smN x n)).toInt = x.toInt % n := by rw [Int32.toInt_ofNat_of_lt (by omega), hs]
  have ok : okN (Int32.ofNat n) = true := by
    unfold okN
    have h2 : ¬ Int32.ofNat n = 0 := fun q => by
      have := congrArg Int32.toInt q
      rw [hn] at this
      exact absurd this (by show ¬ (n : Int) = 0; omega)
    simp [h2]
  unfold M_L_some bchk blet
  rw [if_pos ok, irem_eq_mod]
  show (if 0 ≤ x % Int32.ofNat n then some (σ, x % Int32.ofNat n) else some (σ, x % Int32.ofNat n + Int32.ofNat n)) = _
  have et := Int.tmod_eq_emod (a := x.toInt) (b := (n : Int))
  by_cases c : 0 ≤ x.toInt.tmod n
  · have e : x.toInt.tmod n = x.toInt % n := by
      rw [et] at c ⊢
      split at c
      · rw [if_pos (by assumption)]; omega
      · exfalso; omega
    have e2 : x % Int32.ofNat n = Int32.ofNat (smN x n) := by
      apply Int32.toInt_inj.mp
      rw [em, hm, e]
    have e3 : (0 : Int32) ≤ x % Int32.ofNat n := by
      rw [Int32.le_iff_toInt_le, em]; exact c
    rw [if_pos e3, e2]
  · have e : x.toInt.tmod n = x.toInt % n - n := by
      rw [et] at c ⊢
      split at c
      · exfalso; omega
      · rw [if_neg (by assumption)]; omega
    have e3 : ¬ (0 : Int32) ≤ x % Int32.ofNat n := by
      rw [Int32.le_iff_toInt_le, em]; exact c
    rw [if_neg e3]
    have e2 : x % Int32.ofNat n + Int32.ofNat n = Int32.ofNat (smN x n) := by
      apply Int32.toInt_inj.mp
      rw [Int32.toInt_add, em, hm, hn, e]
      have : x.toInt % (n : Int) - n + n = x.toInt % n := by omega
      rw [this]
      exact Int.bmod_eq_of_le_mul_two (by omega) (by omega)
    rw [e2]
/-- the world with a text that was made: its cells are no more written -/
def eD (E : Ev) (L : List (Nat × va_E)) (code sa r : Nat) : Ev := (E.1, (E.2.1, (E.2.2.1, (E.2.2.2.1, (E.2.2.2.2.1, ((fun i => if i = 16 then sa else adK E i), ((fun i => if i = 16 then r else adV E i), (code + 1, (E.2.2.2.2.2.2.2.2.1, (E.2.2.2.2.2.2.2.2.2.1, ((fun z => AE E z ∧ ∀ x ∈ L, x.1 ≠ z), (eX E, nX E))))))))))))
theorem gd_lf {α : Type} (l : List α) (x d : α) {i : Nat} (h : i < l.length) : (l ++ [x]).getD i d = l.getD i d := by
  simp only [List.getD_eq_getElem?_getD]
  rw [List.getElem?_append_left h]
theorem gd_rt {α : Type} (l : List α) (x d : α) : (l ++ [x]).getD l.length d = x := by
  simp only [List.getD_eq_getElem?_getD]
  rw [List.getElem?_append_right (Nat.le_refl _), Nat.sub_self]
  rfl
def GM (E : Ev) (σ : St) (U : State) : Prop := GN E σ U ∧ PV U
def Mip (l : Launch) (E : Ev) (y : MethodName) (cc : ByteArray) (nL : Nat) (ret : Option FieldType) (d mc ms : Nat) (av : List Value) (σ σ' : St) (r : Int32) : Prop := Met l y (wsM y cc nL ret) (rmA d mc ms) (va_Pc av (GM E σ)) (va_Qi (fun (r' : Int32) (u : St) => r' = r ∧ u = σ') (GB E) (AE E)) mc ms (AE E)
theorem fA_eq : ∀ d1, d1 < 9 → ∀ d2, d2 < 4 → ∀ j, j < 5 → (upd (cpT 8 (upd (cpT 7 (fun _ => 0) 0) (0 + lnS 7) (vp_nar .byte (Int32.ofNat (48 + d1)))) (0 + lnS 7 + 1)) (0 + lnS 7 + 1 + lnS 8) (vp_nar .byte (Int32.ofNat (48 + d2)))) j = (dynS (4 * d1 + d2)).getD j 0 := by decide +kernel
set_option maxRecDepth 20000 in
theorem fB_eq : ∀ a, a < 4 → ∀ b, b < 10 → ∀ c, c < 5 → ∀ d, d < 4 → ∀ j, j < 9 → (upd (cpT 12 (upd (cpT 11 (upd (cpT 10 (upd (cpT 9 (fun _ => 0) 0) (0 + lnS 9) (vp_nar .byte (Int32.ofNat (48 + a)))) (0 + lnS 9 + 1)) (0 + lnS 9 + 1 + lnS 10) (vp_nar .byte (Int32.ofNat (48 + b)))) (0 + lnS 9 + 1 + lnS 10 + 1)) (0 + lnS 9 + 1 + lnS 10 + 1 + lnS 11) (vp_nar .byte (Int32.ofNat (48 + c)))) (0 + lnS 9 + 1 + lnS 10 + 1 + lnS 11 + 1)) (0 + lnS 9 + 1 + lnS 10 + 1 + lnS 11 + 1 + lnS 12) (vp_nar .byte (Int32.ofNat (48 + d)))) j = (dynS (36 + 200 * a + 20 * b + 4 * c + d)).getD j 0 := by decide +kernel
theorem fA_fit : ∀ d1, d1 < 9 → ∀ d2, d2 < 4 → ∀ j, j < 5 → fits .byte (.int ((dynS (4 * d1 + d2)).getD j 0)) = true := by decide +kernel
set_option maxRecDepth 20000 in
theorem fB_fit : ∀ a, a < 4 → ∀ b, b < 10 → ∀ c, c < 5 → ∀ d, d < 4 → ∀ j, j < 9 → fits .byte (.int ((dynS (36 + 200 * a + 20 * b + 4 * c + d)).getD j 0)) = true := by decide +kernel
theorem ln_fit : ∀ z, z < 16 → 6 < z → z < 15 → ∀ j, j < lnS z → fits .byte (.int ((byS z).getD j 0)) = true := by decide +kernel
section GLY
variable {p : Program} {l : Launch} {e : Env} {R : Room} {s : State} {m : MethodId} {args : Array Value} {below : List Frame} {meth : Method} {c : Code} {H H0 : Heap} {locs : List Loc} {cells slots : Nat} {Q : State → Prop} {cc : ByteArray} {pc : Nat} {ls : Array Slot} {rest : List Value} {nL : Nat} {own : String} {E : Ev} {σ : St} {L : List (Nat × va_E)}
theorem XR.of (h : GS E σ H0 H locs) : XR E σ [] H0 H locs := ⟨by rw [List.append_nil]; exact h.1, by rw [List.append_nil]; exact h.2.1, h.2.2⟩
theorem Mip_of {l : Launch} {y : MethodName} {d mc ms : Nat} {ret : Option FieldType} {av : List Value} {C : String} (hC : y.cls = C) (hy : plainName y.cls = true) (hn : (lg_sl av).length ≤ nL) {z : St × Int32}
    (body : ∀ (p : Program) (e : Env) (s : State) (m : MethodId) (below : List Frame) (meth : Method) (c : Code) (ls : Array Slot), Bx E p m meth c cc nL ret s av.toArray C → (∀ q, s.heap.size ≤ q → AE E q) → PV s → GS E σ s.heap s.heap [] → lv_has ls nL (lv_args 0 av) → W p l e (rmA d mc ms) s m av.toArray below meth c s.heap [] 0 0 (QIm E z below av.toArray s mc ms) (F0 m 0 ls [])) : Mip l E y cc nL ret d mc ms av σ z.1 z.2 := by
  refine Met.ofW (cc := cc) (maxL := nL) (ret := ret) hy rfl ?_
  intro p e s m args below meth c s₁ B hml hv
  obtain ⟨rfl, ⟨⟨hP, hK, hD, hNW, hXW⟩, hAn⟩, hPV⟩ := hv
  subst hC
  have hts := atoms_spec (ws := wsM y cc nL ret) B.pre
  have hl := lv_entry av (n := nL) hn
  have key := body p e s m below meth c _ ⟨⟨⟨B.exec, B.bytes, hml, findClass_of_methodNamed B.named, fun w hw => hts w (List.mem_cons_of_mem _ hw)⟩, hK, hNW, hXW⟩, B.returns, B.notSynchronized⟩ hAn hPV ⟨hP, hD, va_S.rf⟩ hl
  rw [lg_entry_eq]
  exact key
/-- a static method of the law's own that touches nothing beside the world -/
theorem x_cutS (X : Cx E p m c cc nL s args own) (hG : XR E σ L s.heap H locs) {y : MethodName} {bytes : ByteArray} {maxL d index nA : Nat} {ret : Option FieldType} {r : Int32} {As : List Value} (hC : Mi l (eN E L) y bytes maxL ret d As σ σ r) (w1 : Cond.methodLink own index y ∈ lw_tbl) (w2 : Cond.static y ∈ lw_tbl) (w4 : Cond.initialized y.cls ∈ lw_tbl) (hg : GoodIn (lw_tbl.filter goodWord) (wsM y bytes maxL ret)) (hd : y.cls ≠ "java/lang/invoke/MethodHandle" ∧ y.cls ≠ "java/lang/invoke/VarHandle" ∧ (parseMethodDescriptor y.desc).map (fun d => d.parameters.length) = some nA) (hn : As.length = nA) (hR : d + 1 ≤ R.frames ∧ 8 + (maxL + 11) + 40 * d ≤ R.locals) (hls : ls.size = nL) {st : List Value} (hst : st = As.reverse ++ rest) (hW : (rest.map fun v => v.category).sum ≤ 8) (hcs : cells + 0 ≤ R.cells ∧ slots + 0 ≤ R.slots) (hdg : decode cc pc = .ok (.invokestatic index, 3))
    (kk : ∀ (H1 : Heap) (locs1 : List Loc), XR E σ L s.heap H1 locs1 → W p l e R s m args below meth c H1 locs1 cells slots Q (F0 m (pc + 3) ls (.int r :: rest))) : W p l e R s m args below meth c H locs cells slots Q (F0 m pc ls st) := by
  obtain ⟨⟨hx, hb, hml, hown, hts⟩, hK, hNW, hXW⟩ := X
  refine va_calli (va_runS ⟨hx, hb, hml, hown, hts⟩ hC ⟨callB_of nA hts hg rfl rfl rfl (hts _ (gw_in w4 rfl)) (hts _ (gw_in w1 rfl)) hd hR, hts _ (gw_in w2 rfl)⟩ ⟨GB_blind, XC_pre hK hNW hXW hG _⟩ rfl hn hls hst (lv_room hW) hdg hcs) hG.2.2 (fun q _ h => h.1) (fun q h => h.1) (fun r1 u t H1 locs1 ht hvm hw hB hz1 hk1 hS1 => ?_)
  obtain ⟨rfl, rfl⟩ := hw
  have h9 := hG.join (M := []) ht (by rw [List.append_nil]; exact hB.1) (by rw [List.append_nil]; exact hB.2.2.1) hk1 hS1
  rw [List.append_nil] at h9
  exact kk H1 locs1 h9
/-- reads, on a text that was made -/
theorem x_reads {α : Type} {K : St → Int32 → Option α} {zz : α} (X : Cx E p m c cc nL s args own) (hT0 : eT E = 0) {q v sa r n code k index : Nat} {va vb : va_E} {g : Nat → Int32} (hG : XR E σ [(q, va), (v, vb), (sa, .inr (11, [.ref r, .int 0, .int 0, .int 0])), (r, .inl (eB E, n, .inl g))] s.heap H locs) (hlen : n = lnS (16 + code)) (hb8 : ∀ j, j < n → g j = (byS (16 + code)).getD j 0) (hL : lay 10 k) (w1 : Cond.methodLink own index yL_reads ∈ lw_tbl)
    (hR : 8 + 1 ≤ R.frames ∧ 8 + (3 + 11) + 40 * 8 ≤ R.locals) (hls : ls.size = nL) (hW : (rest.map fun v => v.category).sum ≤ 8) (hcs : cells + 0 ≤ R.cells ∧ slots + 0 ≤ R.slots) (hdg : decode cc pc = .ok (.invokestatic index, 3)) (hM : bcall (M_L_reads σ k (16 + code)) K = some zz)
    (kk : ∀ (σ1 : St) (r : Int32) (H1 : Heap) (locs1 : List Loc), GS E σ1 s.heap H1 locs1 → K σ1 r = some zz → W p l e R s m args below meth c H1 locs1 cells slots Q (F0 m (pc + 3) ls (.int r :: rest))) : W p l e R s m args below meth c H locs cells slots Q (F0 m pc ls (.ref sa :: .ref (E.1 k) :: rest)) := by
  obtain ⟨⟨hx, hb, hml, hown, hts⟩, hK, hNW, hXW⟩ := X
  generalize hLL : ([(q, va), (v, vb), (sa, .inr (11, [.ref r, .int 0, .int 0, .int 0])), (r, .inl (eB E, n, .inl g))] : List (Nat × va_E)) = LL at hG
  have g2 : LL[2]? = some (sa, .inr (11, [.ref r, .int 0, .int 0, .int 0])) := by rw [← hLL]; rfl
  have g3 : LL[3]? = some (r, .inl (eB E, n, .inl g)) := by rw [← hLL]; rfl
  have h1 := hG.cutX hXW
  have hsaL := List.mem_of_getElem? g2
  have hrL := List.mem_of_getElem? g3
  have nA : ¬ AE (eN E LL) sa := fun z => z.2 _ hsaL rfl
  have nR : ¬ AE (eN E LL) r := fun z => z.2 _ hrL rfl
  have aA : AE E sa := hG.2.1.2 (248 + 2) _ (by rw [gW_ap]; exact g2)
  have hP2 := hG.1 (248 + 2) _ (by rw [gW_ap]; exact g2)
  have hP3 : H[r]? = some (vp_cell (eB E) (n, .inl g)) := hG.1 (248 + 3) (r, .inl (eB E, n, .inl g)) (by rw [gW_ap]; exact g3)
  obtain ⟨r0, z1, cell, q1, q2, q3, q4⟩ := hP2
  have hr0 : r0 = (RJ0, TJ0, 4) := Option.some.inj (z1.symm.trans (rfl : vwCl[11]? = some (RJ0, TJ0, 4)))
  subst hr0
  obtain ⟨hS, hfc, kC, hkC, hkind⟩ := hK.1 11 _ (rfl : vwCl[11]? = some (RJ0, TJ0, 4))
  have fld : ∀ (j : Nat) (w : Value), j < 4 → ([.ref r, .int 0, .int 0, .int 0] : List Value)[j]? = some w → va_OF "java/lang/String" (TJ0 j).2.1 (TJ0 j).2.2.1 w sa (AE (eN E LL)) s H := by
    intro j w hj hw
    obtain ⟨cf, kf, fi, f, hi, hsl⟩ := hS j hj
    have hst := (u_facts hfc hkC (u_lays hts fnJ0 hj) hi).1
    have hj2 : (TJ0 j).1 = "java/lang/String" := by
      have : j = 0 ∨ j = 1 ∨ j = 2 ∨ j = 3 := by omega
      rcases this with rfl | rfl | rfl | rfl <;> rfl
    rw [hj2] at hi
    refine ⟨cf, kf, fi, f, cell, hi, hst, q1, (by rw [q3]; exact fun h => by cases h), ?_, nA⟩
    rw [hsl, q4 j hj]
    simp [vp_V, hw]
  have hn1 : ∀ i, i < 16 → (lnsE (eD E LL code sa r)).getD i 0 = (lnsE E).getD i 0 := fun i hi => (gd_lf lenS _ 0 (by show i < 16; exact hi)).trans (gd_lf lenS _ 0 (by show i < 16; exact hi)).symm
  have hn2 : ∀ i, i < 16 → (bysE (eD E LL code sa r)).getD i [] = (bysE E).getD i [] := fun i hi => (gd_lf bytS _ [] (by show i < 16; exact hi)).trans (gd_lf bytS _ [] (by show i < 16; exact hi)).symm
  have ha1 : ∀ i, i < 16 → adK (eD E LL code sa r) i = adK E i := fun i hi => if_neg (by omega)
  have ha2 : ∀ i, i < 16 → adV (eD E LL code sa r) i = adV E i := fun i hi => if_neg (by omega)
  have a16 : adK (eD E LL code sa r) 16 = sa := by
    show (if (16 : Nat) = 16 then sa else adK E 16) = sa
    exact if_pos rfl
  have v16 : adV (eD E LL code sa r) 16 = r := by
    show (if (16 : Nat) = 16 then r else adV E 16) = r
    exact if_pos rfl
  have l16 : (lnsE (eD E LL code sa r)).getD 16 0 = n := by
    rw [hlen, show 16 + code = 15 + (code + 1) by omega]
    exact gd_rt lenS _ 0
  have b16 : (bysE (eD E LL code sa r)).getD 16 [] = byS (16 + code) := by
    rw [show 16 + code = 15 + (code + 1) by omega]
    exact gd_rt bytS _ []
  have n17 : nS (eD E LL code sa r) = 17 := if_neg (by show ¬ code + 1 = 0; omega)
  have n16 : nS E = 16 := if_pos hT0
  have hT : va_T .byte r n (fun j => .int ((byS (16 + code)).getD j 0)) (AE (eN E LL)) s H := by
    refine ⟨vp_cell (eB E) (n, .inl g), hP3, (hK.2 3 _ rfl).1 n (fun j => .int (g j)), (fun z => by cases z), ?_, ?_, fun j hj => ?_, nR⟩
    · show n ≤ (arrV _ _ _).slots.size
      rw [arrV_size]; exact Nat.le_refl _
    · show (arrV _ _ _).slots.size.toInt32 = _
      rw [arrV_size]
    · show (arrV _ _ _).slots[j]? = _
      rw [arrV_read _ _ hj, hb8 j hj]
  have hO : va_O "java/lang/String" sa (AE (eN E LL)) s H := ⟨cell, q1, by rw [q3]; rfl, by rw [q2]; exact hfc, nA⟩
  have hXD : XW (eD E LL code sa r) s H := by
    refine ⟨h1.1, h1.2.1, ?_, fun i hi => ?_, h1.2.2.2.2.1, h1.2.2.2.2.2⟩
    · rw [n17]
      refine ⟨fun i hi => ?_, fun i j hi hj he => ?_⟩
      · by_cases c1 : i < 16
        · rw [hn1 i c1, hn2 i c1, ha1 i c1, ha2 i c1]
          exact h1.2.2.1.1 i (by show i < nS E; rw [n16]; exact c1)
        · obtain rfl : i = 16 := by omega
          rw [a16, v16, l16, b16]
          exact ⟨hO, fld 1 _ (by decide) rfl, fld 0 _ (by decide) rfl, hT⟩
      · have ne : ∀ i, i < 16 → ¬ adK E i = sa := fun i hi he => by
          obtain ⟨c9, -, -, -, h9⟩ := (hXW.2.2.1.1 i (by rw [n16]; exact hi)).1
          exact h9 (by rw [he]; exact aA)
        by_cases c1 : i < 16 <;> by_cases c2 : j < 16
        · rw [ha1 i c1, ha1 j c2] at he
          exact hXW.2.2.1.2 i j (by rw [n16]; exact c1) (by rw [n16]; exact c2) he
        · obtain rfl : j = 16 := by omega
          rw [ha1 i c1, a16] at he
          exact absurd he (ne i c1)
        · obtain rfl : i = 16 := by omega
          rw [ha1 j c2, a16] at he
          exact absurd he.symm (ne j c2)
        · omega
    · rw [ha1 i hi]; exact h1.2.2.2.1 i hi
  cases ho : M_L_reads σ k (16 + code) with
  | none => rw [ho] at hM; cases hM
  | some p1 =>
    rw [ho] at hM
    obtain ⟨σ1, r1⟩ := p1
    have hC := C_L_reads l (eD E LL code sa r) ho hL (Or.inr ⟨(by show ¬ code + 1 = 0; omega), (by show 16 + code = 15 + (code + 1); omega)⟩)
    have e2 : eK (eD E LL code sa r) (16 + code) = sa := by
      show adK (eD E LL code sa r) (slS (16 + code)) = sa
      rw [show slS (16 + code) = 16 from if_neg (by omega)]; exact a16
    rw [e2] at hC
    refine va_calli (va_runS (As := [.ref (E.1 k), .ref sa]) (rest := rest) ⟨hx, hb, hml, hown, hts⟩ hC ⟨callB_of 2 hts (gw_ok mw1334 rfl) rfl rfl rfl (hts _ (gw_in mw11 rfl)) (hts _ (gw_in w1 rfl)) (by decide +kernel) hR, hts _ (gw_in mw1333 rfl)⟩ ⟨GB_blind, fun U hU hW2 => ⟨rfl, by rw [hU]; exact hG.gs.1, va_K.moved hW2.alike hK, hG.cutD, NW.warm hW2 hNW, XW.warm hW2 (by rw [hU]; exact hXD)⟩⟩ rfl rfl hls rfl (lv_room hW) hdg hcs) hG.2.2 (fun q _ h => h.1) (fun q h => h.1) (fun r2 u t H1 locs1 ht hvm hw hB hz1 hk1 hS1 => ?_)
    obtain ⟨e91, e92⟩ := hw
    have h9 := hG.join (σ1 := u) (M := []) ht (by rw [List.append_nil]; exact hB.1) (by rw [List.append_nil]; exact hB.2.2.1) hk1 hS1
    rw [e91]
    exact kk u r1 H1 locs1 h9.gs (by rw [e92]; exact hM)
end GLY
