theorem mwMinS : Cond.static Lib.Math.min.name ∈ lw_tbl := mw347
theorem mwMaxS : Cond.static Lib.Math.max.name ∈ lw_tbl := mw350
theorem mwMathI : Cond.initialized "java/lang/Math" ∈ lw_tbl := mw23
theorem mwMinC : Cond.code Lib.Math.min.name Lib.Math.min.code 2 (some .int) ∈ lw_tbl := mw348
theorem mwMaxC : Cond.code Lib.Math.max.name Lib.Math.max.code 2 (some .int) ∈ lw_tbl := mw351
theorem mwCpyN : Cond.native arraycopyName ∈ lw_tbl := mw401
theorem mwCpyS : Cond.static arraycopyName ∈ lw_tbl := mw400
theorem mwSysI : Cond.initialized "java/lang/System" ∈ lw_tbl := mw24
section GR
variable {p : Program} {l : Launch} {e : Env} {R : Room} {s : State} {m : MethodId} {args : Array Value} {below : List Frame} {meth : Method} {c : Code} {H H0 : Heap} {locs : List Loc} {cells slots : Nat} {Q : State → Prop} {cc : ByteArray} {pc : Nat} {ls : Array Slot} {rest : List Value} {nL : Nat} {own : String} {E : Ev} {σ : St}
theorem g_get (X : Cx E p m c cc nL s args own) (hG : GS E σ H0 H locs) {ci k : Nat} (hL : lay ci k) {C : String} {T : u_T} {N : Nat} (hc : vwCl[ci]? = some (C, T, N)) (hin : ∀ w ∈ u_ws C T N, w ∈ lw_tbl.filter goodWord) (j : Nat) (hj : j < N) {index : Nat} (hw : Cond.fieldLink own index (T j).1 (T j).2.1 (T j).2.2.1 ∈ lw_tbl) {v : Value} (hv : (flds E.1 k (σ k) ci)[j]? = some v) (hdg : decode cc pc = .ok (.getfield index, 3))
    (kk : W p l e R s m args below meth c H locs cells slots Q (F0 m (pc + 3) ls (v :: rest))) : W p l e R s m args below meth c H locs cells slots Q (F0 m pc ls (.ref (E.1 k) :: rest)) := by
  obtain ⟨⟨hx, hb, hml, hown, hts⟩, hK, hNW, hXW⟩ := X
  have he : (gW E σ)[k]? = some (E.1 k, .inr (ci, flds E.1 k (σ k) ci)) := by rw [gW_at E σ (lay_lt hL), cell_ob hL]
  exact va_get hx hb hts hin hown hK hG.1 k he hc j hj (hts _ (gw_in hw rfl)) (fun _ h => h) hv hdg kk
theorem g_getN (X : Cx E p m c cc nL s args own) (hG : GS E σ H0 H locs) {ci k : Nat} (hL : lay ci k) {C host : String} {T : u_T} {N : Nat} (hc : vwCl[ci]? = some (C, T, N)) (hin : ∀ w ∈ u_ws C T N, w ∈ lw_tbl.filter goodWord) (j : Nat) (hj : j < N) {index : Nat} (hw : Cond.fieldLinkNest own index (T j).1 (T j).2.1 (T j).2.2.1 host ∈ lw_tbl) {v : Value} (hv : (flds E.1 k (σ k) ci)[j]? = some v) (hdg : decode cc pc = .ok (.getfield index, 3))
    (kk : W p l e R s m args below meth c H locs cells slots Q (F0 m (pc + 3) ls (v :: rest))) : W p l e R s m args below meth c H locs cells slots Q (F0 m pc ls (.ref (E.1 k) :: rest)) := by
  obtain ⟨⟨hx, hb, hml, hown, hts⟩, hK, hNW, hXW⟩ := X
  have he : (gW E σ)[k]? = some (E.1 k, .inr (ci, flds E.1 k (σ k) ci)) := by rw [gW_at E σ (lay_lt hL), cell_ob hL]
  exact va_getN hx hb hts hin hown hK hG.1 k he hc j hj (va_Nw.use rfl (hNW _ hw rfl)) (fun _ h => h) hv hdg kk
theorem g_put {α : Type} {K : St → Option α} {z : α} (X : Cx E p m c cc nL s args own) (hG : GS E σ H0 H locs) {ci k : Nat} (hL : lay ci k) {C : String} {T : u_T} {N : Nat} (hc : vwCl[ci]? = some (C, T, N)) (hin : ∀ w ∈ u_ws C T N, w ∈ lw_tbl.filter goodWord) (ty0 : Nat → FieldType) (hty : ∀ k, k < N → parseFieldDescriptor (T k).2.2.1 = some (ty0 k)) (hnm : ∀ a, a < N → ∀ b, b < N → a ≠ b → (T a).2.1 ≠ (T b).2.1) (j : Nat) (hj : j < N) {index : Nat} (hw : Cond.fieldLink own index (T j).1 (T j).2.1 (T j).2.2.1 ∈ lw_tbl) (hfin : (T j).2.2.2 = false) {ty : FieldType} {v : Int32} (hd : parseFieldDescriptor (T j).2.2.1 = some ty) (hn : narrow ty (.int v) = .int v) (hfit : fits ty (.int v) = true) (hlen : j < (flds E.1 k (σ k) ci).length) (hset : (flds E.1 k (σ k) ci).set j (.int v) = flds E.1 k (upd (σ k) j v) ci) (hdg : decode cc pc = .ok (.putfield index, 3)) (hM : bput σ k j v K = some z)
    (kk : ∀ (σ1 : St) (H1 : Heap) (locs1 : List Loc), GS E σ1 H0 H1 locs1 → K σ1 = some z → W p l e R s m args below meth c H1 locs1 cells slots Q (F0 m (pc + 3) ls rest)) : W p l e R s m args below meth c H locs cells slots Q (F0 m pc ls (.int v :: .ref (E.1 k) :: rest)) := by
  obtain ⟨⟨hx, hb, hml, hown, hts⟩, hK, hNW, hXW⟩ := X
  have he : (gW E σ)[k]? = some (E.1 k, .inr (ci, flds E.1 k (σ k) ci)) := by rw [gW_at E σ (lay_lt hL), cell_ob hL]
  refine va_put hx hb hts hin ty0 hty hnm hown hK hG.1 hG.2.1 hG.2.2 k he hc j hj (hts _ (gw_in hw rfl)) (fun _ h => h) hfin hd hn hfit hlen hdg (fun H1 locs1 a b d => ?_)
  have e1 : (gW E σ).set k (E.1 k, .inr (ci, (flds E.1 k (σ k) ci).set j (.int v))) = gW E (u2 σ k j v) := by
    rw [hset]; exact gW_set (lay_lt hL) _ (cell_ob hL).symm
  rw [e1] at a b
  exact kk _ H1 locs1 ⟨a, b, d⟩ hM
theorem g_putN {α : Type} {K : St → Option α} {z : α} (X : Cx E p m c cc nL s args own) (hG : GS E σ H0 H locs) {ci k : Nat} (hL : lay ci k) {C host : String} {T : u_T} {N : Nat} (hc : vwCl[ci]? = some (C, T, N)) (hin : ∀ w ∈ u_ws C T N, w ∈ lw_tbl.filter goodWord) (ty0 : Nat → FieldType) (hty : ∀ k, k < N → parseFieldDescriptor (T k).2.2.1 = some (ty0 k)) (hnm : ∀ a, a < N → ∀ b, b < N → a ≠ b → (T a).2.1 ≠ (T b).2.1) (j : Nat) (hj : j < N) {index : Nat} (hw : Cond.fieldLinkNest own index (T j).1 (T j).2.1 (T j).2.2.1 host ∈ lw_tbl) (hfin : (T j).2.2.2 = false) {ty : FieldType} {v : Int32} (hd : parseFieldDescriptor (T j).2.2.1 = some ty) (hn : narrow ty (.int v) = .int v) (hfit : fits ty (.int v) = true) (hlen : j < (flds E.1 k (σ k) ci).length) (hset : (flds E.1 k (σ k) ci).set j (.int v) = flds E.1 k (upd (σ k) j v) ci) (hdg : decode cc pc = .ok (.putfield index, 3)) (hM : bput σ k j v K = some z)
    (kk : ∀ (σ1 : St) (H1 : Heap) (locs1 : List Loc), GS E σ1 H0 H1 locs1 → K σ1 = some z → W p l e R s m args below meth c H1 locs1 cells slots Q (F0 m (pc + 3) ls rest)) : W p l e R s m args below meth c H locs cells slots Q (F0 m pc ls (.int v :: .ref (E.1 k) :: rest)) := by
  obtain ⟨⟨hx, hb, hml, hown, hts⟩, hK, hNW, hXW⟩ := X
  have he : (gW E σ)[k]? = some (E.1 k, .inr (ci, flds E.1 k (σ k) ci)) := by rw [gW_at E σ (lay_lt hL), cell_ob hL]
  refine va_putN hx hb hts hin ty0 hty hnm hown hK hG.1 hG.2.1 hG.2.2 k he hc j hj (va_Nw.use rfl (hNW _ hw rfl)) (fun _ h => h) hfin hd hn hfit hlen hdg (fun H1 locs1 a b d => ?_)
  have e1 : (gW E σ).set k (E.1 k, .inr (ci, (flds E.1 k (σ k) ci).set j (.int v))) = gW E (u2 σ k j v) := by
    rw [hset]; exact gW_set (lay_lt hL) _ (cell_ob hL).symm
  rw [e1] at a b
  exact kk _ H1 locs1 ⟨a, b, d⟩ hM
theorem vp_in_ij {i : Int32} {n : Nat} (h : 0 ≤ i.toInt ∧ i.toInt < n) : vp_in i n := vp_in_iff.mpr h
theorem g_ald {α : Type} {K : Int32 → Option α} {z : α} (X : Cx E p m c cc nL s args own) (hG : GS E σ H0 H locs) {k : Nat} (hA : arr 13 k) {i : Int32} (hdg : decode cc pc = .ok (.iaload, 1)) (hM : bald σ k i K = some z)
    (kk : ∀ x : Int32, K x = some z → W p l e R s m args below meth c H locs cells slots Q (F0 m (pc + 1) ls (.int x :: rest))) : W p l e R s m args below meth c H locs cells slots Q (F0 m pc ls (.int i :: .ref (E.1 k) :: rest)) := by
  obtain ⟨⟨hx, hb, hml, hown, hts⟩, hK, hNW, hXW⟩ := X
  unfold bald at hM
  by_cases hi : 0 ≤ i.toInt ∧ i.toInt < ln k
  · rw [if_pos hi] at hM
    exact va_iald hx hb hK hG.1 k 1 (by rw [gW_at E σ hA.1, cell_in hA.2]) rfl (vp_in_ij hi) hdg (kk _ hM)
  · rw [if_neg hi] at hM; cases hM
theorem g_cald {α : Type} {K : Int32 → Option α} {z : α} (X : Cx E p m c cc nL s args own) (hG : GS E σ H0 H locs) {k : Nat} (hA : arr 12 k) {i : Int32} (hdg : decode cc pc = .ok (.caload, 1)) (hM : bald σ k i K = some z)
    (kk : ∀ x : Int32, K x = some z → W p l e R s m args below meth c H locs cells slots Q (F0 m (pc + 1) ls (.int x :: rest))) : W p l e R s m args below meth c H locs cells slots Q (F0 m pc ls (.int i :: .ref (E.1 k) :: rest)) := by
  obtain ⟨⟨hx, hb, hml, hown, hts⟩, hK, hNW, hXW⟩ := X
  unfold bald at hM
  by_cases hi : 0 ≤ i.toInt ∧ i.toInt < ln k
  · rw [if_pos hi] at hM
    exact va_cald hx hb hK hG.1 k 0 (by rw [gW_at E σ hA.1, cell_ch hA.2]) rfl (vp_in_ij hi) hdg (kk _ hM)
  · rw [if_neg hi] at hM; cases hM
theorem g_ast {α : Type} {K : St → Option α} {z : α} (X : Cx E p m c cc nL s args own) (hG : GS E σ H0 H locs) {k : Nat} (hA : arr 13 k) {i x : Int32} (hdg : decode cc pc = .ok (.iastore, 1)) (hM : bast σ k i x K = some z)
    (kk : ∀ (σ1 : St) (H1 : Heap) (locs1 : List Loc), GS E σ1 H0 H1 locs1 → K σ1 = some z → W p l e R s m args below meth c H1 locs1 cells slots Q (F0 m (pc + 1) ls rest)) : W p l e R s m args below meth c H locs cells slots Q (F0 m pc ls (.int x :: .int i :: .ref (E.1 k) :: rest)) := by
  obtain ⟨⟨hx, hb, hml, hown, hts⟩, hK, hNW, hXW⟩ := X
  unfold bast at hM
  by_cases hi : 0 ≤ i.toInt ∧ i.toInt < ln k
  · rw [if_pos hi] at hM
    refine va_iast hx hb hK hG.1 hG.2.1 hG.2.2 k 1 (by rw [gW_at E σ hA.1, cell_in hA.2]) rfl (vp_in_ij hi) hdg (fun H1 locs1 a b d => ?_)
    rw [gW_set hA.1 (upd (σ k) i.toNatClampNeg x) (cell_in hA.2).symm] at a b
    exact kk _ H1 locs1 ⟨a, b, d⟩ hM
  · rw [if_neg hi] at hM; cases hM
theorem g_cast {α : Type} {K : St → Option α} {z : α} (X : Cx E p m c cc nL s args own) (hG : GS E σ H0 H locs) {k : Nat} (hA : arr 12 k) {i x : Int32} (hdg : decode cc pc = .ok (.castore, 1)) (hM : bcast σ k i x K = some z)
    (kk : ∀ (σ1 : St) (H1 : Heap) (locs1 : List Loc), GS E σ1 H0 H1 locs1 → K σ1 = some z → W p l e R s m args below meth c H1 locs1 cells slots Q (F0 m (pc + 1) ls rest)) : W p l e R s m args below meth c H locs cells slots Q (F0 m pc ls (.int x :: .int i :: .ref (E.1 k) :: rest)) := by
  obtain ⟨⟨hx, hb, hml, hown, hts⟩, hK, hNW, hXW⟩ := X
  unfold bcast at hM
  by_cases hi : 0 ≤ i.toInt ∧ i.toInt < ln k
  · rw [if_pos hi] at hM
    refine va_cast hx hb hK hG.1 hG.2.1 hG.2.2 k 0 (by rw [gW_at E σ hA.1, cell_ch hA.2]) rfl (vp_in_ij hi) hdg (fun H1 locs1 a b d => ?_)
    rw [gW_set hA.1 (upd (σ k) i.toNatClampNeg (vp_nar .char x)) (cell_ch hA.2).symm] at a b
    exact kk _ H1 locs1 ⟨a, b, d⟩ hM
  · rw [if_neg hi] at hM; cases hM
theorem g_len (X : Cx E p m c cc nL s args own) (hG : GS E σ H0 H locs) {k : Nat} (hA : arr 13 k) (hdg : decode cc pc = .ok (.arraylength, 1))
    (kk : W p l e R s m args below meth c H locs cells slots Q (F0 m (pc + 1) ls (.int (Int32.ofNat (ln k)) :: rest))) : W p l e R s m args below meth c H locs cells slots Q (F0 m pc ls (.ref (E.1 k) :: rest)) := by
  obtain ⟨⟨hx, hb, hml, hown, hts⟩, hK, hNW, hXW⟩ := X
  exact va_alen hx hb hK hG.1 k 1 (by rw [gW_at E σ hA.1, cell_in hA.2]) rfl rfl hdg kk
theorem g_lenC (X : Cx E p m c cc nL s args own) (hG : GS E σ H0 H locs) {k : Nat} (hA : arr 12 k) (hdg : decode cc pc = .ok (.arraylength, 1))
    (kk : W p l e R s m args below meth c H locs cells slots Q (F0 m (pc + 1) ls (.int (Int32.ofNat (ln k)) :: rest))) : W p l e R s m args below meth c H locs cells slots Q (F0 m pc ls (.ref (E.1 k) :: rest)) := by
  obtain ⟨⟨hx, hb, hml, hown, hts⟩, hK, hNW, hXW⟩ := X
  exact va_alen hx hb hK hG.1 k 0 (by rw [gW_at E σ hA.1, cell_ch hA.2]) rfl rfl hdg kk
theorem g_lenS (X : Cx E p m c cc nL s args own) (hG : GS E σ H0 H locs) {k : Nat} (hA : arr 14 k) (hdg : decode cc pc = .ok (.arraylength, 1))
    (kk : W p l e R s m args below meth c H locs cells slots Q (F0 m (pc + 1) ls (.int (Int32.ofNat (ln k)) :: rest))) : W p l e R s m args below meth c H locs cells slots Q (F0 m pc ls (.ref (E.1 k) :: rest)) := by
  obtain ⟨⟨hx, hb, hml, hown, hts⟩, hK, hNW, hXW⟩ := X
  exact va_alen hx hb hK hG.1 k 2 (by rw [gW_at E σ hA.1, cell_sc hA.2]) rfl rfl hdg kk
set_option maxRecDepth 20000 in
theorem kd14 : ∀ k, k < 248 → kd k = 14 → ln k = 9 := by decide +kernel
def baldS {α : Type} (k : Nat) (i : Int32) (K : Nat → Option α) : Option α := if 0 ≤ i.toInt ∧ i.toInt < ln k then K (k + 19 + 18 * i.toNatClampNeg) else none
theorem g_aldS {α : Type} {K : Nat → Option α} {z : α} (X : Cx E p m c cc nL s args own) (hG : GS E σ H0 H locs) {k : Nat} (hA : arr 14 k) {i : Int32} (hdg : decode cc pc = .ok (.aaload, 1)) (hM : baldS k i K = some z)
    (kk : ∀ x : Nat, x = k + 19 + 18 * i.toNatClampNeg → K x = some z → W p l e R s m args below meth c H locs cells slots Q (F0 m (pc + 1) ls (.ref (E.1 x) :: rest))) : W p l e R s m args below meth c H locs cells slots Q (F0 m pc ls (.int i :: .ref (E.1 k) :: rest)) := by
  obtain ⟨⟨hx, hb, hml, hown, hts⟩, hK, hNW, hXW⟩ := X
  unfold baldS at hM
  by_cases hi : 0 ≤ i.toInt ∧ i.toInt < ln k
  · rw [if_pos hi] at hM
    have h9 : i.toNatClampNeg < 9 := by
      have a1 := kd14 k hA.1 hA.2
      have a2 : ¬ (ln k ≤ i.toNatClampNeg) := fun q => (vp_in_ij hi) (Or.inr q)
      omega
    exact va_aldq (f := fun i => if i < 9 then some (E.1 (k + 19 + 18 * i)) else none) hx hb hK hG.1 k 2 (by rw [gW_at E σ hA.1, cell_sc hA.2]) rfl (vp_in_ij hi) hdg (by
      have e1 : va_rf (if i.toNatClampNeg < 9 then some (E.1 (k + 19 + 18 * i.toNatClampNeg)) else none) = .ref (E.1 (k + 19 + 18 * i.toNatClampNeg)) := by rw [if_pos h9]; rfl
      show W p l e R s m args below meth c H locs cells slots Q (F0 m (pc + 1) ls (va_rf (if i.toNatClampNeg < 9 then some (E.1 (k + 19 + 18 * i.toNatClampNeg)) else none) :: rest))
      rw [e1]
      exact kk _ rfl hM)
  · rw [if_neg hi] at hM; cases hM
theorem g_name {α : Type} {K : Int32 → Option α} {z : α} {v : Int32} (hM : blet v K = some z) (kk : ∀ x : Int32, K x = some z → W p l e R s m args below meth c H locs cells slots Q (F0 m pc ls (.int x :: rest))) : W p l e R s m args below meth c H locs cells slots Q (F0 m pc ls (.int v :: rest)) := kk v hM
theorem g_nm {α : Type} {K : Int32 → Option α} {z : α} {v : Int32} (hM : blet v K = some z) : ∃ x : Int32, x = v ∧ K x = some z := ⟨v, rfl, hM⟩
theorem b_if {α : Type} {P : Prop} {A B : Option α} {z : α} {dP : Decidable P} (hM : (if P then A else B) = some z) (h : P) : A = some z := by rw [if_pos h] at hM; exact hM
theorem b_else {α : Type} {P : Prop} {A B : Option α} {z : α} {dP : Decidable P} (hM : (if P then A else B) = some z) (h : ¬ P) : B = some z := by rw [if_neg h] at hM; exact hM
theorem b_chk {α : Type} {ck : Bool} {K : Option α} {z : α} (hM : bchk ck K = some z) : ck = true ∧ K = some z := by
  unfold bchk at hM
  by_cases h : ck = true
  · rw [if_pos h] at hM; exact ⟨h, hM⟩
  · rw [if_neg h] at hM; cases hM
theorem okC_n {v : Int32} (h : okC v = true) : narrow .char (.int v) = .int v ∧ fits .char (.int v) = true := by
  unfold okC at h
  simp only [Bool.and_eq_true, decide_eq_true_eq] at h
  obtain ⟨j, hj, rfl⟩ := nI_of2 (M := 65535) (n := 65535) (by decide) (Int32.not_lt.mpr h.1) h.2
  exact pk_charN (by omega)
theorem okZ_n {v : Int32} (h : okZ v = true) : narrow .boolean (.int v) = .int v ∧ fits .boolean (.int v) = true := by
  unfold okZ at h
  simp only [Bool.or_eq_true, beq_iff_eq] at h
  rcases h with rfl | rfl <;> exact ⟨by decide, by decide⟩
def imin (x y : Int32) : Int32 := if y < x then y else x
def imax (x y : Int32) : Int32 := if x < y then y else x
theorem g_min {α : Type} {K : Int32 → Option α} {z : α} (X : Cx E p m c cc nL s args own) (hls : ls.size = nL) {index : Nat} (w1 : Cond.methodLink own index Lib.Math.min.name ∈ lw_tbl) (hfr : 1 ≤ R.frames) (hlo : (rest.map fun v => v.category).sum + 13 ≤ R.locals) (hc : cells ≤ R.cells) (hs : slots ≤ R.slots) {x y : Int32} (hdg : decode cc pc = .ok (.invokestatic index, 3)) (hM : blet (imin x y) K = some z)
    (kk : ∀ v : Int32, K v = some z → W p l e R s m args below meth c H locs cells slots Q (F0 m (pc + 3) ls (.int v :: rest))) : W p l e R s m args below meth c H locs cells slots Q (F0 m pc ls (.int y :: .int x :: rest)) := by
  obtain ⟨⟨hx, hb, hml, hown, hts⟩, hK, hNW, hXW⟩ := X
  exact va_mmin hx hb (by rw [hml, hls]) hown (hts _ (gw_in w1 rfl)) (hts _ (gw_in mwMinS rfl)) (hts _ (gw_in mwMathI rfl)) (hts _ (gw_in mwMinC rfl)) hfr hlo hc hs hdg (kk _ hM)
theorem g_max {α : Type} {K : Int32 → Option α} {z : α} (X : Cx E p m c cc nL s args own) (hls : ls.size = nL) {index : Nat} (w1 : Cond.methodLink own index Lib.Math.max.name ∈ lw_tbl) (hfr : 1 ≤ R.frames) (hlo : (rest.map fun v => v.category).sum + 13 ≤ R.locals) (hc : cells ≤ R.cells) (hs : slots ≤ R.slots) {x y : Int32} (hdg : decode cc pc = .ok (.invokestatic index, 3)) (hM : blet (imax x y) K = some z)
    (kk : ∀ v : Int32, K v = some z → W p l e R s m args below meth c H locs cells slots Q (F0 m (pc + 3) ls (.int v :: rest))) : W p l e R s m args below meth c H locs cells slots Q (F0 m pc ls (.int y :: .int x :: rest)) := by
  obtain ⟨⟨hx, hb, hml, hown, hts⟩, hK, hNW, hXW⟩ := X
  exact va_mmax hx hb (by rw [hml, hls]) hown (hts _ (gw_in w1 rfl)) (hts _ (gw_in mwMaxS rfl)) (hts _ (gw_in mwMathI rfl)) (hts _ (gw_in mwMaxC rfl)) hfr hlo hc hs hdg (kk _ hM)
/-- System.arraycopy of whole numbers -/
def bcpy {α : Type} (σ : St) (k0 : Nat) (sp : Int32) (k1 : Nat) (dp n : Int32) (K : St → Option α) : Option α := if ¬ sp < 0 ∧ ¬ dp < 0 ∧ ¬ n < 0 ∧ sp.toNatClampNeg + n.toNatClampNeg ≤ ln k0 ∧ dp.toNatClampNeg + n.toNatClampNeg ≤ ln k1 then K (va_up σ k1 (va_cpy (σ k0) (σ k1) sp.toNatClampNeg dp.toNatClampNeg n.toNatClampNeg)) else none
theorem g_copy {α : Type} {K : St → Option α} {z : α} (X : Cx E p m c cc nL s args own) (hG : GS E σ H0 H locs) (hls : ls.size = nL) {k0 k1 : Nat} (hA0 : arr 13 k0) (hA1 : arr 13 k1) {index : Nat} (w1 : Cond.methodLink own index arraycopyName ∈ lw_tbl) {sp dp n : Int32} (hfr : 1 ≤ R.frames) (hlo : (rest.map fun v => v.category).sum + (nativeFrameWords "java/lang/System" "arraycopy" 5 + 11) ≤ R.locals) (hdg : decode cc pc = .ok (.invokestatic index, 3)) (hM : bcpy σ k0 sp k1 dp n K = some z)
    (kk : ∀ (σ1 : St) (H1 : Heap) (locs1 : List Loc), GS E σ1 H0 H1 locs1 → K σ1 = some z → W p l e R s m args below meth c H1 locs1 cells slots Q (F0 m (pc + 3) ls rest)) : W p l e R s m args below meth c H locs cells slots Q (F0 m pc ls (.int n :: .int dp :: .ref (E.1 k1) :: .int sp :: .ref (E.1 k0) :: rest)) := by
  obtain ⟨⟨hx, hb, hml, hown, hts⟩, hK, hNW, hXW⟩ := X
  unfold bcpy at hM
  by_cases hi : ¬ sp < 0 ∧ ¬ dp < 0 ∧ ¬ n < 0 ∧ sp.toNatClampNeg + n.toNatClampNeg ≤ ln k0 ∧ dp.toNatClampNeg + n.toNatClampNeg ≤ ln k1
  · rw [if_pos hi] at hM
    refine va_copyi hx hb (by rw [hml, hls]) hown (hts _ (gw_in w1 rfl)) (hts _ (gw_in mwCpyN rfl)) (hts _ (gw_in mwCpyS rfl)) (hts _ (gw_in mwSysI rfl)) hK hG.1 hG.2.1 hG.2.2 k0 k1 1 1 (by rw [gW_at E σ hA0.1, cell_in hA0.2]) (by rw [gW_at E σ hA1.1, cell_in hA1.2]) rfl rfl rfl hi.1 hi.2.1 hi.2.2.1 hi.2.2.2.1 hi.2.2.2.2 (fun _ _ => rfl) hfr hlo hdg (fun H1 locs1 a b d => ?_)
    rw [gW_set hA1.1 (va_cpy (σ k0) (σ k1) sp.toNatClampNeg dp.toNatClampNeg n.toNatClampNeg) (cell_in hA1.2).symm] at a b
    exact kk _ H1 locs1 ⟨a, b, d⟩ hM
  · rw [if_neg hi] at hM; cases hM
def bbld {α : Type} (i : Nat) (j : Int32) (K : Int32 → Option α) : Option α := if 0 ≤ j.toInt ∧ j.toInt < lnS i then K ((byS i).getD j.toNatClampNeg 0) else none
theorem g_ldcS (X : Cx E p m c cc nL s args own) {i : Nat} (hi : i < 16) (hO : stO i = own) {index : Nat} (hI : stI i = index) (hdg : decode cc pc = .ok (.ldc index, 2)) (kk : W p l e R s m args below meth c H locs cells slots Q (F0 m (pc + 2) ls (.ref (eK E i) :: rest))) : W p l e R s m args below meth c H locs cells slots Q (F0 m pc ls rest) := by
  obtain ⟨⟨hx, hb, hml, hown, hts⟩, hK, hNW, hXW⟩ := X
  subst hO; subst hI
  have hs : eK E i = adK E i := congrArg (adK E) (if_pos hi)
  rw [hs] at kk
  exact va_ldcS hx hb hown (hXW.2.2.2.1 i hi) hdg kk
theorem g_sval (X : Cx E p m c cc nL s args own) (hG : GS E σ s.heap H locs) {i : Nat} (hi : okS E i) {index : Nat} (hw : Cond.fieldLink own index "java/lang/String" "value" "[B" ∈ lw_tbl) (hdg : decode cc pc = .ok (.getfield index, 3)) (kk : W p l e R s m args below meth c H locs cells slots Q (F0 m (pc + 3) ls (.ref (eV E i) :: rest))) : W p l e R s m args below meth c H locs cells slots Q (F0 m pc ls (.ref (eK E i) :: rest)) := by
  obtain ⟨⟨hx, hb, hml, hown, hts⟩, hK, hNW, hXW⟩ := X
  exact vk_getf hx hb (hXW.2.2.1.1 (slS i) (okS_at hi).1).2.2.1 hG.2.2 hown (hts _ (gw_in hw rfl)) (fun _ h => h) hdg kk
theorem g_scod (X : Cx E p m c cc nL s args own) (hG : GS E σ s.heap H locs) {i : Nat} (hi : okS E i) {index : Nat} (hw : Cond.fieldLink own index "java/lang/String" "coder" "B" ∈ lw_tbl) (hdg : decode cc pc = .ok (.getfield index, 3)) (kk : W p l e R s m args below meth c H locs cells slots Q (F0 m (pc + 3) ls (.int (0 : Int32) :: rest))) : W p l e R s m args below meth c H locs cells slots Q (F0 m pc ls (.ref (eK E i) :: rest)) := by
  obtain ⟨⟨hx, hb, hml, hown, hts⟩, hK, hNW, hXW⟩ := X
  exact vk_getf hx hb (hXW.2.2.1.1 (slS i) (okS_at hi).1).2.1 hG.2.2 hown (hts _ (gw_in hw rfl)) (fun _ h => h) hdg kk
theorem g_slen (X : Cx E p m c cc nL s args own) (hG : GS E σ s.heap H locs) {i : Nat} (hi : okS E i) (hdg : decode cc pc = .ok (.arraylength, 1)) (kk : W p l e R s m args below meth c H locs cells slots Q (F0 m (pc + 1) ls (.int (Int32.ofNat (lnS i)) :: rest))) : W p l e R s m args below meth c H locs cells slots Q (F0 m pc ls (.ref (eV E i) :: rest)) := by
  obtain ⟨⟨hx, hb, hml, hown, hts⟩, hK, hNW, hXW⟩ := X
  have h4 := (hXW.2.2.1.1 (slS i) (okS_at hi).1).2.2.2
  rw [(okS_at hi).2.1] at h4
  exact va_tlen hx hb h4 hG.2.2 rfl hdg kk
theorem g_sbld {α : Type} {K : Int32 → Option α} {z : α} (X : Cx E p m c cc nL s args own) (hG : GS E σ s.heap H locs) {i : Nat} (hi : okS E i) {j : Int32} (hdg : decode cc pc = .ok (.baload, 1)) (hM : bbld i j K = some z) (kk : ∀ x : Int32, K x = some z → W p l e R s m args below meth c H locs cells slots Q (F0 m (pc + 1) ls (.int x :: rest))) : W p l e R s m args below meth c H locs cells slots Q (F0 m pc ls (.int j :: .ref (eV E i) :: rest)) := by
  obtain ⟨⟨hx, hb, hml, hown, hts⟩, hK, hNW, hXW⟩ := X
  unfold bbld at hM
  by_cases h : 0 ≤ j.toInt ∧ j.toInt < lnS i
  · rw [if_pos h] at hM
    have h4 := (hXW.2.2.1.1 (slS i) (okS_at hi).1).2.2.2
    rw [(okS_at hi).2.1, (okS_at hi).2.2] at h4
    exact va_tb hx hb h4 hG.2.2 (vp_in_ij h) rfl hdg (kk _ hM)
  · rw [if_neg h] at hM; cases hM
theorem g_stC (X : Cx E p m c cc nL s args own) (hG : GS E σ s.heap H locs) {index : Nat} (hw : Cond.fieldLink own index "java/lang/String" "COMPACT_STRINGS" "Z" ∈ lw_tbl) (hdg : decode cc pc = .ok (.getstatic index, 3)) (kk : W p l e R s m args below meth c H locs cells slots Q (F0 m (pc + 3) ls (.int (1 : Int32) :: rest))) : W p l e R s m args below meth c H locs cells slots Q (F0 m pc ls rest) := by
  obtain ⟨⟨hx, hb, hml, hown, hts⟩, hK, hNW, hXW⟩ := X
  exact va_gets hx hb hXW.1 hG.2.2 hown (hts _ (gw_in hw rfl)) (fun _ h => h) hdg kk
theorem g_stF (X : Cx E p m c cc nL s args own) (hG : GS E σ s.heap H locs) {index : Nat} (hw : Cond.fieldLink own index "jdk/internal/util/Preconditions" "SIOOBE_FORMATTER" "Ljava/util/function/BiFunction;" ∈ lw_tbl) (hdg : decode cc pc = .ok (.getstatic index, 3)) (k0 : W p l e R s m args below meth c H locs cells slots Q (F0 m (pc + 3) ls (.null :: rest))) (kk : ∀ t : Nat, W p l e R s m args below meth c H locs cells slots Q (F0 m (pc + 3) ls (.ref t :: rest))) : W p l e R s m args below meth c H locs cells slots Q (F0 m pc ls rest) := by
  obtain ⟨⟨hx, hb, hml, hown, hts⟩, hK, hNW, hXW⟩ := X
  rcases hXW.2.1 with hz | ⟨t, hz⟩
  · exact va_gets hx hb hz hG.2.2 hown (hts _ (gw_in hw rfl)) (fun _ h => h) hdg k0
  · exact va_gets hx hb hz hG.2.2 hown (hts _ (gw_in hw rfl)) (fun _ h => h) hdg (kk t)
/-! calls -/
theorem GB_blind {E : Ev} {σ : St} {av : List Value} : FrameBlind (va_Pc av (GB E σ)) := fun a U g mk q => ⟨q.1, q.2.1, va_K.moved (u := U) (U := U.calling g mk a) (Vm.Alike.refl U.vm) q.2.2.1, q.2.2.2.1, NW.same (u := U) (U := U.calling g mk a) rfl q.2.2.2.2.1, XW.same (u := U) (U := U.calling g mk a) rfl q.2.2.2.2.2⟩
theorem GB_pre (hK : va_K E.2.1 vwCl (tysE E) s) (hNW : NW s) (hXW : XW E s s.heap) (hG : GS E σ s.heap H locs) (av : List Value) : ∀ U : State, U.heap = H → s.WarmedH U.vm → va_Pc av (GB E σ) av.toArray U := fun U hU hW => ⟨rfl, by rw [hU]; exact hG.1, va_K.moved hW.alike hK, hG.2.1, NW.warm hW hNW, XW.warm hW (by rw [hU]; exact hXW.kept hG.2.2.2.1)⟩
theorem GB_recv (hK : va_K E.2.1 vwCl (tysE E) s) (hG : GS E σ H0 H locs) {ci k : Nat} (hL : lay ci k) {C : String} {T : u_T} {N : Nat} (hc : vwCl[ci]? = some (C, T, N)) : ∃ cell : Cell, H[E.1 k]? = some cell ∧ cell.vm.isStatics = false ∧ s.vm.findClass C = some cell.cls :=
  va_recv (q := (C, T, N)) hK hG.1 hc (q0 := k) (by rw [gW_at E σ (lay_lt hL), cell_ob hL])
theorem g_callV_i {α : Type} {o : Option (St × Int32)} {K : St → Int32 → Option α} {z : α} {y : MethodName} {bytes : ByteArray} {maxL index nA d : Nat} {ret : Option FieldType} {As : List Value} (X : Cx E p m c cc nL s args own) (hG : GS E σ s.heap H locs) {ci k : Nat} (hL : lay ci k) {C : String} {T : u_T} {N : Nat} (hc : vwCl[ci]? = some (C, T, N)) (hyC : y.cls = C) (hC : ∀ (σ' : St) (r : Int32), o = some (σ', r) → Mi l E y bytes maxL ret d (.ref (E.1 k) :: As) σ σ' r)
    (w1 : Cond.methodLink own index y ∈ lw_tbl) (w2 : Cond.instanceMethod y ∈ lw_tbl) (w3 : Cond.selects C y y ∈ lw_tbl) (w4 : Cond.initialized C ∈ lw_tbl) (hg : GoodIn (lw_tbl.filter goodWord) (wsM y bytes maxL ret)) (hd : y.cls ≠ "java/lang/invoke/MethodHandle" ∧ y.cls ≠ "java/lang/invoke/VarHandle" ∧ (parseMethodDescriptor y.desc).map (fun d => d.parameters.length) = some nA) (hn : As.length = nA) (hR : d + 1 ≤ R.frames ∧ 8 + (maxL + 11) + 40 * d ≤ R.locals) (hls : ls.size = nL) {st : List Value} (hst : st = As.reverse ++ .ref (E.1 k) :: rest) (hW : (rest.map fun v => v.category).sum ≤ 8) (hcs : cells + 0 ≤ R.cells ∧ slots + 0 ≤ R.slots) (hdg : decode cc pc = .ok (.invokevirtual index, 3)) (hM : bcall o K = some z)
    (kk : ∀ (σ1 : St) (r : Int32) (H1 : Heap) (locs1 : List Loc), GS E σ1 s.heap H1 locs1 → K σ1 r = some z → W p l e R s m args below meth c H1 locs1 cells slots Q (F0 m (pc + 3) ls (.int r :: rest))) : W p l e R s m args below meth c H locs cells slots Q (F0 m pc ls st) := by
  obtain ⟨⟨hx, hb, hml, hown, hts⟩, hK, hNW, hXW⟩ := X
  cases ho : o with
  | none => rw [ho] at hM; cases hM
  | some q =>
    rw [ho] at hM
    obtain ⟨σ1, r⟩ := q
    refine va_calli (va_runV ⟨hx, hb, hml, hown, hts⟩ (hC σ1 r ho) (cwV nA hts (fun w hw => (List.mem_append.mp hw).elim (fun h => by rcases List.mem_cons.mp h with rfl | h; exact ⟨gw_in w1 rfl, good_of_word rfl⟩; rcases List.mem_cons.mp h with rfl | h; exact ⟨gw_in w2 rfl, good_of_word rfl⟩; rcases List.mem_cons.mp h with rfl | h; exact ⟨gw_in w3 rfl, good_of_word rfl⟩; rcases List.mem_cons.mp h with rfl | h; exact ⟨gw_in w4 rfl, good_of_word rfl⟩; cases h) (hg w)) rfl rfl rfl ⟨hyC, hd⟩ hR) ⟨GB_blind, GB_recv hK hG hL hc, GB_pre hK hNW hXW hG _⟩ rfl hn hls hst (lv_room hW) hdg hcs) hG.2.2 (fun q _ h => h) (fun q h => h) (fun r1 u t H1 locs1 ht hvm hw hB hz1 hk1 hS1 => ?_)
    obtain ⟨rfl, rfl⟩ := hw
    exact kk _ _ H1 locs1 ⟨by rw [← ht]; exact hB.1, hB.2.2.1, hS1⟩ hM
theorem g_callV_v {α : Type} {o : Option (St × Int32)} {K : St → Int32 → Option α} {z : α} {y : MethodName} {bytes : ByteArray} {maxL index nA d : Nat} {As : List Value} (X : Cx E p m c cc nL s args own) (hG : GS E σ s.heap H locs) {ci k : Nat} (hL : lay ci k) {C : String} {T : u_T} {N : Nat} (hc : vwCl[ci]? = some (C, T, N)) (hyC : y.cls = C) (hC : ∀ (σ' : St) (r : Int32), o = some (σ', r) → Mv l E y bytes maxL d (.ref (E.1 k) :: As) σ σ')
    (w1 : Cond.methodLink own index y ∈ lw_tbl) (w2 : Cond.instanceMethod y ∈ lw_tbl) (w3 : Cond.selects C y y ∈ lw_tbl) (w4 : Cond.initialized C ∈ lw_tbl) (hg : GoodIn (lw_tbl.filter goodWord) (wsM y bytes maxL none)) (hd : y.cls ≠ "java/lang/invoke/MethodHandle" ∧ y.cls ≠ "java/lang/invoke/VarHandle" ∧ (parseMethodDescriptor y.desc).map (fun d => d.parameters.length) = some nA) (hn : As.length = nA) (hR : d + 1 ≤ R.frames ∧ 8 + (maxL + 11) + 40 * d ≤ R.locals) (hls : ls.size = nL) {st : List Value} (hst : st = As.reverse ++ .ref (E.1 k) :: rest) (hW : (rest.map fun v => v.category).sum ≤ 8) (hcs : cells + 0 ≤ R.cells ∧ slots + 0 ≤ R.slots) (hdg : decode cc pc = .ok (.invokevirtual index, 3)) (hM : bcall o K = some z)
    (kk : ∀ (σ1 : St) (r : Int32) (H1 : Heap) (locs1 : List Loc), GS E σ1 s.heap H1 locs1 → K σ1 r = some z → W p l e R s m args below meth c H1 locs1 cells slots Q (F0 m (pc + 3) ls rest)) : W p l e R s m args below meth c H locs cells slots Q (F0 m pc ls st) := by
  obtain ⟨⟨hx, hb, hml, hown, hts⟩, hK, hNW, hXW⟩ := X
  cases ho : o with
  | none => rw [ho] at hM; cases hM
  | some q =>
    rw [ho] at hM
    obtain ⟨σ1, r⟩ := q
    refine va_callv (va_runV ⟨hx, hb, hml, hown, hts⟩ (hC σ1 r ho) (cwV nA hts (fun w hw => (List.mem_append.mp hw).elim (fun h => by rcases List.mem_cons.mp h with rfl | h; exact ⟨gw_in w1 rfl, good_of_word rfl⟩; rcases List.mem_cons.mp h with rfl | h; exact ⟨gw_in w2 rfl, good_of_word rfl⟩; rcases List.mem_cons.mp h with rfl | h; exact ⟨gw_in w3 rfl, good_of_word rfl⟩; rcases List.mem_cons.mp h with rfl | h; exact ⟨gw_in w4 rfl, good_of_word rfl⟩; cases h) (hg w)) rfl rfl rfl ⟨hyC, hd⟩ hR) ⟨GB_blind, GB_recv hK hG hL hc, GB_pre hK hNW hXW hG _⟩ rfl hn hls hst (lv_room hW) hdg hcs) hG.2.2 (fun q _ h => h) (fun q h => h) (fun u t H1 locs1 ht hvm hw hB hz1 hk1 hS1 => ?_)
    subst hw
    exact kk _ r H1 locs1 ⟨by rw [← ht]; exact hB.1, hB.2.2.1, hS1⟩ hM
theorem g_callV_r {α : Type} {o : Option (St × Nat)} {K : St → Nat → Option α} {z : α} {y : MethodName} {bytes : ByteArray} {maxL index nA d : Nat} {ret : Option FieldType} {As : List Value} (X : Cx E p m c cc nL s args own) (hG : GS E σ s.heap H locs) {ci k : Nat} (hL : lay ci k) {C : String} {T : u_T} {N : Nat} (hc : vwCl[ci]? = some (C, T, N)) (hyC : y.cls = C) (hC : ∀ (σ' : St) (r : Nat), o = some (σ', r) → Mr l E y bytes maxL ret d (.ref (E.1 k) :: As) σ σ' r)
    (w1 : Cond.methodLink own index y ∈ lw_tbl) (w2 : Cond.instanceMethod y ∈ lw_tbl) (w3 : Cond.selects C y y ∈ lw_tbl) (w4 : Cond.initialized C ∈ lw_tbl) (hg : GoodIn (lw_tbl.filter goodWord) (wsM y bytes maxL ret)) (hd : y.cls ≠ "java/lang/invoke/MethodHandle" ∧ y.cls ≠ "java/lang/invoke/VarHandle" ∧ (parseMethodDescriptor y.desc).map (fun d => d.parameters.length) = some nA) (hn : As.length = nA) (hR : d + 1 ≤ R.frames ∧ 8 + (maxL + 11) + 40 * d ≤ R.locals) (hls : ls.size = nL) {st : List Value} (hst : st = As.reverse ++ .ref (E.1 k) :: rest) (hW : (rest.map fun v => v.category).sum ≤ 8) (hcs : cells + 0 ≤ R.cells ∧ slots + 0 ≤ R.slots) (hdg : decode cc pc = .ok (.invokevirtual index, 3)) (hM : bcall o K = some z)
    (kk : ∀ (σ1 : St) (r : Nat) (H1 : Heap) (locs1 : List Loc), GS E σ1 s.heap H1 locs1 → o = some (σ1, r) → K σ1 r = some z → W p l e R s m args below meth c H1 locs1 cells slots Q (F0 m (pc + 3) ls (.ref (E.1 r) :: rest))) : W p l e R s m args below meth c H locs cells slots Q (F0 m pc ls st) := by
  obtain ⟨⟨hx, hb, hml, hown, hts⟩, hK, hNW, hXW⟩ := X
  cases ho : o with
  | none => rw [ho] at hM; cases hM
  | some q =>
    rw [ho] at hM
    obtain ⟨σ1, r⟩ := q
    refine va_callr (va_runV ⟨hx, hb, hml, hown, hts⟩ (hC σ1 r ho) (cwV nA hts (fun w hw => (List.mem_append.mp hw).elim (fun h => by rcases List.mem_cons.mp h with rfl | h; exact ⟨gw_in w1 rfl, good_of_word rfl⟩; rcases List.mem_cons.mp h with rfl | h; exact ⟨gw_in w2 rfl, good_of_word rfl⟩; rcases List.mem_cons.mp h with rfl | h; exact ⟨gw_in w3 rfl, good_of_word rfl⟩; rcases List.mem_cons.mp h with rfl | h; exact ⟨gw_in w4 rfl, good_of_word rfl⟩; cases h) (hg w)) rfl rfl rfl ⟨hyC, hd⟩ hR) ⟨GB_blind, GB_recv hK hG hL hc, GB_pre hK hNW hXW hG _⟩ rfl hn hls hst (lv_room hW) hdg hcs) hG.2.2 (fun q _ h => h) (fun q h => h) (fun u ra t H1 locs1 ht hvm hw hB hz1 hk1 hS1 => ?_)
    subst hw
    obtain ⟨rfl, hB⟩ := hB
    exact kk _ r H1 locs1 ⟨by rw [← ht]; exact hB.1, hB.2.2.1, hS1⟩ ho hM
theorem g_callVN_i {α : Type} {o : Option (St × Int32)} {K : St → Int32 → Option α} {z : α} {y : MethodName} {bytes : ByteArray} {maxL index nA d : Nat} {ret : Option FieldType} {host : String} {As : List Value} (X : Cx E p m c cc nL s args own) (hG : GS E σ s.heap H locs) {ci k : Nat} (hL : lay ci k) {C : String} {T : u_T} {N : Nat} (hc : vwCl[ci]? = some (C, T, N)) (hyC : y.cls = C) (hC : ∀ (σ' : St) (r : Int32), o = some (σ', r) → Mi l E y bytes maxL ret d (.ref (E.1 k) :: As) σ σ' r)
    (w1 : Cond.methodLinkNest own index y host ∈ lw_tbl) (w2 : Cond.instanceMethod y ∈ lw_tbl) (w3 : Cond.selects C y y ∈ lw_tbl) (w4 : Cond.initialized C ∈ lw_tbl) (hg : GoodIn (lw_tbl.filter goodWord) (wsM y bytes maxL ret)) (hd : y.cls ≠ "java/lang/invoke/MethodHandle" ∧ y.cls ≠ "java/lang/invoke/VarHandle" ∧ (parseMethodDescriptor y.desc).map (fun d => d.parameters.length) = some nA) (hn : As.length = nA) (hR : d + 1 ≤ R.frames ∧ 8 + (maxL + 11) + 40 * d ≤ R.locals) (hls : ls.size = nL) {st : List Value} (hst : st = As.reverse ++ .ref (E.1 k) :: rest) (hW : (rest.map fun v => v.category).sum ≤ 8) (hcs : cells + 0 ≤ R.cells ∧ slots + 0 ≤ R.slots) (hdg : decode cc pc = .ok (.invokevirtual index, 3)) (hM : bcall o K = some z)
    (kk : ∀ (σ1 : St) (r : Int32) (H1 : Heap) (locs1 : List Loc), GS E σ1 s.heap H1 locs1 → K σ1 r = some z → W p l e R s m args below meth c H1 locs1 cells slots Q (F0 m (pc + 3) ls (.int r :: rest))) : W p l e R s m args below meth c H locs cells slots Q (F0 m pc ls st) := by
  obtain ⟨⟨hx, hb, hml, hown, hts⟩, hK, hNW, hXW⟩ := X
  cases ho : o with
  | none => rw [ho] at hM; cases hM
  | some q =>
    rw [ho] at hM
    obtain ⟨σ1, r⟩ := q
    refine va_calli (va_runVN ⟨hx, hb, hml, hown, hts⟩ (hC σ1 r ho) (⟨va_cnB nA hts hg rfl rfl rfl (hNW _ w1 rfl) (by rw [hyC]; exact hts _ (gw_in w4 rfl)) hd hR, hts _ (gw_in w2 rfl), hts _ (gw_in w3 rfl)⟩) ⟨GB_blind, GB_recv hK hG hL hc, GB_pre hK hNW hXW hG _⟩ rfl hn hls hst (lv_room hW) hdg hcs) hG.2.2 (fun q _ h => h) (fun q h => h) (fun r1 u t H1 locs1 ht hvm hw hB hz1 hk1 hS1 => ?_)
    obtain ⟨rfl, rfl⟩ := hw
    exact kk _ _ H1 locs1 ⟨by rw [← ht]; exact hB.1, hB.2.2.1, hS1⟩ hM
theorem g_callVN_v {α : Type} {o : Option (St × Int32)} {K : St → Int32 → Option α} {z : α} {y : MethodName} {bytes : ByteArray} {maxL index nA d : Nat} {host : String} {As : List Value} (X : Cx E p m c cc nL s args own) (hG : GS E σ s.heap H locs) {ci k : Nat} (hL : lay ci k) {C : String} {T : u_T} {N : Nat} (hc : vwCl[ci]? = some (C, T, N)) (hyC : y.cls = C) (hC : ∀ (σ' : St) (r : Int32), o = some (σ', r) → Mv l E y bytes maxL d (.ref (E.1 k) :: As) σ σ')
    (w1 : Cond.methodLinkNest own index y host ∈ lw_tbl) (w2 : Cond.instanceMethod y ∈ lw_tbl) (w3 : Cond.selects C y y ∈ lw_tbl) (w4 : Cond.initialized C ∈ lw_tbl) (hg : GoodIn (lw_tbl.filter goodWord) (wsM y bytes maxL none)) (hd : y.cls ≠ "java/lang/invoke/MethodHandle" ∧ y.cls ≠ "java/lang/invoke/VarHandle" ∧ (parseMethodDescriptor y.desc).map (fun d => d.parameters.length) = some nA) (hn : As.length = nA) (hR : d + 1 ≤ R.frames ∧ 8 + (maxL + 11) + 40 * d ≤ R.locals) (hls : ls.size = nL) {st : List Value} (hst : st = As.reverse ++ .ref (E.1 k) :: rest) (hW : (rest.map fun v => v.category).sum ≤ 8) (hcs : cells + 0 ≤ R.cells ∧ slots + 0 ≤ R.slots) (hdg : decode cc pc = .ok (.invokevirtual index, 3)) (hM : bcall o K = some z)
    (kk : ∀ (σ1 : St) (r : Int32) (H1 : Heap) (locs1 : List Loc), GS E σ1 s.heap H1 locs1 → K σ1 r = some z → W p l e R s m args below meth c H1 locs1 cells slots Q (F0 m (pc + 3) ls rest)) : W p l e R s m args below meth c H locs cells slots Q (F0 m pc ls st) := by
  obtain ⟨⟨hx, hb, hml, hown, hts⟩, hK, hNW, hXW⟩ := X
  cases ho : o with
  | none => rw [ho] at hM; cases hM
  | some q =>
    rw [ho] at hM
    obtain ⟨σ1, r⟩ := q
    refine va_callv (va_runVN ⟨hx, hb, hml, hown, hts⟩ (hC σ1 r ho) (⟨va_cnB nA hts hg rfl rfl rfl (hNW _ w1 rfl) (by rw [hyC]; exact hts _ (gw_in w4 rfl)) hd hR, hts _ (gw_in w2 rfl), hts _ (gw_in w3 rfl)⟩) ⟨GB_blind, GB_recv hK hG hL hc, GB_pre hK hNW hXW hG _⟩ rfl hn hls hst (lv_room hW) hdg hcs) hG.2.2 (fun q _ h => h) (fun q h => h) (fun u t H1 locs1 ht hvm hw hB hz1 hk1 hS1 => ?_)
    subst hw
    exact kk _ r H1 locs1 ⟨by rw [← ht]; exact hB.1, hB.2.2.1, hS1⟩ hM
theorem g_callVN_r {α : Type} {o : Option (St × Nat)} {K : St → Nat → Option α} {z : α} {y : MethodName} {bytes : ByteArray} {maxL index nA d : Nat} {ret : Option FieldType} {host : String} {As : List Value} (X : Cx E p m c cc nL s args own) (hG : GS E σ s.heap H locs) {ci k : Nat} (hL : lay ci k) {C : String} {T : u_T} {N : Nat} (hc : vwCl[ci]? = some (C, T, N)) (hyC : y.cls = C) (hC : ∀ (σ' : St) (r : Nat), o = some (σ', r) → Mr l E y bytes maxL ret d (.ref (E.1 k) :: As) σ σ' r)
    (w1 : Cond.methodLinkNest own index y host ∈ lw_tbl) (w2 : Cond.instanceMethod y ∈ lw_tbl) (w3 : Cond.selects C y y ∈ lw_tbl) (w4 : Cond.initialized C ∈ lw_tbl) (hg : GoodIn (lw_tbl.filter goodWord) (wsM y bytes maxL ret)) (hd : y.cls ≠ "java/lang/invoke/MethodHandle" ∧ y.cls ≠ "java/lang/invoke/VarHandle" ∧ (parseMethodDescriptor y.desc).map (fun d => d.parameters.length) = some nA) (hn : As.length = nA) (hR : d + 1 ≤ R.frames ∧ 8 + (maxL + 11) + 40 * d ≤ R.locals) (hls : ls.size = nL) {st : List Value} (hst : st = As.reverse ++ .ref (E.1 k) :: rest) (hW : (rest.map fun v => v.category).sum ≤ 8) (hcs : cells + 0 ≤ R.cells ∧ slots + 0 ≤ R.slots) (hdg : decode cc pc = .ok (.invokevirtual index, 3)) (hM : bcall o K = some z)
    (kk : ∀ (σ1 : St) (r : Nat) (H1 : Heap) (locs1 : List Loc), GS E σ1 s.heap H1 locs1 → o = some (σ1, r) → K σ1 r = some z → W p l e R s m args below meth c H1 locs1 cells slots Q (F0 m (pc + 3) ls (.ref (E.1 r) :: rest))) : W p l e R s m args below meth c H locs cells slots Q (F0 m pc ls st) := by
  obtain ⟨⟨hx, hb, hml, hown, hts⟩, hK, hNW, hXW⟩ := X
  cases ho : o with
  | none => rw [ho] at hM; cases hM
  | some q =>
    rw [ho] at hM
    obtain ⟨σ1, r⟩ := q
    refine va_callr (va_runVN ⟨hx, hb, hml, hown, hts⟩ (hC σ1 r ho) (⟨va_cnB nA hts hg rfl rfl rfl (hNW _ w1 rfl) (by rw [hyC]; exact hts _ (gw_in w4 rfl)) hd hR, hts _ (gw_in w2 rfl), hts _ (gw_in w3 rfl)⟩) ⟨GB_blind, GB_recv hK hG hL hc, GB_pre hK hNW hXW hG _⟩ rfl hn hls hst (lv_room hW) hdg hcs) hG.2.2 (fun q _ h => h) (fun q h => h) (fun u ra t H1 locs1 ht hvm hw hB hz1 hk1 hS1 => ?_)
    subst hw
    obtain ⟨rfl, hB⟩ := hB
    exact kk _ r H1 locs1 ⟨by rw [← ht]; exact hB.1, hB.2.2.1, hS1⟩ ho hM
theorem g_callS_i {α : Type} {o : Option (St × Int32)} {K : St → Int32 → Option α} {z : α} {y : MethodName} {bytes : ByteArray} {maxL index nA d : Nat} {ret : Option FieldType} {As : List Value} (X : Cx E p m c cc nL s args own) (hG : GS E σ s.heap H locs) (hC : ∀ (σ' : St) (r : Int32), o = some (σ', r) → Mi l E y bytes maxL ret d As σ σ' r)
    (w1 : Cond.methodLink own index y ∈ lw_tbl) (w2 : Cond.static y ∈ lw_tbl) (w4 : Cond.initialized y.cls ∈ lw_tbl) (hg : GoodIn (lw_tbl.filter goodWord) (wsM y bytes maxL ret)) (hd : y.cls ≠ "java/lang/invoke/MethodHandle" ∧ y.cls ≠ "java/lang/invoke/VarHandle" ∧ (parseMethodDescriptor y.desc).map (fun d => d.parameters.length) = some nA) (hn : As.length = nA) (hR : d + 1 ≤ R.frames ∧ 8 + (maxL + 11) + 40 * d ≤ R.locals) (hls : ls.size = nL) {st : List Value} (hst : st = As.reverse ++ rest) (hW : (rest.map fun v => v.category).sum ≤ 8) (hcs : cells + 0 ≤ R.cells ∧ slots + 0 ≤ R.slots) (hdg : decode cc pc = .ok (.invokestatic index, 3)) (hM : bcall o K = some z)
    (kk : ∀ (σ1 : St) (r : Int32) (H1 : Heap) (locs1 : List Loc), GS E σ1 s.heap H1 locs1 → K σ1 r = some z → W p l e R s m args below meth c H1 locs1 cells slots Q (F0 m (pc + 3) ls (.int r :: rest))) : W p l e R s m args below meth c H locs cells slots Q (F0 m pc ls st) := by
  obtain ⟨⟨hx, hb, hml, hown, hts⟩, hK, hNW, hXW⟩ := X
  cases ho : o with
  | none => rw [ho] at hM; cases hM
  | some q =>
    rw [ho] at hM
    obtain ⟨σ1, r⟩ := q
    refine va_calli (va_runS ⟨hx, hb, hml, hown, hts⟩ (hC σ1 r ho) (⟨callB_of nA hts hg rfl rfl rfl (hts _ (gw_in w4 rfl)) (hts _ (gw_in w1 rfl)) hd hR, hts _ (gw_in w2 rfl)⟩) ⟨GB_blind, GB_pre hK hNW hXW hG _⟩ rfl hn hls hst (lv_room hW) hdg hcs) hG.2.2 (fun q _ h => h) (fun q h => h) (fun r1 u t H1 locs1 ht hvm hw hB hz1 hk1 hS1 => ?_)
    obtain ⟨rfl, rfl⟩ := hw
    exact kk _ _ H1 locs1 ⟨by rw [← ht]; exact hB.1, hB.2.2.1, hS1⟩ hM
theorem g_callS_v {α : Type} {o : Option (St × Int32)} {K : St → Int32 → Option α} {z : α} {y : MethodName} {bytes : ByteArray} {maxL index nA d : Nat} {As : List Value} (X : Cx E p m c cc nL s args own) (hG : GS E σ s.heap H locs) (hC : ∀ (σ' : St) (r : Int32), o = some (σ', r) → Mv l E y bytes maxL d As σ σ')
    (w1 : Cond.methodLink own index y ∈ lw_tbl) (w2 : Cond.static y ∈ lw_tbl) (w4 : Cond.initialized y.cls ∈ lw_tbl) (hg : GoodIn (lw_tbl.filter goodWord) (wsM y bytes maxL none)) (hd : y.cls ≠ "java/lang/invoke/MethodHandle" ∧ y.cls ≠ "java/lang/invoke/VarHandle" ∧ (parseMethodDescriptor y.desc).map (fun d => d.parameters.length) = some nA) (hn : As.length = nA) (hR : d + 1 ≤ R.frames ∧ 8 + (maxL + 11) + 40 * d ≤ R.locals) (hls : ls.size = nL) {st : List Value} (hst : st = As.reverse ++ rest) (hW : (rest.map fun v => v.category).sum ≤ 8) (hcs : cells + 0 ≤ R.cells ∧ slots + 0 ≤ R.slots) (hdg : decode cc pc = .ok (.invokestatic index, 3)) (hM : bcall o K = some z)
    (kk : ∀ (σ1 : St) (r : Int32) (H1 : Heap) (locs1 : List Loc), GS E σ1 s.heap H1 locs1 → K σ1 r = some z → W p l e R s m args below meth c H1 locs1 cells slots Q (F0 m (pc + 3) ls rest)) : W p l e R s m args below meth c H locs cells slots Q (F0 m pc ls st) := by
  obtain ⟨⟨hx, hb, hml, hown, hts⟩, hK, hNW, hXW⟩ := X
  cases ho : o with
  | none => rw [ho] at hM; cases hM
  | some q =>
    rw [ho] at hM
    obtain ⟨σ1, r⟩ := q
    refine va_callv (va_runS ⟨hx, hb, hml, hown, hts⟩ (hC σ1 r ho) (⟨callB_of nA hts hg rfl rfl rfl (hts _ (gw_in w4 rfl)) (hts _ (gw_in w1 rfl)) hd hR, hts _ (gw_in w2 rfl)⟩) ⟨GB_blind, GB_pre hK hNW hXW hG _⟩ rfl hn hls hst (lv_room hW) hdg hcs) hG.2.2 (fun q _ h => h) (fun q h => h) (fun u t H1 locs1 ht hvm hw hB hz1 hk1 hS1 => ?_)
    subst hw
    exact kk _ r H1 locs1 ⟨by rw [← ht]; exact hB.1, hB.2.2.1, hS1⟩ hM
theorem g_callS_s {α : Type} {o : Option (St × Nat)} {K : St → Nat → Option α} {z : α} {y : MethodName} {bytes : ByteArray} {maxL index nA d : Nat} {ret : Option FieldType} {As : List Value} (X : Cx E p m c cc nL s args own) (hG : GS E σ s.heap H locs) (hC : ∀ (σ' : St) (r : Nat), o = some (σ', r) → Ms l E y bytes maxL ret d As σ σ' r)
    (w1 : Cond.methodLink own index y ∈ lw_tbl) (w2 : Cond.static y ∈ lw_tbl) (w4 : Cond.initialized y.cls ∈ lw_tbl) (hg : GoodIn (lw_tbl.filter goodWord) (wsM y bytes maxL ret)) (hd : y.cls ≠ "java/lang/invoke/MethodHandle" ∧ y.cls ≠ "java/lang/invoke/VarHandle" ∧ (parseMethodDescriptor y.desc).map (fun d => d.parameters.length) = some nA) (hn : As.length = nA) (hR : d + 1 ≤ R.frames ∧ 8 + (maxL + 11) + 40 * d ≤ R.locals) (hls : ls.size = nL) {st : List Value} (hst : st = As.reverse ++ rest) (hW : (rest.map fun v => v.category).sum ≤ 8) (hcs : cells + 0 ≤ R.cells ∧ slots + 0 ≤ R.slots) (hdg : decode cc pc = .ok (.invokestatic index, 3)) (hM : bcall o K = some z)
    (kk : ∀ (σ1 : St) (r : Nat) (H1 : Heap) (locs1 : List Loc), GS E σ1 s.heap H1 locs1 → o = some (σ1, r) → K σ1 r = some z → W p l e R s m args below meth c H1 locs1 cells slots Q (F0 m (pc + 3) ls (.ref (eK E r) :: rest))) : W p l e R s m args below meth c H locs cells slots Q (F0 m pc ls st) := by
  obtain ⟨⟨hx, hb, hml, hown, hts⟩, hK, hNW, hXW⟩ := X
  cases ho : o with
  | none => rw [ho] at hM; cases hM
  | some q =>
    rw [ho] at hM
    obtain ⟨σ1, r⟩ := q
    refine va_callr (va_runS ⟨hx, hb, hml, hown, hts⟩ (hC σ1 r ho) (⟨callB_of nA hts hg rfl rfl rfl (hts _ (gw_in w4 rfl)) (hts _ (gw_in w1 rfl)) hd hR, hts _ (gw_in w2 rfl)⟩) ⟨GB_blind, GB_pre hK hNW hXW hG _⟩ rfl hn hls hst (lv_room hW) hdg hcs) hG.2.2 (fun q _ h => h) (fun q h => h) (fun u ra t H1 locs1 ht hvm hw hB hz1 hk1 hS1 => ?_)
    subst hw
    obtain ⟨rfl, hB⟩ := hB
    exact kk _ r H1 locs1 ⟨by rw [← ht]; exact hB.1, hB.2.2.1, hS1⟩ ho hM
theorem g_callSN_i {α : Type} {o : Option (St × Int32)} {K : St → Int32 → Option α} {z : α} {y : MethodName} {bytes : ByteArray} {maxL index nA d : Nat} {ret : Option FieldType} {host : String} {As : List Value} (X : Cx E p m c cc nL s args own) (hG : GS E σ s.heap H locs) (hC : ∀ (σ' : St) (r : Int32), o = some (σ', r) → Mi l E y bytes maxL ret d As σ σ' r)
    (w1 : Cond.methodLinkNest own index y host ∈ lw_tbl) (w2 : Cond.static y ∈ lw_tbl) (w4 : Cond.initialized y.cls ∈ lw_tbl) (hg : GoodIn (lw_tbl.filter goodWord) (wsM y bytes maxL ret)) (hd : y.cls ≠ "java/lang/invoke/MethodHandle" ∧ y.cls ≠ "java/lang/invoke/VarHandle" ∧ (parseMethodDescriptor y.desc).map (fun d => d.parameters.length) = some nA) (hn : As.length = nA) (hR : d + 1 ≤ R.frames ∧ 8 + (maxL + 11) + 40 * d ≤ R.locals) (hls : ls.size = nL) {st : List Value} (hst : st = As.reverse ++ rest) (hW : (rest.map fun v => v.category).sum ≤ 8) (hcs : cells + 0 ≤ R.cells ∧ slots + 0 ≤ R.slots) (hdg : decode cc pc = .ok (.invokestatic index, 3)) (hM : bcall o K = some z)
    (kk : ∀ (σ1 : St) (r : Int32) (H1 : Heap) (locs1 : List Loc), GS E σ1 s.heap H1 locs1 → K σ1 r = some z → W p l e R s m args below meth c H1 locs1 cells slots Q (F0 m (pc + 3) ls (.int r :: rest))) : W p l e R s m args below meth c H locs cells slots Q (F0 m pc ls st) := by
  obtain ⟨⟨hx, hb, hml, hown, hts⟩, hK, hNW, hXW⟩ := X
  cases ho : o with
  | none => rw [ho] at hM; cases hM
  | some q =>
    rw [ho] at hM
    obtain ⟨σ1, r⟩ := q
    refine va_calli (va_runSN ⟨hx, hb, hml, hown, hts⟩ (hC σ1 r ho) (⟨va_cnB nA hts hg rfl rfl rfl (hNW _ w1 rfl) (hts _ (gw_in w4 rfl)) hd hR, hts _ (gw_in w2 rfl), trivial⟩) ⟨GB_blind, GB_pre hK hNW hXW hG _⟩ rfl hn hls hst (lv_room hW) hdg hcs) hG.2.2 (fun q _ h => h) (fun q h => h) (fun r1 u t H1 locs1 ht hvm hw hB hz1 hk1 hS1 => ?_)
    obtain ⟨rfl, rfl⟩ := hw
    exact kk _ _ H1 locs1 ⟨by rw [← ht]; exact hB.1, hB.2.2.1, hS1⟩ hM
theorem g_callSN_v {α : Type} {o : Option (St × Int32)} {K : St → Int32 → Option α} {z : α} {y : MethodName} {bytes : ByteArray} {maxL index nA d : Nat} {host : String} {As : List Value} (X : Cx E p m c cc nL s args own) (hG : GS E σ s.heap H locs) (hC : ∀ (σ' : St) (r : Int32), o = some (σ', r) → Mv l E y bytes maxL d As σ σ')
    (w1 : Cond.methodLinkNest own index y host ∈ lw_tbl) (w2 : Cond.static y ∈ lw_tbl) (w4 : Cond.initialized y.cls ∈ lw_tbl) (hg : GoodIn (lw_tbl.filter goodWord) (wsM y bytes maxL none)) (hd : y.cls ≠ "java/lang/invoke/MethodHandle" ∧ y.cls ≠ "java/lang/invoke/VarHandle" ∧ (parseMethodDescriptor y.desc).map (fun d => d.parameters.length) = some nA) (hn : As.length = nA) (hR : d + 1 ≤ R.frames ∧ 8 + (maxL + 11) + 40 * d ≤ R.locals) (hls : ls.size = nL) {st : List Value} (hst : st = As.reverse ++ rest) (hW : (rest.map fun v => v.category).sum ≤ 8) (hcs : cells + 0 ≤ R.cells ∧ slots + 0 ≤ R.slots) (hdg : decode cc pc = .ok (.invokestatic index, 3)) (hM : bcall o K = some z)
    (kk : ∀ (σ1 : St) (r : Int32) (H1 : Heap) (locs1 : List Loc), GS E σ1 s.heap H1 locs1 → K σ1 r = some z → W p l e R s m args below meth c H1 locs1 cells slots Q (F0 m (pc + 3) ls rest)) : W p l e R s m args below meth c H locs cells slots Q (F0 m pc ls st) := by
  obtain ⟨⟨hx, hb, hml, hown, hts⟩, hK, hNW, hXW⟩ := X
  cases ho : o with
  | none => rw [ho] at hM; cases hM
  | some q =>
    rw [ho] at hM
    obtain ⟨σ1, r⟩ := q
    refine va_callv (va_runSN ⟨hx, hb, hml, hown, hts⟩ (hC σ1 r ho) (⟨va_cnB nA hts hg rfl rfl rfl (hNW _ w1 rfl) (hts _ (gw_in w4 rfl)) hd hR, hts _ (gw_in w2 rfl), trivial⟩) ⟨GB_blind, GB_pre hK hNW hXW hG _⟩ rfl hn hls hst (lv_room hW) hdg hcs) hG.2.2 (fun q _ h => h) (fun q h => h) (fun u t H1 locs1 ht hvm hw hB hz1 hk1 hS1 => ?_)
    subst hw
    exact kk _ r H1 locs1 ⟨by rw [← ht]; exact hB.1, hB.2.2.1, hS1⟩ hM
theorem g_callT_i {α : Type} {o : Option (St × Int32)} {K : St → Int32 → Option α} {z : α} {y : MethodName} {bytes : ByteArray} {maxL index nA d : Nat} {ret : Option FieldType} {As : List Value} (X : Cx E p m c cc nL s args own) (hG : GS E σ s.heap H locs) {k : Nat} (hi : okS E k) (hyC : y.cls = "java/lang/String") (hC : ∀ (σ' : St) (r : Int32), o = some (σ', r) → Mi l E y bytes maxL ret d (.ref (eK E k) :: As) σ σ' r)
    (w1 : Cond.methodLink own index y ∈ lw_tbl) (w2 : Cond.instanceMethod y ∈ lw_tbl) (w3 : Cond.selects "java/lang/String" y y ∈ lw_tbl) (w4 : Cond.initialized "java/lang/String" ∈ lw_tbl) (hg : GoodIn (lw_tbl.filter goodWord) (wsM y bytes maxL ret)) (hd : y.cls ≠ "java/lang/invoke/MethodHandle" ∧ y.cls ≠ "java/lang/invoke/VarHandle" ∧ (parseMethodDescriptor y.desc).map (fun d => d.parameters.length) = some nA) (hn : As.length = nA) (hR : d + 1 ≤ R.frames ∧ 8 + (maxL + 11) + 40 * d ≤ R.locals) (hls : ls.size = nL) {st : List Value} (hst : st = As.reverse ++ .ref (eK E k) :: rest) (hW : (rest.map fun v => v.category).sum ≤ 8) (hcs : cells + 0 ≤ R.cells ∧ slots + 0 ≤ R.slots) (hdg : decode cc pc = .ok (.invokevirtual index, 3)) (hM : bcall o K = some z)
    (kk : ∀ (σ1 : St) (r : Int32) (H1 : Heap) (locs1 : List Loc), GS E σ1 s.heap H1 locs1 → K σ1 r = some z → W p l e R s m args below meth c H1 locs1 cells slots Q (F0 m (pc + 3) ls (.int r :: rest))) : W p l e R s m args below meth c H locs cells slots Q (F0 m pc ls st) := by
  obtain ⟨⟨hx, hb, hml, hown, hts⟩, hK, hNW, hXW⟩ := X
  cases ho : o with
  | none => rw [ho] at hM; cases hM
  | some q =>
    rw [ho] at hM
    obtain ⟨σ1, r⟩ := q
    refine va_calli (va_runV ⟨hx, hb, hml, hown, hts⟩ (hC σ1 r ho) (cwV nA hts (fun w hw => (List.mem_append.mp hw).elim (fun h => by rcases List.mem_cons.mp h with rfl | h; exact ⟨gw_in w1 rfl, good_of_word rfl⟩; rcases List.mem_cons.mp h with rfl | h; exact ⟨gw_in w2 rfl, good_of_word rfl⟩; rcases List.mem_cons.mp h with rfl | h; exact ⟨gw_in w3 rfl, good_of_word rfl⟩; rcases List.mem_cons.mp h with rfl | h; exact ⟨gw_in w4 rfl, good_of_word rfl⟩; cases h) (hg w)) rfl rfl rfl ⟨hyC, hd⟩ hR) ⟨GB_blind, vk_recv hXW.2.2.1 (okS_at hi).1 hG.2.2, GB_pre hK hNW hXW hG _⟩ rfl hn hls hst (lv_room hW) hdg hcs) hG.2.2 (fun q _ h => h) (fun q h => h) (fun r1 u t H1 locs1 ht hvm hw hB hz1 hk1 hS1 => ?_)
    obtain ⟨rfl, rfl⟩ := hw
    exact kk _ _ H1 locs1 ⟨by rw [← ht]; exact hB.1, hB.2.2.1, hS1⟩ hM
theorem g_callT_v {α : Type} {o : Option (St × Int32)} {K : St → Int32 → Option α} {z : α} {y : MethodName} {bytes : ByteArray} {maxL index nA d : Nat} {As : List Value} (X : Cx E p m c cc nL s args own) (hG : GS E σ s.heap H locs) {k : Nat} (hi : okS E k) (hyC : y.cls = "java/lang/String") (hC : ∀ (σ' : St) (r : Int32), o = some (σ', r) → Mv l E y bytes maxL d (.ref (eK E k) :: As) σ σ')
    (w1 : Cond.methodLink own index y ∈ lw_tbl) (w2 : Cond.instanceMethod y ∈ lw_tbl) (w3 : Cond.selects "java/lang/String" y y ∈ lw_tbl) (w4 : Cond.initialized "java/lang/String" ∈ lw_tbl) (hg : GoodIn (lw_tbl.filter goodWord) (wsM y bytes maxL none)) (hd : y.cls ≠ "java/lang/invoke/MethodHandle" ∧ y.cls ≠ "java/lang/invoke/VarHandle" ∧ (parseMethodDescriptor y.desc).map (fun d => d.parameters.length) = some nA) (hn : As.length = nA) (hR : d + 1 ≤ R.frames ∧ 8 + (maxL + 11) + 40 * d ≤ R.locals) (hls : ls.size = nL) {st : List Value} (hst : st = As.reverse ++ .ref (eK E k) :: rest) (hW : (rest.map fun v => v.category).sum ≤ 8) (hcs : cells + 0 ≤ R.cells ∧ slots + 0 ≤ R.slots) (hdg : decode cc pc = .ok (.invokevirtual index, 3)) (hM : bcall o K = some z)
    (kk : ∀ (σ1 : St) (r : Int32) (H1 : Heap) (locs1 : List Loc), GS E σ1 s.heap H1 locs1 → K σ1 r = some z → W p l e R s m args below meth c H1 locs1 cells slots Q (F0 m (pc + 3) ls rest)) : W p l e R s m args below meth c H locs cells slots Q (F0 m pc ls st) := by
  obtain ⟨⟨hx, hb, hml, hown, hts⟩, hK, hNW, hXW⟩ := X
  cases ho : o with
  | none => rw [ho] at hM; cases hM
  | some q =>
    rw [ho] at hM
    obtain ⟨σ1, r⟩ := q
    refine va_callv (va_runV ⟨hx, hb, hml, hown, hts⟩ (hC σ1 r ho) (cwV nA hts (fun w hw => (List.mem_append.mp hw).elim (fun h => by rcases List.mem_cons.mp h with rfl | h; exact ⟨gw_in w1 rfl, good_of_word rfl⟩; rcases List.mem_cons.mp h with rfl | h; exact ⟨gw_in w2 rfl, good_of_word rfl⟩; rcases List.mem_cons.mp h with rfl | h; exact ⟨gw_in w3 rfl, good_of_word rfl⟩; rcases List.mem_cons.mp h with rfl | h; exact ⟨gw_in w4 rfl, good_of_word rfl⟩; cases h) (hg w)) rfl rfl rfl ⟨hyC, hd⟩ hR) ⟨GB_blind, vk_recv hXW.2.2.1 (okS_at hi).1 hG.2.2, GB_pre hK hNW hXW hG _⟩ rfl hn hls hst (lv_room hW) hdg hcs) hG.2.2 (fun q _ h => h) (fun q h => h) (fun u t H1 locs1 ht hvm hw hB hz1 hk1 hS1 => ?_)
    subst hw
    exact kk _ r H1 locs1 ⟨by rw [← ht]; exact hB.1, hB.2.2.1, hS1⟩ hM
def QI (E : Ev) (z : St × Int32) (below : List Frame) (args : Array Value) (s : State) : State → Prop := MQ below (va_Qi (fun (r' : Int32) (u : St) => r' = z.2 ∧ u = z.1) (GB E) (AE E)) args s 0 0 (AE E)
def QV (E : Ev) (z : St × Int32) (below : List Frame) (args : Array Value) (s : State) : State → Prop := MQ below (va_Qv (fun (u : St) => u = z.1) (GB E) (AE E)) args s 0 0 (AE E)
def QR (E : Ev) (z : St × Nat) (below : List Frame) (args : Array Value) (s : State) : State → Prop := MQ below (va_Qr (fun (u : St) => u = z.1) (fun u ra t => ra = E.1 z.2 ∧ GB E u t) (AE E)) args s 0 0 (AE E)
def QS (E : Ev) (z : St × Nat) (below : List Frame) (args : Array Value) (s : State) : State → Prop := MQ below (va_Qr (fun (u : St) => u = z.1) (fun u ra t => ra = eK E z.2 ∧ GB E u t) (AE E)) args s 0 0 (AE E)
/-- what is known in a walk of a method: the machine, its words, its return type -/
def Bx (E : Ev) (p : Program) (m : MethodId) (meth : Method) (c : Code) (cc : ByteArray) (nL : Nat) (ret : Option FieldType) (s : State) (args : Array Value) (own : String) : Prop := Cx E p m c cc nL s args own ∧ meth.sig.returnType = ret ∧ meth.locks = false
theorem NW.draw {s : State} (h : NW s) (d : Drawn) : NW (s.setDrawn d) := fun w hw hn => (Cond.before_setDrawn #[] s d w).trans (h w hw hn)
def QF (E : Ev) (z : St × UInt32) (below : List Frame) (args : Array Value) (s : State) : State → Prop := MQD lw_cs below (va_Qf (fun (r' : UInt32) (u : St) => alike32 r' z.2 = true ∧ u = z.1) (GB E) (AE E)) args s 0 0 (AE E)
theorem e_fret (X : Bx E p m meth c cc nL (some .float) s args own) (hG : GS E σ s.heap H locs) {x : UInt32} {z : St × UInt32} (hdg : decode cc pc = .ok (.freturn, 1)) (hM : some (σ, x) = some z) : W p l e R s m args below meth c H locs 0 0 (QF E z below args s) (F0 m pc ls [.float x]) := by
  obtain ⟨⟨⟨hx, hb, hml, hown, hts⟩, hK, hNW, hXW⟩, hr, hlk⟩ := X
  cases hM
  refine W.base ?_
  refine W.endD (Drawn.sameBut.refl s.drawn lw_cs) ?_
  exact W.fret (v := x) hx hb hr (fun t ht hW => ⟨⟨x, σ, rfl, ⟨alike32_refl x, rfl⟩, by rw [ht]; exact hG.1, va_K.moved hW.alike hK, hG.2.1, NW.warm hW (NW.draw hNW _), XW.warm hW (by rw [ht]; exact hXW.kept hG.2.2.2.1)⟩, hG.2.2.F ht⟩) hG.2.2.2.2 hdg hlk
theorem e_fdiv (X : Bx E p m meth c cc nL (some .float) s args own) (hG : GS E σ s.heap H locs) {x y : UInt32} {z : St × UInt32} (hdg : decode cc pc = .ok (.fdiv, 1)) (hdg2 : decode cc (pc + 1) = .ok (.freturn, 1)) (hM : some (σ, FP.fdiv x y) = some z) : W p l e R s m args below meth c H locs 0 0 (QF E z below args s) (F0 m pc ls [.float y, .float x]) := by
  obtain ⟨⟨⟨hx, hb, hml, hown, hts⟩, hK, hNW, hXW⟩, hr, hlk⟩ := X
  cases hM
  refine W.base ?_
  refine lv_fdiv_any (Drawn.sameBut.refl s.drawn lw_cs) lw_bits hx hb hdg (fun r d1 hal hd1 => ?_)
  refine W.endD hd1 ?_
  exact W.fret (v := r) hx hb hr (fun t ht hW => ⟨⟨r, σ, rfl, ⟨hal, rfl⟩, by rw [ht]; exact hG.1, va_K.moved hW.alike hK, hG.2.1, NW.warm hW (NW.draw hNW _), XW.warm hW (by rw [ht]; exact hXW.kept hG.2.2.2.1)⟩, hG.2.2.F ht⟩) hG.2.2.2.2 hdg2 hlk
def QD (E : Ev) (z : St × UInt64) (below : List Frame) (args : Array Value) (s : State) : State → Prop := MQD lw_cs below (va_Qd (fun (r' : UInt64) (u : St) => alike64 r' z.2 = true ∧ u = z.1) (GB E) (AE E)) args s 0 0 (AE E)
theorem e_dret (X : Bx E p m meth c cc nL (some .double) s args own) (hG : GS E σ s.heap H locs) {x : UInt64} {z : St × UInt64} (hdg : decode cc pc = .ok (.dreturn, 1)) (hM : some (σ, x) = some z) : W p l e R s m args below meth c H locs 0 0 (QD E z below args s) (F0 m pc ls [.double x]) := by
  obtain ⟨⟨⟨hx, hb, hml, hown, hts⟩, hK, hNW, hXW⟩, hr, hlk⟩ := X
  cases hM
  refine W.base ?_
  refine W.endD (Drawn.sameBut.refl s.drawn lw_cs) ?_
  exact W.dret (v := x) hx hb hr (fun t ht hW => ⟨⟨x, σ, rfl, ⟨alike64_refl x, rfl⟩, by rw [ht]; exact hG.1, va_K.moved hW.alike hK, hG.2.1, NW.warm hW (NW.draw hNW _), XW.warm hW (by rw [ht]; exact hXW.kept hG.2.2.2.1)⟩, hG.2.2.F ht⟩) hG.2.2.2.2 hdg hlk
theorem e_ddiv (X : Bx E p m meth c cc nL (some .double) s args own) (hG : GS E σ s.heap H locs) {x y : UInt64} {z : St × UInt64} (hdg : decode cc pc = .ok (.ddiv, 1)) (hdg2 : decode cc (pc + 1) = .ok (.dreturn, 1)) (hM : some (σ, FP.ddiv x y) = some z) : W p l e R s m args below meth c H locs 0 0 (QD E z below args s) (F0 m pc ls [.double y, .double x]) := by
  obtain ⟨⟨⟨hx, hb, hml, hown, hts⟩, hK, hNW, hXW⟩, hr, hlk⟩ := X
  cases hM
  refine W.base ?_
  refine lv_ddiv_any (Drawn.sameBut.refl s.drawn lw_cs) lw_bits hx hb hdg (fun r d1 hal hd1 => ?_)
  refine W.endD hd1 ?_
  exact W.dret (v := r) hx hb hr (fun t ht hW => ⟨⟨r, σ, rfl, ⟨hal, rfl⟩, by rw [ht]; exact hG.1, va_K.moved hW.alike hK, hG.2.1, NW.warm hW (NW.draw hNW _), XW.warm hW (by rw [ht]; exact hXW.kept hG.2.2.2.1)⟩, hG.2.2.F ht⟩) hG.2.2.2.2 hdg2 hlk
theorem e_iret (X : Bx E p m meth c cc nL (some .int) s args own) (hG : GS E σ s.heap H locs) {x : Int32} {z : St × Int32} (hdg : decode cc pc = .ok (.ireturn, 1)) (hM : some (σ, x) = some z) : W p l e R s m args below meth c H locs 0 0 (QI E z below args s) (F0 m pc ls [.int x]) := by
  obtain ⟨⟨⟨hx, hb, hml, hown, hts⟩, hK, hNW, hXW⟩, hr, hlk⟩ := X
  cases hM
  exact W.iret (v := x) hx hb hr (fun t ht hW => ⟨⟨x, σ, rfl, ⟨rfl, rfl⟩, by rw [ht]; exact hG.1, va_K.moved hW.alike hK, hG.2.1, NW.warm hW hNW, XW.warm hW (by rw [ht]; exact hXW.kept hG.2.2.2.1)⟩, hG.2.2.F ht⟩) hG.2.2.2.2 hdg hlk
theorem e_zret {ty : FieldType} (X : Bx E p m meth c cc nL (some ty) s args own) (hG : GS E σ s.heap H locs) {x : Int32} {z : St × Int32} (hn : narrow ty (.int x) = .int x) (hdg : decode cc pc = .ok (.ireturn, 1)) (hM : some (σ, x) = some z) : W p l e R s m args below meth c H locs 0 0 (QI E z below args s) (F0 m pc ls [.int x]) := by
  obtain ⟨⟨⟨hx, hb, hml, hown, hts⟩, hK, hNW, hXW⟩, hr, hlk⟩ := X
  cases hM
  exact W.zret (v := x) hx hb hr hn (fun t ht hW => ⟨⟨x, σ, rfl, ⟨rfl, rfl⟩, by rw [ht]; exact hG.1, va_K.moved hW.alike hK, hG.2.1, NW.warm hW hNW, XW.warm hW (by rw [ht]; exact hXW.kept hG.2.2.2.1)⟩, hG.2.2.F ht⟩) hG.2.2.2.2 hdg hlk
theorem e_vret (X : Bx E p m meth c cc nL none s args own) (hG : GS E σ s.heap H locs) {x : Int32} {z : St × Int32} (hdg : decode cc pc = .ok (.return_, 1)) (hM : some (σ, x) = some z) : W p l e R s m args below meth c H locs 0 0 (QV E z below args s) (F0 m pc ls []) := by
  obtain ⟨⟨⟨hx, hb, hml, hown, hts⟩, hK, hNW, hXW⟩, hr, hlk⟩ := X
  cases hM
  exact W.vret hx hb hr (fun t ht hW => ⟨⟨σ, rfl, rfl, by rw [ht]; exact hG.1, va_K.moved hW.alike hK, hG.2.1, NW.warm hW hNW, XW.warm hW (by rw [ht]; exact hXW.kept hG.2.2.2.1)⟩, hG.2.2.F ht⟩) hG.2.2.2.2 hdg hlk
theorem e_aret {n : String} (X : Bx E p m meth c cc nL (some (.object n)) s args own) (hG : GS E σ s.heap H locs) {x : Nat} {z : St × Nat} (hdg : decode cc pc = .ok (.areturn, 1)) (hM : some (σ, x) = some z) : W p l e R s m args below meth c H locs 0 0 (QR E z below args s) (F0 m pc ls [.ref (E.1 x)]) := by
  obtain ⟨⟨⟨hx, hb, hml, hown, hts⟩, hK, hNW, hXW⟩, hr, hlk⟩ := X
  cases hM
  exact W.aret (v := .ref (E.1 x)) hx hb hr (Or.inl ⟨n, rfl⟩) (Or.inr ⟨_, rfl⟩) (fun t ht hW => ⟨⟨σ, E.1 x, rfl, rfl, ⟨rfl, by rw [ht]; exact hG.1, va_K.moved hW.alike hK, hG.2.1, NW.warm hW hNW, XW.warm hW (by rw [ht]; exact hXW.kept hG.2.2.2.1)⟩⟩, hG.2.2.F ht⟩) hG.2.2.2.2 hdg hlk
theorem e_sret {n : String} (X : Bx E p m meth c cc nL (some (.object n)) s args own) (hG : GS E σ s.heap H locs) {x : Nat} {z : St × Nat} (hdg : decode cc pc = .ok (.areturn, 1)) (hM : some (σ, x) = some z) : W p l e R s m args below meth c H locs 0 0 (QS E z below args s) (F0 m pc ls [.ref (eK E x)]) := by
  obtain ⟨⟨⟨hx, hb, hml, hown, hts⟩, hK, hNW, hXW⟩, hr, hlk⟩ := X
  cases hM
  exact W.aret (v := .ref (eK E x)) hx hb hr (Or.inl ⟨n, rfl⟩) (Or.inr ⟨_, rfl⟩) (fun t ht hW => ⟨⟨σ, eK E x, rfl, rfl, ⟨rfl, by rw [ht]; exact hG.1, va_K.moved hW.alike hK, hG.2.1, NW.warm hW hNW, XW.warm hW (by rw [ht]; exact hXW.kept hG.2.2.2.1)⟩⟩, hG.2.2.F ht⟩) hG.2.2.2.2 hdg hlk
end GR
section GM
variable {l : Launch} {E : Ev} {y : MethodName} {cc : ByteArray} {nL d : Nat} {ret : Option FieldType} {av : List Value} {σ : St}
theorem Mi_of {C : String} (hC : y.cls = C) (hy : plainName y.cls = true) (hn : (lg_sl av).length ≤ nL) {z : St × Int32}
    (body : ∀ (p : Program) (e : Env) (s : State) (m : MethodId) (below : List Frame) (meth : Method) (c : Code) (ls : Array Slot), Bx E p m meth c cc nL ret s av.toArray C → GS E σ s.heap s.heap [] → lv_has ls nL (lv_args 0 av) → W p l e (rmd d) s m av.toArray below meth c s.heap [] 0 0 (QI E z below av.toArray s) (F0 m 0 ls [])) : Mi l E y cc nL ret d av σ z.1 z.2 := by
  refine Met.ofW (cc := cc) (maxL := nL) (ret := ret) hy rfl ?_
  intro p e s m args below meth c s₁ B hml hv
  obtain ⟨rfl, hP, hK, hD, hNW, hXW⟩ := hv
  subst hC
  have hts := atoms_spec (ws := wsM y cc nL ret) B.pre
  have hl := lv_entry av (n := nL) hn
  have key := body p e s m below meth c _ ⟨⟨⟨B.exec, B.bytes, hml, findClass_of_methodNamed B.named, fun w hw => hts w (List.mem_cons_of_mem _ hw)⟩, hK, hNW, hXW⟩, B.returns, B.notSynchronized⟩ ⟨hP, hD, va_S.rf⟩ hl
  rw [lg_entry_eq]
  exact key
theorem Mv_of {C : String} (hC : y.cls = C) (hy : plainName y.cls = true) (hn : (lg_sl av).length ≤ nL) {z : St × Int32}
    (body : ∀ (p : Program) (e : Env) (s : State) (m : MethodId) (below : List Frame) (meth : Method) (c : Code) (ls : Array Slot), Bx E p m meth c cc nL none s av.toArray C → GS E σ s.heap s.heap [] → lv_has ls nL (lv_args 0 av) → W p l e (rmd d) s m av.toArray below meth c s.heap [] 0 0 (QV E z below av.toArray s) (F0 m 0 ls [])) : Mv l E y cc nL d av σ z.1 := by
  refine Met.ofW (cc := cc) (maxL := nL) (ret := none) hy rfl ?_
  intro p e s m args below meth c s₁ B hml hv
  obtain ⟨rfl, hP, hK, hD, hNW, hXW⟩ := hv
  subst hC
  have hts := atoms_spec (ws := wsM y cc nL none) B.pre
  have hl := lv_entry av (n := nL) hn
  have key := body p e s m below meth c _ ⟨⟨⟨B.exec, B.bytes, hml, findClass_of_methodNamed B.named, fun w hw => hts w (List.mem_cons_of_mem _ hw)⟩, hK, hNW, hXW⟩, B.returns, B.notSynchronized⟩ ⟨hP, hD, va_S.rf⟩ hl
  rw [lg_entry_eq]
  exact key
theorem Mr_of {C : String} (hC : y.cls = C) (hy : plainName y.cls = true) (hn : (lg_sl av).length ≤ nL) {z : St × Nat}
    (body : ∀ (p : Program) (e : Env) (s : State) (m : MethodId) (below : List Frame) (meth : Method) (c : Code) (ls : Array Slot), Bx E p m meth c cc nL ret s av.toArray C → GS E σ s.heap s.heap [] → lv_has ls nL (lv_args 0 av) → W p l e (rmd d) s m av.toArray below meth c s.heap [] 0 0 (QR E z below av.toArray s) (F0 m 0 ls [])) : Mr l E y cc nL ret d av σ z.1 z.2 := by
  refine Met.ofW (cc := cc) (maxL := nL) (ret := ret) hy rfl ?_
  intro p e s m args below meth c s₁ B hml hv
  obtain ⟨rfl, hP, hK, hD, hNW, hXW⟩ := hv
  subst hC
  have hts := atoms_spec (ws := wsM y cc nL ret) B.pre
  have hl := lv_entry av (n := nL) hn
  have key := body p e s m below meth c _ ⟨⟨⟨B.exec, B.bytes, hml, findClass_of_methodNamed B.named, fun w hw => hts w (List.mem_cons_of_mem _ hw)⟩, hK, hNW, hXW⟩, B.returns, B.notSynchronized⟩ ⟨hP, hD, va_S.rf⟩ hl
  rw [lg_entry_eq]
  exact key
theorem Ms_of {C : String} (hC : y.cls = C) (hy : plainName y.cls = true) (hn : (lg_sl av).length ≤ nL) {z : St × Nat}
    (body : ∀ (p : Program) (e : Env) (s : State) (m : MethodId) (below : List Frame) (meth : Method) (c : Code) (ls : Array Slot), Bx E p m meth c cc nL ret s av.toArray C → GS E σ s.heap s.heap [] → lv_has ls nL (lv_args 0 av) → W p l e (rmd d) s m av.toArray below meth c s.heap [] 0 0 (QS E z below av.toArray s) (F0 m 0 ls [])) : Ms l E y cc nL ret d av σ z.1 z.2 := by
  refine Met.ofW (cc := cc) (maxL := nL) (ret := ret) hy rfl ?_
  intro p e s m args below meth c s₁ B hml hv
  obtain ⟨rfl, hP, hK, hD, hNW, hXW⟩ := hv
  subst hC
  have hts := atoms_spec (ws := wsM y cc nL ret) B.pre
  have hl := lv_entry av (n := nL) hn
  have key := body p e s m below meth c _ ⟨⟨⟨B.exec, B.bytes, hml, findClass_of_methodNamed B.named, fun w hw => hts w (List.mem_cons_of_mem _ hw)⟩, hK, hNW, hXW⟩, B.returns, B.notSynchronized⟩ ⟨hP, hD, va_S.rf⟩ hl
  rw [lg_entry_eq]
  exact key
def Mf (l : Launch) (E : Ev) (y : MethodName) (cc : ByteArray) (nL : Nat) (d : Nat) (av : List Value) (σ σ' : St) (r : UInt32) : Prop := MetD lw_cs l y (wsM y cc nL (some .float)) (rmd d) (va_Pc av (GB E σ)) (va_Qf (fun (r' : UInt32) (u : St) => alike32 r' r = true ∧ u = σ') (GB E) (AE E)) 0 0 (AE E)
theorem Mf_of {C : String} (hC : y.cls = C) (hy : plainName y.cls = true) (hn : (lg_sl av).length ≤ nL) {z : St × UInt32}
    (body : ∀ (p : Program) (e : Env) (s : State) (m : MethodId) (below : List Frame) (meth : Method) (c : Code) (ls : Array Slot), Bx E p m meth c cc nL (some .float) s av.toArray C → GS E σ s.heap s.heap [] → lv_has ls nL (lv_args 0 av) → W p l e (rmd d) s m av.toArray below meth c s.heap [] 0 0 (QF E z below av.toArray s) (F0 m 0 ls [])) : Mf l E y cc nL d av σ z.1 z.2 := by
  refine MetD.ofW (cc := cc) (maxL := nL) (ret := some .float) hy rfl ?_
  intro p e s m args below meth c s₁ B hml hv hd0
  obtain ⟨rfl, hP, hK, hD, hNW, hXW⟩ := hv
  subst hC
  have hts := atoms_spec (ws := wsM y cc nL (some .float)) B.pre
  have hl := lv_entry av (n := nL) hn
  have key := body p e s m below meth c _ ⟨⟨⟨B.exec, B.bytes, hml, findClass_of_methodNamed B.named, fun w hw => hts w (List.mem_cons_of_mem _ hw)⟩, hK, hNW, hXW⟩, B.returns, B.notSynchronized⟩ ⟨hP, hD, va_S.rf⟩ hl
  rw [lg_entry_eq]
  exact key
def Md (l : Launch) (E : Ev) (y : MethodName) (cc : ByteArray) (nL : Nat) (d : Nat) (av : List Value) (σ σ' : St) (r : UInt64) : Prop := MetD lw_cs l y (wsM y cc nL (some .double)) (rmd d) (va_Pc av (GB E σ)) (va_Qd (fun (r' : UInt64) (u : St) => alike64 r' r = true ∧ u = σ') (GB E) (AE E)) 0 0 (AE E)
theorem Md_of {C : String} (hC : y.cls = C) (hy : plainName y.cls = true) (hn : (lg_sl av).length ≤ nL) {z : St × UInt64}
    (body : ∀ (p : Program) (e : Env) (s : State) (m : MethodId) (below : List Frame) (meth : Method) (c : Code) (ls : Array Slot), Bx E p m meth c cc nL (some .double) s av.toArray C → GS E σ s.heap s.heap [] → lv_has ls nL (lv_args 0 av) → W p l e (rmd d) s m av.toArray below meth c s.heap [] 0 0 (QD E z below av.toArray s) (F0 m 0 ls [])) : Md l E y cc nL d av σ z.1 z.2 := by
  refine MetD.ofW (cc := cc) (maxL := nL) (ret := some .double) hy rfl ?_
  intro p e s m args below meth c s₁ B hml hv hd0
  obtain ⟨rfl, hP, hK, hD, hNW, hXW⟩ := hv
  subst hC
  have hts := atoms_spec (ws := wsM y cc nL (some .double)) B.pre
  have hl := lv_entry av (n := nL) hn
  have key := body p e s m below meth c _ ⟨⟨⟨B.exec, B.bytes, hml, findClass_of_methodNamed B.named, fun w hw => hts w (List.mem_cons_of_mem _ hw)⟩, hK, hNW, hXW⟩, B.returns, B.notSynchronized⟩ ⟨hP, hD, va_S.rf⟩ hl
  rw [lg_entry_eq]
  exact key
end GM
