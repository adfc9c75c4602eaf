def LX (E : Ev) (p : Program) (m : MethodId) (c : Code) (s : State) (b L i : Nat) (xs : Nat → Int32) : Prop := Cx E p m c code 8 s #[Value.ref b] R_law ∧ va_X b L xs s s.heap ∧ b < s.heap.size ∧ ¬ AE E b ∧ i + 4 ≤ L ∧ L ≤ 2048
theorem cx_drawn {E : Ev} {p : Program} {m : MethodId} {c : Code} {cc : ByteArray} {nL : Nat} {s : State} {args : Array Value} {own : String} (d0 : Drawn) (X : Cx E p m c cc nL s args own) : Cx E p m c cc nL (s.setDrawn d0) args own := ⟨⟨X.1.1, X.1.2.1, X.1.2.2.1, X.1.2.2.2.1, dr_words X.1.2.2.2.2 d0⟩, X.2.1, NW.same (u := s) rfl X.2.2.1, XW.same (u := s) (U := s.setDrawn d0) rfl X.2.2.2⟩
theorem of_add (i k : Nat) : Int32.ofNat i + Int32.ofNat k = Int32.ofNat (i + k) := by
  apply Int32.toBitVec_inj.mp
  simp [BitVec.ofNat_add]
theorem of_nat {i : Nat} (h : i < 2147483648) : (Int32.ofNat i).toNatClampNeg = i := by
  show (Int32.ofNat i).toInt.toNat = i
  rw [Int32.toInt_ofNat_of_lt h]; rfl
theorem of_in {i L : Nat} (h : i < L) (hL : L ≤ 2100) : vp_in (Int32.ofNat i) L := by
  intro q
  rcases q with q | q
  · rw [Int32.lt_iff_toInt_lt, Int32.toInt_ofNat_of_lt (by omega)] at q
    have : (0 : Int32).toInt = 0 := rfl
    omega
  · rw [of_nat (by omega)] at q
    omega
theorem lx_ld {E : Ev} {p : Program} {l : Launch} {e : Env} {s : State} {m : MethodId} {below : List Frame} {meth : Method} {c : Code} {H : Heap} {locs : List Loc} {cells slots : Nat} {Q : State → Prop} {b L i : Nat} {xs : Nat → Int32} {σ : St} {d0 : Drawn} {pc : Nat} {ls : Array Slot} {rest : List Value} (X : LX E p m c s b L i xs) (hG : GS E σ s.heap H locs) {j : Int32} (k : Nat) (hk : k < 4) (hj : j = Int32.ofNat (i + k)) (hdg : decode code pc = .ok (.iaload, 1))
    (kk : W p l e room_1 (s.setDrawn d0) m #[Value.ref b] below meth c H locs cells slots Q (F0 m (pc + 1) ls (.int (xs (i + k)) :: rest))) : W p l e room_1 (s.setDrawn d0) m #[Value.ref b] below meth c H locs cells slots Q (F0 m pc ls (.int j :: .ref b :: rest)) := by
  obtain ⟨hC, hX, hbl, hbA, h4, hL⟩ := X
  subst hj
  refine va_sld (H0 := (s.setDrawn d0).heap) hC.1.1 hC.1.2.1 (va_X.moved (u := s) (U := s.setDrawn d0) (Vm.Alike.refl _) hX) hbl hbA hG.2.2 (of_in (by omega) (by omega)) hdg ?_
  rw [of_nat (by omega)]
  exact kk
set_option maxRecDepth 20000 in
theorem lay10_0 : lay 10 0 := by unfold lay; decide +kernel
set_option maxRecDepth 20000 in
theorem lay11_248 : lay 11 248 := by unfold lay; decide +kernel
theorem nan64_dec {x : UInt64} (h : isNaN64 x = true) : FP.Core.decode FP.Core.b64 x.toNat = .nan := by
  simp only [isNaN64, decide_eq_true_eq, gt_iff_lt, UInt64.lt_iff_toNat_lt, UInt64.toNat_and] at h
  have h1 : x.toNat &&& (0x7fffffffffffffff : UInt64).toNat = x.toNat % 2 ^ 63 := Nat.and_two_pow_sub_one_eq_mod x.toNat 63
  rw [h1] at h
  have h2 : (0x7ff0000000000000 : UInt64).toNat = 2047 * 4503599627370496 := rfl
  rw [h2] at h
  have e1 : FP.Core.fieldE FP.Core.b64 x.toNat = x.toNat / 4503599627370496 % 2048 := rfl
  have e2 : FP.Core.fieldT FP.Core.b64 x.toNat = x.toNat % 4503599627370496 := rfl
  have e3 : FP.Core.b64.exps - 1 = 2047 := rfl
  unfold FP.Core.decode
  rw [e1, e2, e3, if_pos (by omega), if_neg (by omega)]
theorem nan32_dec {x : UInt32} (h : isNaN32 x = true) : FP.Core.decode FP.Core.b32 x.toNat = .nan := by
  simp only [isNaN32, decide_eq_true_eq, gt_iff_lt, UInt32.lt_iff_toNat_lt, UInt32.toNat_and] at h
  have h1 : x.toNat &&& (0x7fffffff : UInt32).toNat = x.toNat % 2 ^ 31 := Nat.and_two_pow_sub_one_eq_mod x.toNat 31
  rw [h1] at h
  have h2 : (0x7f800000 : UInt32).toNat = 255 * 8388608 := rfl
  rw [h2] at h
  have e1 : FP.Core.fieldE FP.Core.b32 x.toNat = x.toNat / 8388608 % 256 := rfl
  have e2 : FP.Core.fieldT FP.Core.b32 x.toNat = x.toNat % 8388608 := rfl
  have e3 : FP.Core.b32.exps - 1 = 255 := rfl
  unfold FP.Core.decode
  rw [e1, e2, e3, if_pos (by omega), if_neg (by omega)]
theorem nan_f2d {x : UInt32} (h : isNaN32 x = true) : isNaN64 (FP.f2d x) = true := by
  have h1 : FP.Core.fIsNaN x = true := by
    show decide (FP.Core.decode FP.Core.b32 x.toNat = .nan) = true
    rw [nan32_dec h]; rfl
  unfold FP.f2d
  rw [if_pos h1]
  exact isNaN64_or_left (isNaN64_or_right (by decide))
theorem dcmp_same (x : UInt64) : FP.Core.dcmp x x = some .eq ∨ FP.Core.dcmp x x = none := by
  show FP.Core.order (FP.Core.decode FP.Core.b64 x.toNat) (FP.Core.decode FP.Core.b64 x.toNat) = _ ∨ FP.Core.order (FP.Core.decode FP.Core.b64 x.toNat) (FP.Core.decode FP.Core.b64 x.toNat) = none
  cases FP.Core.decode FP.Core.b64 x.toNat with
  | nan => exact Or.inr rfl
  | inf s => exact Or.inl (by cases s <;> rfl)
  | fin s c q =>
    refine Or.inl ?_
    show some (compare _ _) = some .eq
    congr 1
    exact Int.compare_eq_eq.mpr rfl
theorem dcmp_nan {x : UInt64} (h : isNaN64 x = true) : FP.Core.dcmp x x = none := by
  show FP.Core.order (FP.Core.decode FP.Core.b64 x.toNat) (FP.Core.decode FP.Core.b64 x.toNat) = none
  rw [nan64_dec h]; rfl
/-- what the law's comparison wants of two doubles -/
def okDD (x y : UInt64) : Prop := FP.Core.dcmp x y = some .eq ∨ (FP.Core.dcmp x x = none ∧ FP.Core.dcmp y y = none)
theorem okDD_of {x y : UInt64} (h : x = y ∨ (isNaN64 x = true ∧ isNaN64 y = true)) : okDD x y := by
  rcases h with rfl | ⟨h1, h2⟩
  · rcases dcmp_same x with h | h
    · exact Or.inl h
    · exact Or.inr ⟨h, h⟩
  · exact Or.inr ⟨dcmp_nan h1, dcmp_nan h2⟩
theorem alike64_or {x v : UInt64} (h : alike64 x v = true) : x = v ∨ (isNaN64 x = true ∧ isNaN64 v = true) := by
  unfold alike64 at h
  rcases (Bool.or_eq_true _ _).mp h with h | h
  · exact Or.inl (of_decide_eq_true h)
  · exact Or.inr ((Bool.and_eq_true _ _).mp h)
theorem alike32_or {x v : UInt32} (h : alike32 x v = true) : x = v ∨ (isNaN32 x = true ∧ isNaN32 v = true) := by
  unfold alike32 at h
  rcases (Bool.or_eq_true _ _).mp h with h | h
  · exact Or.inl (of_decide_eq_true h)
  · exact Or.inr ((Bool.and_eq_true _ _).mp h)
theorem okDD_64 {x y v : UInt64} (h1 : alike64 x v = true) (h2 : alike64 y v = true) : okDD x y := by
  rcases alike64_or h1 with rfl | ⟨a, b⟩ <;> rcases alike64_or h2 with rfl | ⟨c, d⟩
  · exact okDD_of (Or.inl rfl)
  · exact okDD_of (Or.inr ⟨d, c⟩)
  · exact okDD_of (Or.inr ⟨a, b⟩)
  · exact okDD_of (Or.inr ⟨a, c⟩)
theorem okDD_32 {x y v : UInt32} {X Y : UInt64} (h1 : alike32 x v = true) (h2 : alike32 y v = true) (hX : alike64 X (FP.f2d x) = true) (hY : alike64 Y (FP.f2d y) = true) : okDD X Y := by
  have key : x = y ∨ (isNaN32 x = true ∧ isNaN32 y = true) := by
    rcases alike32_or h1 with rfl | ⟨a, b⟩ <;> rcases alike32_or h2 with rfl | ⟨c, d⟩
    · exact Or.inl rfl
    · exact Or.inr ⟨d, c⟩
    · exact Or.inr ⟨a, b⟩
    · exact Or.inr ⟨a, c⟩
  rcases key with rfl | ⟨a, b⟩
  · exact okDD_64 hX hY
  · have n1 : isNaN64 X = true := by
      rcases alike64_or hX with rfl | ⟨q, _⟩
      · exact nan_f2d a
      · exact q
    have n2 : isNaN64 Y = true := by
      rcases alike64_or hY with rfl | ⟨q, _⟩
      · exact nan_f2d b
      · exact q
    exact okDD_of (Or.inr ⟨n1, n2⟩)
theorem lx_callf {E : Ev} {p : Program} {l : Launch} {e : Env} {s : State} {m : MethodId} {below : List Frame} {meth : Method} {c : Code} {H : Heap} {locs : List Loc} {cells slots : Nat} {Q : State → Prop} {b L i : Nat} {xs : Nat → Int32} {σ σ' : St} {d0 : Drawn} {pc : Nat} {ls : Array Slot} {y : MethodName} {bytes : ByteArray} {maxL index d : Nat} {r : UInt32} (X : LX E p m c s b L i xs) (hd0 : s.drawn.sameBut d0 lw_cs) (hG : GS E σ s.heap H locs) {ci k : Nat} (hL : lay ci k) {C : String} {T : u_T} {N : Nat} (hc : vwCl[ci]? = some (C, T, N)) (hyC : y.cls = C) (hC : Mf l E y bytes maxL d [.ref (E.1 k)] σ σ' r)
    (w1 : Cond.methodLink R_law index y ∈ lw_tbl) (w2 : Cond.instanceMethod y ∈ lw_tbl) (w3 : Cond.selects C y y ∈ lw_tbl) (w4 : Cond.initialized C ∈ lw_tbl) (hg : GoodIn (lw_tbl.filter goodWord) (wsM y bytes maxL (some .float))) (hd : y.cls ≠ "java/lang/invoke/MethodHandle" ∧ y.cls ≠ "java/lang/invoke/VarHandle" ∧ (parseMethodDescriptor y.desc).map (fun d => d.parameters.length) = some 0) (hR : d + 1 ≤ room_1.frames ∧ 8 + (maxL + 11) + 200 * d ≤ room_1.locals) (hls : ls.size = 8) (hcs : cells + 0 ≤ room_1.cells ∧ slots + 0 ≤ room_1.slots) (hdg : decode code pc = .ok (.invokevirtual index, 3))
    (kk : ∀ (r1 : UInt32) (H1 : Heap) (locs1 : List Loc) (d1 : Drawn), GS E σ' s.heap H1 locs1 → alike32 r1 r = true → s.drawn.sameBut d1 lw_cs → W p l e room_1 (s.setDrawn d1) m #[Value.ref b] below meth c H1 locs1 cells slots Q (F0 m (pc + 3) ls [.float r1])) : W p l e room_1 (s.setDrawn d0) m #[Value.ref b] below meth c H locs cells slots Q (F0 m pc ls [.ref (E.1 k)]) := by
  obtain ⟨⟨hx, hb, hml, hown, hts⟩, hK, hNW, hXW⟩ := cx_drawn d0 X.1
  refine va_callfD hd0 (va_runV_D (As := []) (rest := []) ⟨hx, hb, hml, hown, hts⟩ hC (cwV 0 hts (fun w hw => (List.mem_append.mp hw).elim (fun h => by rcases List.mem_cons.mp h with rfl | h; exact ⟨gw_in w1 rfl, good_of_word rfl⟩; rcases List.mem_cons.mp h with rfl | h; exact ⟨gw_in w2 rfl, good_of_word rfl⟩; rcases List.mem_cons.mp h with rfl | h; exact ⟨gw_in w3 rfl, good_of_word rfl⟩; rcases List.mem_cons.mp h with rfl | h; exact ⟨gw_in w4 rfl, good_of_word rfl⟩; cases h) (hg w)) rfl rfl rfl ⟨hyC, hd⟩ hR) ⟨GB_blind, GB_recv hK hG hL hc, GB_pre hK hNW hXW hG _⟩ rfl rfl hls rfl (lv_room (Nat.le_of_ble_eq_true rfl)) hdg hcs) hG.2.2 (fun q _ h => h) (fun q h => h) (fun r1 u t H1 locs1 ht hvm hw hB hz1 hk1 hS1 d1 hd1 => ?_)
  obtain ⟨hw1, rfl⟩ := hw
  exact kk r1 H1 locs1 d1 ⟨by rw [← ht]; exact hB.1, hB.2.2.1, hS1⟩ hw1 hd1
theorem lx_calld {E : Ev} {p : Program} {l : Launch} {e : Env} {s : State} {m : MethodId} {below : List Frame} {meth : Method} {c : Code} {H : Heap} {locs : List Loc} {cells slots : Nat} {Q : State → Prop} {b L i : Nat} {xs : Nat → Int32} {σ σ' : St} {d0 : Drawn} {pc : Nat} {ls : Array Slot} {y : MethodName} {bytes : ByteArray} {maxL index d : Nat} {r : UInt64} (X : LX E p m c s b L i xs) (hd0 : s.drawn.sameBut d0 lw_cs) (hG : GS E σ s.heap H locs) {ci k : Nat} (hL : lay ci k) {C : String} {T : u_T} {N : Nat} (hc : vwCl[ci]? = some (C, T, N)) (hyC : y.cls = C) (hC : Md l E y bytes maxL d [.ref (E.1 k)] σ σ' r)
    (w1 : Cond.methodLink R_law index y ∈ lw_tbl) (w2 : Cond.instanceMethod y ∈ lw_tbl) (w3 : Cond.selects C y y ∈ lw_tbl) (w4 : Cond.initialized C ∈ lw_tbl) (hg : GoodIn (lw_tbl.filter goodWord) (wsM y bytes maxL (some .double))) (hd : y.cls ≠ "java/lang/invoke/MethodHandle" ∧ y.cls ≠ "java/lang/invoke/VarHandle" ∧ (parseMethodDescriptor y.desc).map (fun d => d.parameters.length) = some 0) (hR : d + 1 ≤ room_1.frames ∧ 8 + (maxL + 11) + 200 * d ≤ room_1.locals) (hls : ls.size = 8) (hcs : cells + 0 ≤ room_1.cells ∧ slots + 0 ≤ room_1.slots) (hdg : decode code pc = .ok (.invokevirtual index, 3))
    (kk : ∀ (r1 : UInt64) (H1 : Heap) (locs1 : List Loc) (d1 : Drawn), GS E σ' s.heap H1 locs1 → alike64 r1 r = true → s.drawn.sameBut d1 lw_cs → W p l e room_1 (s.setDrawn d1) m #[Value.ref b] below meth c H1 locs1 cells slots Q (F0 m (pc + 3) ls [.double r1])) : W p l e room_1 (s.setDrawn d0) m #[Value.ref b] below meth c H locs cells slots Q (F0 m pc ls [.ref (E.1 k)]) := by
  obtain ⟨⟨hx, hb, hml, hown, hts⟩, hK, hNW, hXW⟩ := cx_drawn d0 X.1
  refine va_calldD hd0 (va_runV_D (As := []) (rest := []) ⟨hx, hb, hml, hown, hts⟩ hC (cwV 0 hts (fun w hw => (List.mem_append.mp hw).elim (fun h => by rcases List.mem_cons.mp h with rfl | h; exact ⟨gw_in w1 rfl, good_of_word rfl⟩; rcases List.mem_cons.mp h with rfl | h; exact ⟨gw_in w2 rfl, good_of_word rfl⟩; rcases List.mem_cons.mp h with rfl | h; exact ⟨gw_in w3 rfl, good_of_word rfl⟩; rcases List.mem_cons.mp h with rfl | h; exact ⟨gw_in w4 rfl, good_of_word rfl⟩; cases h) (hg w)) rfl rfl rfl ⟨hyC, hd⟩ hR) ⟨GB_blind, GB_recv hK hG hL hc, GB_pre hK hNW hXW hG _⟩ rfl rfl hls rfl (lv_room (Nat.le_of_ble_eq_true rfl)) hdg hcs) hG.2.2 (fun q _ h => h) (fun q h => h) (fun r1 u t H1 locs1 ht hvm hw hB hz1 hk1 hS1 d1 hd1 => ?_)
  obtain ⟨hw1, rfl⟩ := hw
  exact kk r1 H1 locs1 d1 ⟨by rw [← ht]; exact hB.1, hB.2.2.1, hS1⟩ hw1 hd1
set_option maxRecDepth 20000 in
set_option maxHeartbeats 4000000 in
theorem lc_0 {Rel : St → Prop} {p : Program} {l : Launch} {e : Env} {s : State} {m : MethodId} {below : List Frame} {meth : Method} {c : Code} {b L i : Nat} {xs : Nat → Int32} {E : Ev} {cells slots : Nat} {Q : State → Prop} (hcs : cells + 0 ≤ room_1.cells ∧ slots + 0 ≤ room_1.slots) (X : LX E p m c s b L i xs) (hP : ∀ (σ : St), Rel σ → ∃ (σ1 : St) (r : Int32) (σ2 : St), M_X10_clear σ 0  = some (σ1, r) ∧ M_X11_clear σ1 248  = some (σ2, r) ∧ Rel σ2) (next : ∀ (σ : St) (H : Heap) (locs : List Loc) (ls : Array Slot) (d0 : Drawn), Rel σ → GS E σ s.heap H locs → s.drawn.sameBut d0 lw_cs → lv_has ls 8 [(3, .int (Int32.ofNat i)), (2, .ref (E.1 248)), (1, .ref (E.1 0)), (0, .ref b)] → W p l e room_1 (s.setDrawn d0) m #[Value.ref b] below meth c H locs cells slots Q (F0 m 1181 ls [])) : ∀ (σ : St) (H : Heap) (locs : List Loc) (ls : Array Slot) (d0 : Drawn), Rel σ → GS E σ s.heap H locs → s.drawn.sameBut d0 lw_cs → lv_has ls 8 [(3, .int (Int32.ofNat i)), (2, .ref (E.1 248)), (1, .ref (E.1 0)), (0, .ref b)] → W p l e room_1 (s.setDrawn d0) m #[Value.ref b] below meth c H locs cells slots Q (F0 m 196 ls []) := by
  intro σ H locs ls d0 hR hG hd0 hl
  have hx := X.1.1.1
  have hb := X.1.1.2.1
  have lay10 : lay 10 0 := lay10_0
  have lay11 : lay 11 248 := lay11_248
  refine lv_aload_n hx hb dL_law_196 rfl (lv_at hl 2 rfl) ?_
  obtain ⟨σ1, r, σ2, h1, h2, hR⟩ := hP σ hR
  have hM : bcall (M_X10_clear σ 0) (fun a b => some (a, b)) = some (σ1, r) := by rw [h1]; rfl
  refine g_callV_i (nA := 0) (o := M_X10_clear σ 0) (As := []) (cx_drawn d0 X.1) hG (lay10) rfl rfl (fun _ _ h => C_X10_clear l E h (lay10)) mw364 mw365 mw366 mw51 (gw_ok mw367 rfl) (by decide +kernel) rfl ⟨(Nat.le_of_ble_eq_true rfl), (Nat.le_of_ble_eq_true rfl)⟩ hl.1 rfl (Nat.le_of_ble_eq_true rfl) hcs dL_law_197 hM (fun σ9 r9 H locs hG hM9 => ?_)
  cases hM9
  refine lv_aload_n hx hb dL_law_200 rfl (lv_at hl 1 rfl) ?_
  have hM : bcall (M_X11_clear σ1 248) (fun a b => some (a, b)) = some (σ2, r) := by rw [h2]; rfl
  refine g_callV_i (nA := 0) (o := M_X11_clear σ1 248) (As := []) (cx_drawn d0 X.1) hG (lay11) rfl rfl (fun _ _ h => C_X11_clear l E h (lay11)) mw1174 mw1175 mw1176 mw62 (gw_ok mw1177 rfl) (by decide +kernel) rfl ⟨(Nat.le_of_ble_eq_true rfl), (Nat.le_of_ble_eq_true rfl)⟩ hl.1 rfl (Nat.le_of_ble_eq_true rfl) hcs dL_law_201 hM (fun σ9 r9 H locs hG hM9 => ?_)
  cases hM9
  refine lv_icmp_eq (tgt := 1181) hx hb dL_law_204 (by decide) (fun _ => ?_) (fun c => absurd rfl c)
  exact next _ _ _ _ d0 hR hG hd0 hl
set_option maxRecDepth 20000 in
set_option maxHeartbeats 4000000 in
theorem lc_1 {Rel : St → Prop} {p : Program} {l : Launch} {e : Env} {s : State} {m : MethodId} {below : List Frame} {meth : Method} {c : Code} {b L i : Nat} {xs : Nat → Int32} {E : Ev} {cells slots : Nat} {Q : State → Prop} (hcs : cells + 0 ≤ room_1.cells ∧ slots + 0 ≤ room_1.slots) (X : LX E p m c s b L i xs) (hP : ∀ (σ : St) (v0 : Int32), Rel σ → ∃ (σ1 : St) (r : Int32) (σ2 : St), M_X10_append σ 0 v0 = some (σ1, r) ∧ M_X11_append σ1 248 v0 = some (σ2, r) ∧ Rel σ2) (next : ∀ (σ : St) (H : Heap) (locs : List Loc) (ls : Array Slot) (d0 : Drawn), Rel σ → GS E σ s.heap H locs → s.drawn.sameBut d0 lw_cs → lv_has ls 8 [(3, .int (Int32.ofNat i)), (2, .ref (E.1 248)), (1, .ref (E.1 0)), (0, .ref b)] → W p l e room_1 (s.setDrawn d0) m #[Value.ref b] below meth c H locs cells slots Q (F0 m 1181 ls [])) : ∀ (σ : St) (H : Heap) (locs : List Loc) (ls : Array Slot) (d0 : Drawn), Rel σ → GS E σ s.heap H locs → s.drawn.sameBut d0 lw_cs → lv_has ls 8 [(3, .int (Int32.ofNat i)), (2, .ref (E.1 248)), (1, .ref (E.1 0)), (0, .ref b)] → W p l e room_1 (s.setDrawn d0) m #[Value.ref b] below meth c H locs cells slots Q (F0 m 209 ls []) := by
  intro σ H locs ls d0 hR hG hd0 hl
  have hx := X.1.1.1
  have hb := X.1.1.2.1
  have lay10 : lay 10 0 := lay10_0
  have lay11 : lay 11 248 := lay11_248
  refine lv_aload_n hx hb dL_law_209 rfl (lv_at hl 2 rfl) ?_
  refine lv_aload_n hx hb dL_law_210 rfl (lv_at hl 3 rfl) ?_
  refine lv_iload_n hx hb dL_law_211 rfl (lv_at hl 0 rfl) ?_
  refine lv_iconst (v := (1 : Int32)) hx hb dL_law_212 (by decide) ?_
  refine lv_iadd hx hb dL_law_213 ?_
  refine lx_ld X hG 1 (by decide) (of_add i 1) dL_law_214 ?_
  refine lv_i2c hx hb dL_law_215 rfl ?_
  obtain ⟨σ1, r, σ2, h1, h2, hR⟩ := hP σ (((xs (i + 1)).toUInt32 % 65536).toInt32) hR
  have hM : bcall (M_X10_append σ 0 (((xs (i + 1)).toUInt32 % 65536).toInt32)) (fun a b => some (a, b)) = some (σ1, r) := by rw [h1]; rfl
  refine g_callV_i (nA := 1) (o := M_X10_append σ 0 (((xs (i + 1)).toUInt32 % 65536).toInt32)) (As := [.int (((xs (i + 1)).toUInt32 % 65536).toInt32)]) (cx_drawn d0 X.1) hG (lay10) rfl rfl (fun _ _ h => C_X10_append l E h (lay10)) mw398 mw399 mw400 mw51 (gw_ok mw401 rfl) (by decide +kernel) rfl ⟨(Nat.le_of_ble_eq_true rfl), (Nat.le_of_ble_eq_true rfl)⟩ hl.1 rfl (Nat.le_of_ble_eq_true rfl) hcs dL_law_216 hM (fun σ9 r9 H locs hG hM9 => ?_)
  cases hM9
  refine lv_aload_n hx hb dL_law_219 rfl (lv_at hl 1 rfl) ?_
  refine lv_aload_n hx hb dL_law_220 rfl (lv_at hl 3 rfl) ?_
  refine lv_iload_n hx hb dL_law_221 rfl (lv_at hl 0 rfl) ?_
  refine lv_iconst (v := (1 : Int32)) hx hb dL_law_222 (by decide) ?_
  refine lv_iadd hx hb dL_law_223 ?_
  refine lx_ld X hG 1 (by decide) (of_add i 1) dL_law_224 ?_
  refine lv_i2c hx hb dL_law_225 rfl ?_
  have hM : bcall (M_X11_append σ1 248 (((xs (i + 1)).toUInt32 % 65536).toInt32)) (fun a b => some (a, b)) = some (σ2, r) := by rw [h2]; rfl
  refine g_callV_i (nA := 1) (o := M_X11_append σ1 248 (((xs (i + 1)).toUInt32 % 65536).toInt32)) (As := [.int (((xs (i + 1)).toUInt32 % 65536).toInt32)]) (cx_drawn d0 X.1) hG (lay11) rfl rfl (fun _ _ h => C_X11_append l E h (lay11)) mw1178 mw1179 mw1180 mw62 (gw_ok mw1181 rfl) (by decide +kernel) rfl ⟨(Nat.le_of_ble_eq_true rfl), (Nat.le_of_ble_eq_true rfl)⟩ hl.1 rfl (Nat.le_of_ble_eq_true rfl) hcs dL_law_226 hM (fun σ9 r9 H locs hG hM9 => ?_)
  cases hM9
  refine lv_icmp_eq (tgt := 1181) hx hb dL_law_229 (by decide) (fun _ => ?_) (fun c => absurd rfl c)
  exact next _ _ _ _ d0 hR hG hd0 hl
set_option maxRecDepth 20000 in
set_option maxHeartbeats 4000000 in
theorem lc_2 {Rel : St → Prop} {p : Program} {l : Launch} {e : Env} {s : State} {m : MethodId} {below : List Frame} {meth : Method} {c : Code} {b L i : Nat} {xs : Nat → Int32} {E : Ev} {cells slots : Nat} {Q : State → Prop} (hcs : cells + 0 ≤ room_1.cells ∧ slots + 0 ≤ room_1.slots) (X : LX E p m c s b L i xs) (hP : ∀ (σ : St) (v0 v1 : Int32), Rel σ → ∃ (σ1 : St) (r : Int32) (σ2 : St), M_X10_bundle σ 0 v0 v1 = some (σ1, r) ∧ M_X11_bundle σ1 248 v0 v1 = some (σ2, r) ∧ Rel σ2) (next : ∀ (σ : St) (H : Heap) (locs : List Loc) (ls : Array Slot) (d0 : Drawn), Rel σ → GS E σ s.heap H locs → s.drawn.sameBut d0 lw_cs → lv_has ls 8 [(3, .int (Int32.ofNat i)), (2, .ref (E.1 248)), (1, .ref (E.1 0)), (0, .ref b)] → W p l e room_1 (s.setDrawn d0) m #[Value.ref b] below meth c H locs cells slots Q (F0 m 1181 ls [])) : ∀ (σ : St) (H : Heap) (locs : List Loc) (ls : Array Slot) (d0 : Drawn), Rel σ → GS E σ s.heap H locs → s.drawn.sameBut d0 lw_cs → lv_has ls 8 [(3, .int (Int32.ofNat i)), (2, .ref (E.1 248)), (1, .ref (E.1 0)), (0, .ref b)] → W p l e room_1 (s.setDrawn d0) m #[Value.ref b] below meth c H locs cells slots Q (F0 m 234 ls []) := by
  intro σ H locs ls d0 hR hG hd0 hl
  have hx := X.1.1.1
  have hb := X.1.1.2.1
  have lay10 : lay 10 0 := lay10_0
  have lay11 : lay 11 248 := lay11_248
  refine lv_aload_n hx hb dL_law_234 rfl (lv_at hl 2 rfl) ?_
  refine lv_aload_n hx hb dL_law_235 rfl (lv_at hl 3 rfl) ?_
  refine lv_iload_n hx hb dL_law_236 rfl (lv_at hl 0 rfl) ?_
  refine lv_iconst (v := (1 : Int32)) hx hb dL_law_237 (by decide) ?_
  refine lv_iadd hx hb dL_law_238 ?_
  refine lx_ld X hG 1 (by decide) (of_add i 1) dL_law_239 ?_
  refine lv_aload_n hx hb dL_law_240 rfl (lv_at hl 3 rfl) ?_
  refine lv_iload_n hx hb dL_law_241 rfl (lv_at hl 0 rfl) ?_
  refine lv_iconst (v := (2 : Int32)) hx hb dL_law_242 (by decide) ?_
  refine lv_iadd hx hb dL_law_243 ?_
  refine lx_ld X hG 2 (by decide) (of_add i 2) dL_law_244 ?_
  obtain ⟨σ1, r, σ2, h1, h2, hR⟩ := hP σ (xs (i + 1)) (xs (i + 2)) hR
  have hM : bcall (M_X10_bundle σ 0 (xs (i + 1)) (xs (i + 2))) (fun a b => some (a, b)) = some (σ1, r) := by rw [h1]; rfl
  refine g_callV_i (nA := 2) (o := M_X10_bundle σ 0 (xs (i + 1)) (xs (i + 2))) (As := [.int (xs (i + 1)), .int (xs (i + 2))]) (cx_drawn d0 X.1) hG (lay10) rfl rfl (fun _ _ h => C_X10_bundle l E h (lay10)) mw409 mw410 mw411 mw51 (gw_ok mw412 rfl) (by decide +kernel) rfl ⟨(Nat.le_of_ble_eq_true rfl), (Nat.le_of_ble_eq_true rfl)⟩ hl.1 rfl (Nat.le_of_ble_eq_true rfl) hcs dL_law_245 hM (fun σ9 r9 H locs hG hM9 => ?_)
  cases hM9
  refine lv_aload_n hx hb dL_law_248 rfl (lv_at hl 1 rfl) ?_
  refine lv_aload_n hx hb dL_law_249 rfl (lv_at hl 3 rfl) ?_
  refine lv_iload_n hx hb dL_law_250 rfl (lv_at hl 0 rfl) ?_
  refine lv_iconst (v := (1 : Int32)) hx hb dL_law_251 (by decide) ?_
  refine lv_iadd hx hb dL_law_252 ?_
  refine lx_ld X hG 1 (by decide) (of_add i 1) dL_law_253 ?_
  refine lv_aload_n hx hb dL_law_254 rfl (lv_at hl 3 rfl) ?_
  refine lv_iload_n hx hb dL_law_255 rfl (lv_at hl 0 rfl) ?_
  refine lv_iconst (v := (2 : Int32)) hx hb dL_law_256 (by decide) ?_
  refine lv_iadd hx hb dL_law_257 ?_
  refine lx_ld X hG 2 (by decide) (of_add i 2) dL_law_258 ?_
  have hM : bcall (M_X11_bundle σ1 248 (xs (i + 1)) (xs (i + 2))) (fun a b => some (a, b)) = some (σ2, r) := by rw [h2]; rfl
  refine g_callV_i (nA := 2) (o := M_X11_bundle σ1 248 (xs (i + 1)) (xs (i + 2))) (As := [.int (xs (i + 1)), .int (xs (i + 2))]) (cx_drawn d0 X.1) hG (lay11) rfl rfl (fun _ _ h => C_X11_bundle l E h (lay11)) mw1185 mw1186 mw1187 mw62 (gw_ok mw1188 rfl) (by decide +kernel) rfl ⟨(Nat.le_of_ble_eq_true rfl), (Nat.le_of_ble_eq_true rfl)⟩ hl.1 rfl (Nat.le_of_ble_eq_true rfl) hcs dL_law_259 hM (fun σ9 r9 H locs hG hM9 => ?_)
  cases hM9
  refine lv_icmp_eq (tgt := 1181) hx hb dL_law_262 (by decide) (fun _ => ?_) (fun c => absurd rfl c)
  exact next _ _ _ _ d0 hR hG hd0 hl
set_option maxRecDepth 20000 in
set_option maxHeartbeats 4000000 in
theorem lc_3 {Rel : St → Prop} {p : Program} {l : Launch} {e : Env} {s : State} {m : MethodId} {below : List Frame} {meth : Method} {c : Code} {b L i : Nat} {xs : Nat → Int32} {E : Ev} {cells slots : Nat} {Q : State → Prop} (hcs : cells + 0 ≤ room_1.cells ∧ slots + 0 ≤ room_1.slots) (X : LX E p m c s b L i xs) (hP : ∀ (σ : St) (v0 : Int32), Rel σ → ∃ (σ1 : St) (r : Int32) (σ2 : St), M_X10_strips σ 0 v0 = some (σ1, r) ∧ M_X11_strips σ1 248 v0 = some (σ2, r) ∧ Rel σ2) (next : ∀ (σ : St) (H : Heap) (locs : List Loc) (ls : Array Slot) (d0 : Drawn), Rel σ → GS E σ s.heap H locs → s.drawn.sameBut d0 lw_cs → lv_has ls 8 [(3, .int (Int32.ofNat i)), (2, .ref (E.1 248)), (1, .ref (E.1 0)), (0, .ref b)] → W p l e room_1 (s.setDrawn d0) m #[Value.ref b] below meth c H locs cells slots Q (F0 m 1181 ls [])) : ∀ (σ : St) (H : Heap) (locs : List Loc) (ls : Array Slot) (d0 : Drawn), Rel σ → GS E σ s.heap H locs → s.drawn.sameBut d0 lw_cs → lv_has ls 8 [(3, .int (Int32.ofNat i)), (2, .ref (E.1 248)), (1, .ref (E.1 0)), (0, .ref b)] → W p l e room_1 (s.setDrawn d0) m #[Value.ref b] below meth c H locs cells slots Q (F0 m 267 ls []) := by
  intro σ H locs ls d0 hR hG hd0 hl
  have hx := X.1.1.1
  have hb := X.1.1.2.1
  have lay10 : lay 10 0 := lay10_0
  have lay11 : lay 11 248 := lay11_248
  refine lv_aload_n hx hb dL_law_267 rfl (lv_at hl 2 rfl) ?_
  refine lv_aload_n hx hb dL_law_268 rfl (lv_at hl 3 rfl) ?_
  refine lv_iload_n hx hb dL_law_269 rfl (lv_at hl 0 rfl) ?_
  refine lv_iconst (v := (1 : Int32)) hx hb dL_law_270 (by decide) ?_
  refine lv_iadd hx hb dL_law_271 ?_
  refine lx_ld X hG 1 (by decide) (of_add i 1) dL_law_272 ?_
  obtain ⟨σ1, r, σ2, h1, h2, hR⟩ := hP σ (xs (i + 1)) hR
  have hM : bcall (M_X10_strips σ 0 (xs (i + 1))) (fun a b => some (a, b)) = some (σ1, r) := by rw [h1]; rfl
  refine g_callV_i (nA := 1) (o := M_X10_strips σ 0 (xs (i + 1))) (As := [.int (xs (i + 1))]) (cx_drawn d0 X.1) hG (lay10) rfl rfl (fun _ _ h => C_X10_strips l E h (lay10)) mw481 mw482 mw483 mw51 (gw_ok mw484 rfl) (by decide +kernel) rfl ⟨(Nat.le_of_ble_eq_true rfl), (Nat.le_of_ble_eq_true rfl)⟩ hl.1 rfl (Nat.le_of_ble_eq_true rfl) hcs dL_law_273 hM (fun σ9 r9 H locs hG hM9 => ?_)
  cases hM9
  refine lv_aload_n hx hb dL_law_276 rfl (lv_at hl 1 rfl) ?_
  refine lv_aload_n hx hb dL_law_277 rfl (lv_at hl 3 rfl) ?_
  refine lv_iload_n hx hb dL_law_278 rfl (lv_at hl 0 rfl) ?_
  refine lv_iconst (v := (1 : Int32)) hx hb dL_law_279 (by decide) ?_
  refine lv_iadd hx hb dL_law_280 ?_
  refine lx_ld X hG 1 (by decide) (of_add i 1) dL_law_281 ?_
  have hM : bcall (M_X11_strips σ1 248 (xs (i + 1))) (fun a b => some (a, b)) = some (σ2, r) := by rw [h2]; rfl
  refine g_callV_i (nA := 1) (o := M_X11_strips σ1 248 (xs (i + 1))) (As := [.int (xs (i + 1))]) (cx_drawn d0 X.1) hG (lay11) rfl rfl (fun _ _ h => C_X11_strips l E h (lay11)) mw1201 mw1202 mw1203 mw62 (gw_ok mw1204 rfl) (by decide +kernel) rfl ⟨(Nat.le_of_ble_eq_true rfl), (Nat.le_of_ble_eq_true rfl)⟩ hl.1 rfl (Nat.le_of_ble_eq_true rfl) hcs dL_law_282 hM (fun σ9 r9 H locs hG hM9 => ?_)
  cases hM9
  refine lv_icmp_eq (tgt := 1181) hx hb dL_law_285 (by decide) (fun _ => ?_) (fun c => absurd rfl c)
  exact next _ _ _ _ d0 hR hG hd0 hl
set_option maxRecDepth 20000 in
set_option maxHeartbeats 4000000 in
theorem lc_4 {Rel : St → Prop} {p : Program} {l : Launch} {e : Env} {s : State} {m : MethodId} {below : List Frame} {meth : Method} {c : Code} {b L i : Nat} {xs : Nat → Int32} {E : Ev} {cells slots : Nat} {Q : State → Prop} (hcs : cells + 0 ≤ room_1.cells ∧ slots + 0 ≤ room_1.slots) (X : LX E p m c s b L i xs) (hP : ∀ (σ : St) (v0 v1 v2 : Int32), Rel σ → ∃ (σ1 : St) (r : Int32) (σ2 : St), M_X10_build σ 0 v0 v1 v2 = some (σ1, r) ∧ M_X11_build σ1 248 v0 v1 v2 = some (σ2, r) ∧ Rel σ2) (next : ∀ (σ : St) (H : Heap) (locs : List Loc) (ls : Array Slot) (d0 : Drawn), Rel σ → GS E σ s.heap H locs → s.drawn.sameBut d0 lw_cs → lv_has ls 8 [(3, .int (Int32.ofNat i)), (2, .ref (E.1 248)), (1, .ref (E.1 0)), (0, .ref b)] → W p l e room_1 (s.setDrawn d0) m #[Value.ref b] below meth c H locs cells slots Q (F0 m 1181 ls [])) : ∀ (σ : St) (H : Heap) (locs : List Loc) (ls : Array Slot) (d0 : Drawn), Rel σ → GS E σ s.heap H locs → s.drawn.sameBut d0 lw_cs → lv_has ls 8 [(3, .int (Int32.ofNat i)), (2, .ref (E.1 248)), (1, .ref (E.1 0)), (0, .ref b)] → W p l e room_1 (s.setDrawn d0) m #[Value.ref b] below meth c H locs cells slots Q (F0 m 290 ls []) := by
  intro σ H locs ls d0 hR hG hd0 hl
  have hx := X.1.1.1
  have hb := X.1.1.2.1
  have lay10 : lay 10 0 := lay10_0
  have lay11 : lay 11 248 := lay11_248
  refine lv_aload_n hx hb dL_law_290 rfl (lv_at hl 2 rfl) ?_
  refine lv_aload_n hx hb dL_law_291 rfl (lv_at hl 3 rfl) ?_
  refine lv_iload_n hx hb dL_law_292 rfl (lv_at hl 0 rfl) ?_
  refine lv_iconst (v := (1 : Int32)) hx hb dL_law_293 (by decide) ?_
  refine lv_iadd hx hb dL_law_294 ?_
  refine lx_ld X hG 1 (by decide) (of_add i 1) dL_law_295 ?_
  refine lv_aload_n hx hb dL_law_296 rfl (lv_at hl 3 rfl) ?_
  refine lv_iload_n hx hb dL_law_297 rfl (lv_at hl 0 rfl) ?_
  refine lv_iconst (v := (2 : Int32)) hx hb dL_law_298 (by decide) ?_
  refine lv_iadd hx hb dL_law_299 ?_
  refine lx_ld X hG 2 (by decide) (of_add i 2) dL_law_300 ?_
  refine lv_aload_n hx hb dL_law_301 rfl (lv_at hl 3 rfl) ?_
  refine lv_iload_n hx hb dL_law_302 rfl (lv_at hl 0 rfl) ?_
  refine lv_iconst (v := (3 : Int32)) hx hb dL_law_303 (by decide) ?_
  refine lv_iadd hx hb dL_law_304 ?_
  refine lx_ld X hG 3 (by decide) (of_add i 3) dL_law_305 ?_
  obtain ⟨σ1, r, σ2, h1, h2, hR⟩ := hP σ (xs (i + 1)) (xs (i + 2)) (xs (i + 3)) hR
  have hM : bcall (M_X10_build σ 0 (xs (i + 1)) (xs (i + 2)) (xs (i + 3))) (fun a b => some (a, b)) = some (σ1, r) := by rw [h1]; rfl
  refine g_callV_i (nA := 3) (o := M_X10_build σ 0 (xs (i + 1)) (xs (i + 2)) (xs (i + 3))) (As := [.int (xs (i + 1)), .int (xs (i + 2)), .int (xs (i + 3))]) (cx_drawn d0 X.1) hG (lay10) rfl rfl (fun _ _ h => C_X10_build l E h (lay10)) mw490 mw491 mw492 mw51 (gw_ok mw493 rfl) (by decide +kernel) rfl ⟨(Nat.le_of_ble_eq_true rfl), (Nat.le_of_ble_eq_true rfl)⟩ hl.1 rfl (Nat.le_of_ble_eq_true rfl) hcs dL_law_306 hM (fun σ9 r9 H locs hG hM9 => ?_)
  cases hM9
  refine lv_aload_n hx hb dL_law_309 rfl (lv_at hl 1 rfl) ?_
  refine lv_aload_n hx hb dL_law_310 rfl (lv_at hl 3 rfl) ?_
  refine lv_iload_n hx hb dL_law_311 rfl (lv_at hl 0 rfl) ?_
  refine lv_iconst (v := (1 : Int32)) hx hb dL_law_312 (by decide) ?_
  refine lv_iadd hx hb dL_law_313 ?_
  refine lx_ld X hG 1 (by decide) (of_add i 1) dL_law_314 ?_
  refine lv_aload_n hx hb dL_law_315 rfl (lv_at hl 3 rfl) ?_
  refine lv_iload_n hx hb dL_law_316 rfl (lv_at hl 0 rfl) ?_
  refine lv_iconst (v := (2 : Int32)) hx hb dL_law_317 (by decide) ?_
  refine lv_iadd hx hb dL_law_318 ?_
  refine lx_ld X hG 2 (by decide) (of_add i 2) dL_law_319 ?_
  refine lv_aload_n hx hb dL_law_320 rfl (lv_at hl 3 rfl) ?_
  refine lv_iload_n hx hb dL_law_321 rfl (lv_at hl 0 rfl) ?_
  refine lv_iconst (v := (3 : Int32)) hx hb dL_law_322 (by decide) ?_
  refine lv_iadd hx hb dL_law_323 ?_
  refine lx_ld X hG 3 (by decide) (of_add i 3) dL_law_324 ?_
  have hM : bcall (M_X11_build σ1 248 (xs (i + 1)) (xs (i + 2)) (xs (i + 3))) (fun a b => some (a, b)) = some (σ2, r) := by rw [h2]; rfl
  refine g_callV_i (nA := 3) (o := M_X11_build σ1 248 (xs (i + 1)) (xs (i + 2)) (xs (i + 3))) (As := [.int (xs (i + 1)), .int (xs (i + 2)), .int (xs (i + 3))]) (cx_drawn d0 X.1) hG (lay11) rfl rfl (fun _ _ h => C_X11_build l E h (lay11)) mw1206 mw1207 mw1208 mw62 (gw_ok mw1209 rfl) (by decide +kernel) rfl ⟨(Nat.le_of_ble_eq_true rfl), (Nat.le_of_ble_eq_true rfl)⟩ hl.1 rfl (Nat.le_of_ble_eq_true rfl) hcs dL_law_325 hM (fun σ9 r9 H locs hG hM9 => ?_)
  cases hM9
  refine lv_icmp_eq (tgt := 1181) hx hb dL_law_328 (by decide) (fun _ => ?_) (fun c => absurd rfl c)
  exact next _ _ _ _ d0 hR hG hd0 hl
set_option maxRecDepth 20000 in
set_option maxHeartbeats 4000000 in
theorem lc_5 {Rel : St → Prop} {p : Program} {l : Launch} {e : Env} {s : State} {m : MethodId} {below : List Frame} {meth : Method} {c : Code} {b L i : Nat} {xs : Nat → Int32} {E : Ev} {cells slots : Nat} {Q : State → Prop} (hcs : cells + 0 ≤ room_1.cells ∧ slots + 0 ≤ room_1.slots) (X : LX E p m c s b L i xs) (hP : ∀ (σ : St) (v0 : Int32), Rel σ → ∃ (σ1 : St) (r : Int32) (σ2 : St), M_X10_tie σ 0 v0 = some (σ1, r) ∧ M_X11_tie σ1 248 v0 = some (σ2, r) ∧ Rel σ2) (next : ∀ (σ : St) (H : Heap) (locs : List Loc) (ls : Array Slot) (d0 : Drawn), Rel σ → GS E σ s.heap H locs → s.drawn.sameBut d0 lw_cs → lv_has ls 8 [(3, .int (Int32.ofNat i)), (2, .ref (E.1 248)), (1, .ref (E.1 0)), (0, .ref b)] → W p l e room_1 (s.setDrawn d0) m #[Value.ref b] below meth c H locs cells slots Q (F0 m 1181 ls [])) : ∀ (σ : St) (H : Heap) (locs : List Loc) (ls : Array Slot) (d0 : Drawn), Rel σ → GS E σ s.heap H locs → s.drawn.sameBut d0 lw_cs → lv_has ls 8 [(3, .int (Int32.ofNat i)), (2, .ref (E.1 248)), (1, .ref (E.1 0)), (0, .ref b)] → W p l e room_1 (s.setDrawn d0) m #[Value.ref b] below meth c H locs cells slots Q (F0 m 333 ls []) := by
  intro σ H locs ls d0 hR hG hd0 hl
  have hx := X.1.1.1
  have hb := X.1.1.2.1
  have lay10 : lay 10 0 := lay10_0
  have lay11 : lay 11 248 := lay11_248
  refine lv_aload_n hx hb dL_law_333 rfl (lv_at hl 2 rfl) ?_
  refine lv_aload_n hx hb dL_law_334 rfl (lv_at hl 3 rfl) ?_
  refine lv_iload_n hx hb dL_law_335 rfl (lv_at hl 0 rfl) ?_
  refine lv_iconst (v := (1 : Int32)) hx hb dL_law_336 (by decide) ?_
  refine lv_iadd hx hb dL_law_337 ?_
  refine lx_ld X hG 1 (by decide) (of_add i 1) dL_law_338 ?_
  obtain ⟨σ1, r, σ2, h1, h2, hR⟩ := hP σ (xs (i + 1)) hR
  have hM : bcall (M_X10_tie σ 0 (xs (i + 1))) (fun a b => some (a, b)) = some (σ1, r) := by rw [h1]; rfl
  refine g_callV_i (nA := 1) (o := M_X10_tie σ 0 (xs (i + 1))) (As := [.int (xs (i + 1))]) (cx_drawn d0 X.1) hG (lay10) rfl rfl (fun _ _ h => C_X10_tie l E h (lay10)) mw531 mw532 mw533 mw51 (gw_ok mw534 rfl) (by decide +kernel) rfl ⟨(Nat.le_of_ble_eq_true rfl), (Nat.le_of_ble_eq_true rfl)⟩ hl.1 rfl (Nat.le_of_ble_eq_true rfl) hcs dL_law_339 hM (fun σ9 r9 H locs hG hM9 => ?_)
  cases hM9
  refine lv_aload_n hx hb dL_law_342 rfl (lv_at hl 1 rfl) ?_
  refine lv_aload_n hx hb dL_law_343 rfl (lv_at hl 3 rfl) ?_
  refine lv_iload_n hx hb dL_law_344 rfl (lv_at hl 0 rfl) ?_
  refine lv_iconst (v := (1 : Int32)) hx hb dL_law_345 (by decide) ?_
  refine lv_iadd hx hb dL_law_346 ?_
  refine lx_ld X hG 1 (by decide) (of_add i 1) dL_law_347 ?_
  have hM : bcall (M_X11_tie σ1 248 (xs (i + 1))) (fun a b => some (a, b)) = some (σ2, r) := by rw [h2]; rfl
  refine g_callV_i (nA := 1) (o := M_X11_tie σ1 248 (xs (i + 1))) (As := [.int (xs (i + 1))]) (cx_drawn d0 X.1) hG (lay11) rfl rfl (fun _ _ h => C_X11_tie l E h (lay11)) mw1230 mw1231 mw1232 mw62 (gw_ok mw1233 rfl) (by decide +kernel) rfl ⟨(Nat.le_of_ble_eq_true rfl), (Nat.le_of_ble_eq_true rfl)⟩ hl.1 rfl (Nat.le_of_ble_eq_true rfl) hcs dL_law_348 hM (fun σ9 r9 H locs hG hM9 => ?_)
  cases hM9
  refine lv_icmp_eq (tgt := 1181) hx hb dL_law_351 (by decide) (fun _ => ?_) (fun c => absurd rfl c)
  exact next _ _ _ _ d0 hR hG hd0 hl
set_option maxRecDepth 20000 in
set_option maxHeartbeats 4000000 in
theorem lc_6 {Rel : St → Prop} {p : Program} {l : Launch} {e : Env} {s : State} {m : MethodId} {below : List Frame} {meth : Method} {c : Code} {b L i : Nat} {xs : Nat → Int32} {E : Ev} {cells slots : Nat} {Q : State → Prop} (hcs : cells + 0 ≤ room_1.cells ∧ slots + 0 ≤ room_1.slots) (X : LX E p m c s b L i xs) (hP : ∀ (σ : St) (v0 : Int32), Rel σ → ∃ (σ1 : St) (r : Int32) (σ2 : St), M_X10_crew σ 0 v0 = some (σ1, r) ∧ M_X11_crew σ1 248 v0 = some (σ2, r) ∧ Rel σ2) (next : ∀ (σ : St) (H : Heap) (locs : List Loc) (ls : Array Slot) (d0 : Drawn), Rel σ → GS E σ s.heap H locs → s.drawn.sameBut d0 lw_cs → lv_has ls 8 [(3, .int (Int32.ofNat i)), (2, .ref (E.1 248)), (1, .ref (E.1 0)), (0, .ref b)] → W p l e room_1 (s.setDrawn d0) m #[Value.ref b] below meth c H locs cells slots Q (F0 m 1181 ls [])) : ∀ (σ : St) (H : Heap) (locs : List Loc) (ls : Array Slot) (d0 : Drawn), Rel σ → GS E σ s.heap H locs → s.drawn.sameBut d0 lw_cs → lv_has ls 8 [(3, .int (Int32.ofNat i)), (2, .ref (E.1 248)), (1, .ref (E.1 0)), (0, .ref b)] → W p l e room_1 (s.setDrawn d0) m #[Value.ref b] below meth c H locs cells slots Q (F0 m 356 ls []) := by
  intro σ H locs ls d0 hR hG hd0 hl
  have hx := X.1.1.1
  have hb := X.1.1.2.1
  have lay10 : lay 10 0 := lay10_0
  have lay11 : lay 11 248 := lay11_248
  refine lv_aload_n hx hb dL_law_356 rfl (lv_at hl 2 rfl) ?_
  refine lv_aload_n hx hb dL_law_357 rfl (lv_at hl 3 rfl) ?_
  refine lv_iload_n hx hb dL_law_358 rfl (lv_at hl 0 rfl) ?_
  refine lv_iconst (v := (1 : Int32)) hx hb dL_law_359 (by decide) ?_
  refine lv_iadd hx hb dL_law_360 ?_
  refine lx_ld X hG 1 (by decide) (of_add i 1) dL_law_361 ?_
  obtain ⟨σ1, r, σ2, h1, h2, hR⟩ := hP σ (xs (i + 1)) hR
  have hM : bcall (M_X10_crew σ 0 (xs (i + 1))) (fun a b => some (a, b)) = some (σ1, r) := by rw [h1]; rfl
  refine g_callV_i (nA := 1) (o := M_X10_crew σ 0 (xs (i + 1))) (As := [.int (xs (i + 1))]) (cx_drawn d0 X.1) hG (lay10) rfl rfl (fun _ _ h => C_X10_crew l E h (lay10)) mw557 mw558 mw559 mw51 (gw_ok mw560 rfl) (by decide +kernel) rfl ⟨(Nat.le_of_ble_eq_true rfl), (Nat.le_of_ble_eq_true rfl)⟩ hl.1 rfl (Nat.le_of_ble_eq_true rfl) hcs dL_law_362 hM (fun σ9 r9 H locs hG hM9 => ?_)
  cases hM9
  refine lv_aload_n hx hb dL_law_365 rfl (lv_at hl 1 rfl) ?_
  refine lv_aload_n hx hb dL_law_366 rfl (lv_at hl 3 rfl) ?_
  refine lv_iload_n hx hb dL_law_367 rfl (lv_at hl 0 rfl) ?_
  refine lv_iconst (v := (1 : Int32)) hx hb dL_law_368 (by decide) ?_
  refine lv_iadd hx hb dL_law_369 ?_
  refine lx_ld X hG 1 (by decide) (of_add i 1) dL_law_370 ?_
  have hM : bcall (M_X11_crew σ1 248 (xs (i + 1))) (fun a b => some (a, b)) = some (σ2, r) := by rw [h2]; rfl
  refine g_callV_i (nA := 1) (o := M_X11_crew σ1 248 (xs (i + 1))) (As := [.int (xs (i + 1))]) (cx_drawn d0 X.1) hG (lay11) rfl rfl (fun _ _ h => C_X11_crew l E h (lay11)) mw1246 mw1247 mw1248 mw62 (gw_ok mw1249 rfl) (by decide +kernel) rfl ⟨(Nat.le_of_ble_eq_true rfl), (Nat.le_of_ble_eq_true rfl)⟩ hl.1 rfl (Nat.le_of_ble_eq_true rfl) hcs dL_law_371 hM (fun σ9 r9 H locs hG hM9 => ?_)
  cases hM9
  refine lv_icmp_eq (tgt := 1181) hx hb dL_law_374 (by decide) (fun _ => ?_) (fun c => absurd rfl c)
  exact next _ _ _ _ d0 hR hG hd0 hl
set_option maxRecDepth 20000 in
set_option maxHeartbeats 4000000 in
theorem lc_7 {Rel : St → Prop} {p : Program} {l : Launch} {e : Env} {s : State} {m : MethodId} {below : List Frame} {meth : Method} {c : Code} {b L i : Nat} {xs : Nat → Int32} {E : Ev} {cells slots : Nat} {Q : State → Prop} (hcs : cells + 0 ≤ room_1.cells ∧ slots + 0 ≤ room_1.slots) (X : LX E p m c s b L i xs) (hP : ∀ (σ : St) (v0 v1 : Int32), Rel σ → ∃ (σ1 : St) (r : Int32) (σ2 : St), M_X10_up σ 0 v0 v1 = some (σ1, r) ∧ M_X11_up σ1 248 v0 v1 = some (σ2, r) ∧ Rel σ2) (next : ∀ (σ : St) (H : Heap) (locs : List Loc) (ls : Array Slot) (d0 : Drawn), Rel σ → GS E σ s.heap H locs → s.drawn.sameBut d0 lw_cs → lv_has ls 8 [(3, .int (Int32.ofNat i)), (2, .ref (E.1 248)), (1, .ref (E.1 0)), (0, .ref b)] → W p l e room_1 (s.setDrawn d0) m #[Value.ref b] below meth c H locs cells slots Q (F0 m 1181 ls [])) : ∀ (σ : St) (H : Heap) (locs : List Loc) (ls : Array Slot) (d0 : Drawn), Rel σ → GS E σ s.heap H locs → s.drawn.sameBut d0 lw_cs → lv_has ls 8 [(3, .int (Int32.ofNat i)), (2, .ref (E.1 248)), (1, .ref (E.1 0)), (0, .ref b)] → W p l e room_1 (s.setDrawn d0) m #[Value.ref b] below meth c H locs cells slots Q (F0 m 379 ls []) := by
  intro σ H locs ls d0 hR hG hd0 hl
  have hx := X.1.1.1
  have hb := X.1.1.2.1
  have lay10 : lay 10 0 := lay10_0
  have lay11 : lay 11 248 := lay11_248
  refine lv_aload_n hx hb dL_law_379 rfl (lv_at hl 2 rfl) ?_
  refine lv_aload_n hx hb dL_law_380 rfl (lv_at hl 3 rfl) ?_
  refine lv_iload_n hx hb dL_law_381 rfl (lv_at hl 0 rfl) ?_
  refine lv_iconst (v := (1 : Int32)) hx hb dL_law_382 (by decide) ?_
  refine lv_iadd hx hb dL_law_383 ?_
  refine lx_ld X hG 1 (by decide) (of_add i 1) dL_law_384 ?_
  refine lv_aload_n hx hb dL_law_385 rfl (lv_at hl 3 rfl) ?_
  refine lv_iload_n hx hb dL_law_386 rfl (lv_at hl 0 rfl) ?_
  refine lv_iconst (v := (2 : Int32)) hx hb dL_law_387 (by decide) ?_
  refine lv_iadd hx hb dL_law_388 ?_
  refine lx_ld X hG 2 (by decide) (of_add i 2) dL_law_389 ?_
  obtain ⟨σ1, r, σ2, h1, h2, hR⟩ := hP σ (xs (i + 1)) (xs (i + 2)) hR
  have hM : bcall (M_X10_up σ 0 (xs (i + 1)) (xs (i + 2))) (fun a b => some (a, b)) = some (σ1, r) := by rw [h1]; rfl
  refine g_callV_i (nA := 2) (o := M_X10_up σ 0 (xs (i + 1)) (xs (i + 2))) (As := [.int (xs (i + 1)), .int (xs (i + 2))]) (cx_drawn d0 X.1) hG (lay10) rfl rfl (fun _ _ h => C_X10_up l E h (lay10)) mw570 mw571 mw572 mw51 (gw_ok mw573 rfl) (by decide +kernel) rfl ⟨(Nat.le_of_ble_eq_true rfl), (Nat.le_of_ble_eq_true rfl)⟩ hl.1 rfl (Nat.le_of_ble_eq_true rfl) hcs dL_law_390 hM (fun σ9 r9 H locs hG hM9 => ?_)
  cases hM9
  refine lv_aload_n hx hb dL_law_393 rfl (lv_at hl 1 rfl) ?_
  refine lv_aload_n hx hb dL_law_394 rfl (lv_at hl 3 rfl) ?_
  refine lv_iload_n hx hb dL_law_395 rfl (lv_at hl 0 rfl) ?_
  refine lv_iconst (v := (1 : Int32)) hx hb dL_law_396 (by decide) ?_
  refine lv_iadd hx hb dL_law_397 ?_
  refine lx_ld X hG 1 (by decide) (of_add i 1) dL_law_398 ?_
  refine lv_aload_n hx hb dL_law_399 rfl (lv_at hl 3 rfl) ?_
  refine lv_iload_n hx hb dL_law_400 rfl (lv_at hl 0 rfl) ?_
  refine lv_iconst (v := (2 : Int32)) hx hb dL_law_401 (by decide) ?_
  refine lv_iadd hx hb dL_law_402 ?_
  refine lx_ld X hG 2 (by decide) (of_add i 2) dL_law_403 ?_
  have hM : bcall (M_X11_up σ1 248 (xs (i + 1)) (xs (i + 2))) (fun a b => some (a, b)) = some (σ2, r) := by rw [h2]; rfl
  refine g_callV_i (nA := 2) (o := M_X11_up σ1 248 (xs (i + 1)) (xs (i + 2))) (As := [.int (xs (i + 1)), .int (xs (i + 2))]) (cx_drawn d0 X.1) hG (lay11) rfl rfl (fun _ _ h => C_X11_up l E h (lay11)) mw1250 mw1251 mw1252 mw62 (gw_ok mw1253 rfl) (by decide +kernel) rfl ⟨(Nat.le_of_ble_eq_true rfl), (Nat.le_of_ble_eq_true rfl)⟩ hl.1 rfl (Nat.le_of_ble_eq_true rfl) hcs dL_law_404 hM (fun σ9 r9 H locs hG hM9 => ?_)
  cases hM9
  refine lv_icmp_eq (tgt := 1181) hx hb dL_law_407 (by decide) (fun _ => ?_) (fun c => absurd rfl c)
  exact next _ _ _ _ d0 hR hG hd0 hl
set_option maxRecDepth 20000 in
set_option maxHeartbeats 4000000 in
theorem lc_8 {Rel : St → Prop} {p : Program} {l : Launch} {e : Env} {s : State} {m : MethodId} {below : List Frame} {meth : Method} {c : Code} {b L i : Nat} {xs : Nat → Int32} {E : Ev} {cells slots : Nat} {Q : State → Prop} (hcs : cells + 0 ≤ room_1.cells ∧ slots + 0 ≤ room_1.slots) (X : LX E p m c s b L i xs) (hP : ∀ (σ : St) (v0 : Int32), Rel σ → ∃ (σ1 : St) (r : Int32) (σ2 : St), M_X10_down σ 0 v0 = some (σ1, r) ∧ M_X11_down σ1 248 v0 = some (σ2, r) ∧ Rel σ2) (next : ∀ (σ : St) (H : Heap) (locs : List Loc) (ls : Array Slot) (d0 : Drawn), Rel σ → GS E σ s.heap H locs → s.drawn.sameBut d0 lw_cs → lv_has ls 8 [(3, .int (Int32.ofNat i)), (2, .ref (E.1 248)), (1, .ref (E.1 0)), (0, .ref b)] → W p l e room_1 (s.setDrawn d0) m #[Value.ref b] below meth c H locs cells slots Q (F0 m 1181 ls [])) : ∀ (σ : St) (H : Heap) (locs : List Loc) (ls : Array Slot) (d0 : Drawn), Rel σ → GS E σ s.heap H locs → s.drawn.sameBut d0 lw_cs → lv_has ls 8 [(3, .int (Int32.ofNat i)), (2, .ref (E.1 248)), (1, .ref (E.1 0)), (0, .ref b)] → W p l e room_1 (s.setDrawn d0) m #[Value.ref b] below meth c H locs cells slots Q (F0 m 412 ls []) := by
  intro σ H locs ls d0 hR hG hd0 hl
  have hx := X.1.1.1
  have hb := X.1.1.2.1
  have lay10 : lay 10 0 := lay10_0
  have lay11 : lay 11 248 := lay11_248
  refine lv_aload_n hx hb dL_law_412 rfl (lv_at hl 2 rfl) ?_
  refine lv_aload_n hx hb dL_law_413 rfl (lv_at hl 3 rfl) ?_
  refine lv_iload_n hx hb dL_law_414 rfl (lv_at hl 0 rfl) ?_
  refine lv_iconst (v := (1 : Int32)) hx hb dL_law_415 (by decide) ?_
  refine lv_iadd hx hb dL_law_416 ?_
  refine lx_ld X hG 1 (by decide) (of_add i 1) dL_law_417 ?_
  obtain ⟨σ1, r, σ2, h1, h2, hR⟩ := hP σ (xs (i + 1)) hR
  have hM : bcall (M_X10_down σ 0 (xs (i + 1))) (fun a b => some (a, b)) = some (σ1, r) := by rw [h1]; rfl
  refine g_callV_i (nA := 1) (o := M_X10_down σ 0 (xs (i + 1))) (As := [.int (xs (i + 1))]) (cx_drawn d0 X.1) hG (lay10) rfl rfl (fun _ _ h => C_X10_down l E h (lay10)) mw624 mw625 mw626 mw51 (gw_ok mw627 rfl) (by decide +kernel) rfl ⟨(Nat.le_of_ble_eq_true rfl), (Nat.le_of_ble_eq_true rfl)⟩ hl.1 rfl (Nat.le_of_ble_eq_true rfl) hcs dL_law_418 hM (fun σ9 r9 H locs hG hM9 => ?_)
  cases hM9
  refine lv_aload_n hx hb dL_law_421 rfl (lv_at hl 1 rfl) ?_
  refine lv_aload_n hx hb dL_law_422 rfl (lv_at hl 3 rfl) ?_
  refine lv_iload_n hx hb dL_law_423 rfl (lv_at hl 0 rfl) ?_
  refine lv_iconst (v := (1 : Int32)) hx hb dL_law_424 (by decide) ?_
  refine lv_iadd hx hb dL_law_425 ?_
  refine lx_ld X hG 1 (by decide) (of_add i 1) dL_law_426 ?_
  have hM : bcall (M_X11_down σ1 248 (xs (i + 1))) (fun a b => some (a, b)) = some (σ2, r) := by rw [h2]; rfl
  refine g_callV_i (nA := 1) (o := M_X11_down σ1 248 (xs (i + 1))) (As := [.int (xs (i + 1))]) (cx_drawn d0 X.1) hG (lay11) rfl rfl (fun _ _ h => C_X11_down l E h (lay11)) mw1279 mw1280 mw1281 mw62 (gw_ok mw1282 rfl) (by decide +kernel) rfl ⟨(Nat.le_of_ble_eq_true rfl), (Nat.le_of_ble_eq_true rfl)⟩ hl.1 rfl (Nat.le_of_ble_eq_true rfl) hcs dL_law_427 hM (fun σ9 r9 H locs hG hM9 => ?_)
  cases hM9
  refine lv_icmp_eq (tgt := 1181) hx hb dL_law_430 (by decide) (fun _ => ?_) (fun c => absurd rfl c)
  exact next _ _ _ _ d0 hR hG hd0 hl
set_option maxRecDepth 20000 in
set_option maxHeartbeats 4000000 in
theorem lc_9 {Rel : St → Prop} {p : Program} {l : Launch} {e : Env} {s : State} {m : MethodId} {below : List Frame} {meth : Method} {c : Code} {b L i : Nat} {xs : Nat → Int32} {E : Ev} {cells slots : Nat} {Q : State → Prop} (hcs : cells + 0 ≤ room_1.cells ∧ slots + 0 ≤ room_1.slots) (X : LX E p m c s b L i xs) (hP : ∀ (σ : St) (v0 v1 : Int32), Rel σ → ∃ (σ1 : St) (r : Int32) (σ2 : St), M_X10_lift σ 0 v0 v1 = some (σ1, r) ∧ M_X11_lift σ1 248 v0 v1 = some (σ2, r) ∧ Rel σ2) (next : ∀ (σ : St) (H : Heap) (locs : List Loc) (ls : Array Slot) (d0 : Drawn), Rel σ → GS E σ s.heap H locs → s.drawn.sameBut d0 lw_cs → lv_has ls 8 [(3, .int (Int32.ofNat i)), (2, .ref (E.1 248)), (1, .ref (E.1 0)), (0, .ref b)] → W p l e room_1 (s.setDrawn d0) m #[Value.ref b] below meth c H locs cells slots Q (F0 m 1181 ls [])) : ∀ (σ : St) (H : Heap) (locs : List Loc) (ls : Array Slot) (d0 : Drawn), Rel σ → GS E σ s.heap H locs → s.drawn.sameBut d0 lw_cs → lv_has ls 8 [(3, .int (Int32.ofNat i)), (2, .ref (E.1 248)), (1, .ref (E.1 0)), (0, .ref b)] → W p l e room_1 (s.setDrawn d0) m #[Value.ref b] below meth c H locs cells slots Q (F0 m 435 ls []) := by
  intro σ H locs ls d0 hR hG hd0 hl
  have hx := X.1.1.1
  have hb := X.1.1.2.1
  have lay10 : lay 10 0 := lay10_0
  have lay11 : lay 11 248 := lay11_248
  refine lv_aload_n hx hb dL_law_435 rfl (lv_at hl 2 rfl) ?_
  refine lv_aload_n hx hb dL_law_436 rfl (lv_at hl 3 rfl) ?_
  refine lv_iload_n hx hb dL_law_437 rfl (lv_at hl 0 rfl) ?_
  refine lv_iconst (v := (1 : Int32)) hx hb dL_law_438 (by decide) ?_
  refine lv_iadd hx hb dL_law_439 ?_
  refine lx_ld X hG 1 (by decide) (of_add i 1) dL_law_440 ?_
  refine lv_aload_n hx hb dL_law_441 rfl (lv_at hl 3 rfl) ?_
  refine lv_iload_n hx hb dL_law_442 rfl (lv_at hl 0 rfl) ?_
  refine lv_iconst (v := (2 : Int32)) hx hb dL_law_443 (by decide) ?_
  refine lv_iadd hx hb dL_law_444 ?_
  refine lx_ld X hG 2 (by decide) (of_add i 2) dL_law_445 ?_
  obtain ⟨σ1, r, σ2, h1, h2, hR⟩ := hP σ (xs (i + 1)) (xs (i + 2)) hR
  have hM : bcall (M_X10_lift σ 0 (xs (i + 1)) (xs (i + 2))) (fun a b => some (a, b)) = some (σ1, r) := by rw [h1]; rfl
  refine g_callV_i (nA := 2) (o := M_X10_lift σ 0 (xs (i + 1)) (xs (i + 2))) (As := [.int (xs (i + 1)), .int (xs (i + 2))]) (cx_drawn d0 X.1) hG (lay10) rfl rfl (fun _ _ h => C_X10_lift l E h (lay10)) mw636 mw637 mw638 mw51 (gw_ok mw639 rfl) (by decide +kernel) rfl ⟨(Nat.le_of_ble_eq_true rfl), (Nat.le_of_ble_eq_true rfl)⟩ hl.1 rfl (Nat.le_of_ble_eq_true rfl) hcs dL_law_446 hM (fun σ9 r9 H locs hG hM9 => ?_)
  cases hM9
  refine lv_aload_n hx hb dL_law_449 rfl (lv_at hl 1 rfl) ?_
  refine lv_aload_n hx hb dL_law_450 rfl (lv_at hl 3 rfl) ?_
  refine lv_iload_n hx hb dL_law_451 rfl (lv_at hl 0 rfl) ?_
  refine lv_iconst (v := (1 : Int32)) hx hb dL_law_452 (by decide) ?_
  refine lv_iadd hx hb dL_law_453 ?_
  refine lx_ld X hG 1 (by decide) (of_add i 1) dL_law_454 ?_
  refine lv_aload_n hx hb dL_law_455 rfl (lv_at hl 3 rfl) ?_
  refine lv_iload_n hx hb dL_law_456 rfl (lv_at hl 0 rfl) ?_
  refine lv_iconst (v := (2 : Int32)) hx hb dL_law_457 (by decide) ?_
  refine lv_iadd hx hb dL_law_458 ?_
  refine lx_ld X hG 2 (by decide) (of_add i 2) dL_law_459 ?_
  have hM : bcall (M_X11_lift σ1 248 (xs (i + 1)) (xs (i + 2))) (fun a b => some (a, b)) = some (σ2, r) := by rw [h2]; rfl
  refine g_callV_i (nA := 2) (o := M_X11_lift σ1 248 (xs (i + 1)) (xs (i + 2))) (As := [.int (xs (i + 1)), .int (xs (i + 2))]) (cx_drawn d0 X.1) hG (lay11) rfl rfl (fun _ _ h => C_X11_lift l E h (lay11)) mw1287 mw1288 mw1289 mw62 (gw_ok mw1290 rfl) (by decide +kernel) rfl ⟨(Nat.le_of_ble_eq_true rfl), (Nat.le_of_ble_eq_true rfl)⟩ hl.1 rfl (Nat.le_of_ble_eq_true rfl) hcs dL_law_460 hM (fun σ9 r9 H locs hG hM9 => ?_)
  cases hM9
  refine lv_icmp_eq (tgt := 1181) hx hb dL_law_463 (by decide) (fun _ => ?_) (fun c => absurd rfl c)
  exact next _ _ _ _ d0 hR hG hd0 hl
set_option maxRecDepth 20000 in
set_option maxHeartbeats 4000000 in
theorem lc_10 {Rel : St → Prop} {p : Program} {l : Launch} {e : Env} {s : State} {m : MethodId} {below : List Frame} {meth : Method} {c : Code} {b L i : Nat} {xs : Nat → Int32} {E : Ev} {cells slots : Nat} {Q : State → Prop} (hcs : cells + 0 ≤ room_1.cells ∧ slots + 0 ≤ room_1.slots) (X : LX E p m c s b L i xs) (hP : ∀ (σ : St) (v0 : Int32), Rel σ → ∃ (σ1 : St) (r : Int32) (σ2 : St), M_X10_signal σ 0 v0 = some (σ1, r) ∧ M_X11_signal σ1 248 v0 = some (σ2, r) ∧ Rel σ2) (next : ∀ (σ : St) (H : Heap) (locs : List Loc) (ls : Array Slot) (d0 : Drawn), Rel σ → GS E σ s.heap H locs → s.drawn.sameBut d0 lw_cs → lv_has ls 8 [(3, .int (Int32.ofNat i)), (2, .ref (E.1 248)), (1, .ref (E.1 0)), (0, .ref b)] → W p l e room_1 (s.setDrawn d0) m #[Value.ref b] below meth c H locs cells slots Q (F0 m 1181 ls [])) : ∀ (σ : St) (H : Heap) (locs : List Loc) (ls : Array Slot) (d0 : Drawn), Rel σ → GS E σ s.heap H locs → s.drawn.sameBut d0 lw_cs → lv_has ls 8 [(3, .int (Int32.ofNat i)), (2, .ref (E.1 248)), (1, .ref (E.1 0)), (0, .ref b)] → W p l e room_1 (s.setDrawn d0) m #[Value.ref b] below meth c H locs cells slots Q (F0 m 468 ls []) := by
  intro σ H locs ls d0 hR hG hd0 hl
  have hx := X.1.1.1
  have hb := X.1.1.2.1
  have lay10 : lay 10 0 := lay10_0
  have lay11 : lay 11 248 := lay11_248
  refine lv_aload_n hx hb dL_law_468 rfl (lv_at hl 2 rfl) ?_
  refine lv_aload_n hx hb dL_law_469 rfl (lv_at hl 3 rfl) ?_
  refine lv_iload_n hx hb dL_law_470 rfl (lv_at hl 0 rfl) ?_
  refine lv_iconst (v := (1 : Int32)) hx hb dL_law_471 (by decide) ?_
  refine lv_iadd hx hb dL_law_472 ?_
  refine lx_ld X hG 1 (by decide) (of_add i 1) dL_law_473 ?_
  obtain ⟨σ1, r, σ2, h1, h2, hR⟩ := hP σ (xs (i + 1)) hR
  have hM : bcall (M_X10_signal σ 0 (xs (i + 1))) (fun a b => some (a, b)) = some (σ1, r) := by rw [h1]; rfl
  refine g_callV_i (nA := 1) (o := M_X10_signal σ 0 (xs (i + 1))) (As := [.int (xs (i + 1))]) (cx_drawn d0 X.1) hG (lay10) rfl rfl (fun _ _ h => C_X10_signal l E h (lay10)) mw653 mw654 mw655 mw51 (gw_ok mw656 rfl) (by decide +kernel) rfl ⟨(Nat.le_of_ble_eq_true rfl), (Nat.le_of_ble_eq_true rfl)⟩ hl.1 rfl (Nat.le_of_ble_eq_true rfl) hcs dL_law_474 hM (fun σ9 r9 H locs hG hM9 => ?_)
  cases hM9
  refine lv_aload_n hx hb dL_law_477 rfl (lv_at hl 1 rfl) ?_
  refine lv_aload_n hx hb dL_law_478 rfl (lv_at hl 3 rfl) ?_
  refine lv_iload_n hx hb dL_law_479 rfl (lv_at hl 0 rfl) ?_
  refine lv_iconst (v := (1 : Int32)) hx hb dL_law_480 (by decide) ?_
  refine lv_iadd hx hb dL_law_481 ?_
  refine lx_ld X hG 1 (by decide) (of_add i 1) dL_law_482 ?_
  have hM : bcall (M_X11_signal σ1 248 (xs (i + 1))) (fun a b => some (a, b)) = some (σ2, r) := by rw [h2]; rfl
  refine g_callV_i (nA := 1) (o := M_X11_signal σ1 248 (xs (i + 1))) (As := [.int (xs (i + 1))]) (cx_drawn d0 X.1) hG (lay11) rfl rfl (fun _ _ h => C_X11_signal l E h (lay11)) mw1295 mw1296 mw1297 mw62 (gw_ok mw1298 rfl) (by decide +kernel) rfl ⟨(Nat.le_of_ble_eq_true rfl), (Nat.le_of_ble_eq_true rfl)⟩ hl.1 rfl (Nat.le_of_ble_eq_true rfl) hcs dL_law_483 hM (fun σ9 r9 H locs hG hM9 => ?_)
  cases hM9
  refine lv_icmp_eq (tgt := 1181) hx hb dL_law_486 (by decide) (fun _ => ?_) (fun c => absurd rfl c)
  exact next _ _ _ _ d0 hR hG hd0 hl
set_option maxRecDepth 20000 in
set_option maxHeartbeats 4000000 in
theorem lc_11 {Rel : St → Prop} {p : Program} {l : Launch} {e : Env} {s : State} {m : MethodId} {below : List Frame} {meth : Method} {c : Code} {b L i : Nat} {xs : Nat → Int32} {E : Ev} {cells slots : Nat} {Q : State → Prop} (hcs : cells + 0 ≤ room_1.cells ∧ slots + 0 ≤ room_1.slots) (X : LX E p m c s b L i xs) (hP : ∀ (σ : St) (v0 : Int32), Rel σ → ∃ (σ1 : St) (r : Int32) (σ2 : St), M_X10_inspector σ 0 v0 = some (σ1, r) ∧ M_X11_inspector σ1 248 v0 = some (σ2, r) ∧ Rel σ2) (next : ∀ (σ : St) (H : Heap) (locs : List Loc) (ls : Array Slot) (d0 : Drawn), Rel σ → GS E σ s.heap H locs → s.drawn.sameBut d0 lw_cs → lv_has ls 8 [(3, .int (Int32.ofNat i)), (2, .ref (E.1 248)), (1, .ref (E.1 0)), (0, .ref b)] → W p l e room_1 (s.setDrawn d0) m #[Value.ref b] below meth c H locs cells slots Q (F0 m 1181 ls [])) : ∀ (σ : St) (H : Heap) (locs : List Loc) (ls : Array Slot) (d0 : Drawn), Rel σ → GS E σ s.heap H locs → s.drawn.sameBut d0 lw_cs → lv_has ls 8 [(3, .int (Int32.ofNat i)), (2, .ref (E.1 248)), (1, .ref (E.1 0)), (0, .ref b)] → W p l e room_1 (s.setDrawn d0) m #[Value.ref b] below meth c H locs cells slots Q (F0 m 491 ls []) := by
  intro σ H locs ls d0 hR hG hd0 hl
  have hx := X.1.1.1
  have hb := X.1.1.2.1
  have lay10 : lay 10 0 := lay10_0
  have lay11 : lay 11 248 := lay11_248
  refine lv_aload_n hx hb dL_law_491 rfl (lv_at hl 2 rfl) ?_
  refine lv_aload_n hx hb dL_law_492 rfl (lv_at hl 3 rfl) ?_
  refine lv_iload_n hx hb dL_law_493 rfl (lv_at hl 0 rfl) ?_
  refine lv_iconst (v := (1 : Int32)) hx hb dL_law_494 (by decide) ?_
  refine lv_iadd hx hb dL_law_495 ?_
  refine lx_ld X hG 1 (by decide) (of_add i 1) dL_law_496 ?_
  obtain ⟨σ1, r, σ2, h1, h2, hR⟩ := hP σ (xs (i + 1)) hR
  have hM : bcall (M_X10_inspector σ 0 (xs (i + 1))) (fun a b => some (a, b)) = some (σ1, r) := by rw [h1]; rfl
  refine g_callV_i (nA := 1) (o := M_X10_inspector σ 0 (xs (i + 1))) (As := [.int (xs (i + 1))]) (cx_drawn d0 X.1) hG (lay10) rfl rfl (fun _ _ h => C_X10_inspector l E h (lay10)) mw666 mw667 mw668 mw51 (gw_ok mw669 rfl) (by decide +kernel) rfl ⟨(Nat.le_of_ble_eq_true rfl), (Nat.le_of_ble_eq_true rfl)⟩ hl.1 rfl (Nat.le_of_ble_eq_true rfl) hcs dL_law_497 hM (fun σ9 r9 H locs hG hM9 => ?_)
  cases hM9
  refine lv_aload_n hx hb dL_law_500 rfl (lv_at hl 1 rfl) ?_
  refine lv_aload_n hx hb dL_law_501 rfl (lv_at hl 3 rfl) ?_
  refine lv_iload_n hx hb dL_law_502 rfl (lv_at hl 0 rfl) ?_
  refine lv_iconst (v := (1 : Int32)) hx hb dL_law_503 (by decide) ?_
  refine lv_iadd hx hb dL_law_504 ?_
  refine lx_ld X hG 1 (by decide) (of_add i 1) dL_law_505 ?_
  have hM : bcall (M_X11_inspector σ1 248 (xs (i + 1))) (fun a b => some (a, b)) = some (σ2, r) := by rw [h2]; rfl
  refine g_callV_i (nA := 1) (o := M_X11_inspector σ1 248 (xs (i + 1))) (As := [.int (xs (i + 1))]) (cx_drawn d0 X.1) hG (lay11) rfl rfl (fun _ _ h => C_X11_inspector l E h (lay11)) mw1303 mw1304 mw1305 mw62 (gw_ok mw1306 rfl) (by decide +kernel) rfl ⟨(Nat.le_of_ble_eq_true rfl), (Nat.le_of_ble_eq_true rfl)⟩ hl.1 rfl (Nat.le_of_ble_eq_true rfl) hcs dL_law_506 hM (fun σ9 r9 H locs hG hM9 => ?_)
  cases hM9
  refine lv_icmp_eq (tgt := 1181) hx hb dL_law_509 (by decide) (fun _ => ?_) (fun c => absurd rfl c)
  exact next _ _ _ _ d0 hR hG hd0 hl
set_option maxRecDepth 20000 in
set_option maxHeartbeats 4000000 in
theorem lc_12 {Rel : St → Prop} {p : Program} {l : Launch} {e : Env} {s : State} {m : MethodId} {below : List Frame} {meth : Method} {c : Code} {b L i : Nat} {xs : Nat → Int32} {E : Ev} {cells slots : Nat} {Q : State → Prop} (hcs : cells + 0 ≤ room_1.cells ∧ slots + 0 ≤ room_1.slots) (X : LX E p m c s b L i xs) (hP : ∀ (σ : St) (v0 v1 : Int32), Rel σ → ∃ (σ1 : St) (r : Int32) (σ2 : St), M_X10_inspect σ 0 v0 v1 = some (σ1, r) ∧ M_X11_inspect σ1 248 v0 v1 = some (σ2, r) ∧ Rel σ2) (next : ∀ (σ : St) (H : Heap) (locs : List Loc) (ls : Array Slot) (d0 : Drawn), Rel σ → GS E σ s.heap H locs → s.drawn.sameBut d0 lw_cs → lv_has ls 8 [(3, .int (Int32.ofNat i)), (2, .ref (E.1 248)), (1, .ref (E.1 0)), (0, .ref b)] → W p l e room_1 (s.setDrawn d0) m #[Value.ref b] below meth c H locs cells slots Q (F0 m 1181 ls [])) : ∀ (σ : St) (H : Heap) (locs : List Loc) (ls : Array Slot) (d0 : Drawn), Rel σ → GS E σ s.heap H locs → s.drawn.sameBut d0 lw_cs → lv_has ls 8 [(3, .int (Int32.ofNat i)), (2, .ref (E.1 248)), (1, .ref (E.1 0)), (0, .ref b)] → W p l e room_1 (s.setDrawn d0) m #[Value.ref b] below meth c H locs cells slots Q (F0 m 514 ls []) := by
  intro σ H locs ls d0 hR hG hd0 hl
  have hx := X.1.1.1
  have hb := X.1.1.2.1
  have lay10 : lay 10 0 := lay10_0
  have lay11 : lay 11 248 := lay11_248
  refine lv_aload_n hx hb dL_law_514 rfl (lv_at hl 2 rfl) ?_
  refine lv_aload_n hx hb dL_law_515 rfl (lv_at hl 3 rfl) ?_
  refine lv_iload_n hx hb dL_law_516 rfl (lv_at hl 0 rfl) ?_
  refine lv_iconst (v := (1 : Int32)) hx hb dL_law_517 (by decide) ?_
  refine lv_iadd hx hb dL_law_518 ?_
  refine lx_ld X hG 1 (by decide) (of_add i 1) dL_law_519 ?_
  refine lv_aload_n hx hb dL_law_520 rfl (lv_at hl 3 rfl) ?_
  refine lv_iload_n hx hb dL_law_521 rfl (lv_at hl 0 rfl) ?_
  refine lv_iconst (v := (2 : Int32)) hx hb dL_law_522 (by decide) ?_
  refine lv_iadd hx hb dL_law_523 ?_
  refine lx_ld X hG 2 (by decide) (of_add i 2) dL_law_524 ?_
  obtain ⟨σ1, r, σ2, h1, h2, hR⟩ := hP σ (xs (i + 1)) (xs (i + 2)) hR
  have hM : bcall (M_X10_inspect σ 0 (xs (i + 1)) (xs (i + 2))) (fun a b => some (a, b)) = some (σ1, r) := by rw [h1]; rfl
  refine g_callV_i (nA := 2) (o := M_X10_inspect σ 0 (xs (i + 1)) (xs (i + 2))) (As := [.int (xs (i + 1)), .int (xs (i + 2))]) (cx_drawn d0 X.1) hG (lay10) rfl rfl (fun _ _ h => C_X10_inspect l E h (lay10)) mw679 mw680 mw681 mw51 (gw_ok mw682 rfl) (by decide +kernel) rfl ⟨(Nat.le_of_ble_eq_true rfl), (Nat.le_of_ble_eq_true rfl)⟩ hl.1 rfl (Nat.le_of_ble_eq_true rfl) hcs dL_law_525 hM (fun σ9 r9 H locs hG hM9 => ?_)
  cases hM9
  refine lv_aload_n hx hb dL_law_528 rfl (lv_at hl 1 rfl) ?_
  refine lv_aload_n hx hb dL_law_529 rfl (lv_at hl 3 rfl) ?_
  refine lv_iload_n hx hb dL_law_530 rfl (lv_at hl 0 rfl) ?_
  refine lv_iconst (v := (1 : Int32)) hx hb dL_law_531 (by decide) ?_
  refine lv_iadd hx hb dL_law_532 ?_
  refine lx_ld X hG 1 (by decide) (of_add i 1) dL_law_533 ?_
  refine lv_aload_n hx hb dL_law_534 rfl (lv_at hl 3 rfl) ?_
  refine lv_iload_n hx hb dL_law_535 rfl (lv_at hl 0 rfl) ?_
  refine lv_iconst (v := (2 : Int32)) hx hb dL_law_536 (by decide) ?_
  refine lv_iadd hx hb dL_law_537 ?_
  refine lx_ld X hG 2 (by decide) (of_add i 2) dL_law_538 ?_
  have hM : bcall (M_X11_inspect σ1 248 (xs (i + 1)) (xs (i + 2))) (fun a b => some (a, b)) = some (σ2, r) := by rw [h2]; rfl
  refine g_callV_i (nA := 2) (o := M_X11_inspect σ1 248 (xs (i + 1)) (xs (i + 2))) (As := [.int (xs (i + 1)), .int (xs (i + 2))]) (cx_drawn d0 X.1) hG (lay11) rfl rfl (fun _ _ h => C_X11_inspect l E h (lay11)) mw1307 mw1308 mw1309 mw62 (gw_ok mw1310 rfl) (by decide +kernel) rfl ⟨(Nat.le_of_ble_eq_true rfl), (Nat.le_of_ble_eq_true rfl)⟩ hl.1 rfl (Nat.le_of_ble_eq_true rfl) hcs dL_law_539 hM (fun σ9 r9 H locs hG hM9 => ?_)
  cases hM9
  refine lv_icmp_eq (tgt := 1181) hx hb dL_law_542 (by decide) (fun _ => ?_) (fun c => absurd rfl c)
  exact next _ _ _ _ d0 hR hG hd0 hl
set_option maxRecDepth 20000 in
set_option maxHeartbeats 4000000 in
theorem lc_13 {Rel : St → Prop} {p : Program} {l : Launch} {e : Env} {s : State} {m : MethodId} {below : List Frame} {meth : Method} {c : Code} {b L i : Nat} {xs : Nat → Int32} {E : Ev} {cells slots : Nat} {Q : State → Prop} (hcs : cells + 0 ≤ room_1.cells ∧ slots + 0 ≤ room_1.slots) (X : LX E p m c s b L i xs) (hP : ∀ (σ : St) (v0 : Int32), Rel σ → ∃ (σ1 : St) (r : Int32) (σ2 : St), M_X10_day σ 0 v0 = some (σ1, r) ∧ M_X11_day σ1 248 v0 = some (σ2, r) ∧ Rel σ2) (next : ∀ (σ : St) (H : Heap) (locs : List Loc) (ls : Array Slot) (d0 : Drawn), Rel σ → GS E σ s.heap H locs → s.drawn.sameBut d0 lw_cs → lv_has ls 8 [(3, .int (Int32.ofNat i)), (2, .ref (E.1 248)), (1, .ref (E.1 0)), (0, .ref b)] → W p l e room_1 (s.setDrawn d0) m #[Value.ref b] below meth c H locs cells slots Q (F0 m 1181 ls [])) : ∀ (σ : St) (H : Heap) (locs : List Loc) (ls : Array Slot) (d0 : Drawn), Rel σ → GS E σ s.heap H locs → s.drawn.sameBut d0 lw_cs → lv_has ls 8 [(3, .int (Int32.ofNat i)), (2, .ref (E.1 248)), (1, .ref (E.1 0)), (0, .ref b)] → W p l e room_1 (s.setDrawn d0) m #[Value.ref b] below meth c H locs cells slots Q (F0 m 547 ls []) := by
  intro σ H locs ls d0 hR hG hd0 hl
  have hx := X.1.1.1
  have hb := X.1.1.2.1
  have lay10 : lay 10 0 := lay10_0
  have lay11 : lay 11 248 := lay11_248
  refine lv_aload_n hx hb dL_law_547 rfl (lv_at hl 2 rfl) ?_
  refine lv_aload_n hx hb dL_law_548 rfl (lv_at hl 3 rfl) ?_
  refine lv_iload_n hx hb dL_law_549 rfl (lv_at hl 0 rfl) ?_
  refine lv_iconst (v := (1 : Int32)) hx hb dL_law_550 (by decide) ?_
  refine lv_iadd hx hb dL_law_551 ?_
  refine lx_ld X hG 1 (by decide) (of_add i 1) dL_law_552 ?_
  obtain ⟨σ1, r, σ2, h1, h2, hR⟩ := hP σ (xs (i + 1)) hR
  have hM : bcall (M_X10_day σ 0 (xs (i + 1))) (fun a b => some (a, b)) = some (σ1, r) := by rw [h1]; rfl
  refine g_callV_i (nA := 1) (o := M_X10_day σ 0 (xs (i + 1))) (As := [.int (xs (i + 1))]) (cx_drawn d0 X.1) hG (lay10) rfl rfl (fun _ _ h => C_X10_day l E h (lay10)) mw712 mw713 mw714 mw51 (gw_ok mw715 rfl) (by decide +kernel) rfl ⟨(Nat.le_of_ble_eq_true rfl), (Nat.le_of_ble_eq_true rfl)⟩ hl.1 rfl (Nat.le_of_ble_eq_true rfl) hcs dL_law_553 hM (fun σ9 r9 H locs hG hM9 => ?_)
  cases hM9
  refine lv_aload_n hx hb dL_law_556 rfl (lv_at hl 1 rfl) ?_
  refine lv_aload_n hx hb dL_law_557 rfl (lv_at hl 3 rfl) ?_
  refine lv_iload_n hx hb dL_law_558 rfl (lv_at hl 0 rfl) ?_
  refine lv_iconst (v := (1 : Int32)) hx hb dL_law_559 (by decide) ?_
  refine lv_iadd hx hb dL_law_560 ?_
  refine lx_ld X hG 1 (by decide) (of_add i 1) dL_law_561 ?_
  have hM : bcall (M_X11_day σ1 248 (xs (i + 1))) (fun a b => some (a, b)) = some (σ2, r) := by rw [h2]; rfl
  refine g_callV_i (nA := 1) (o := M_X11_day σ1 248 (xs (i + 1))) (As := [.int (xs (i + 1))]) (cx_drawn d0 X.1) hG (lay11) rfl rfl (fun _ _ h => C_X11_day l E h (lay11)) mw1319 mw1320 mw1321 mw62 (gw_ok mw1322 rfl) (by decide +kernel) rfl ⟨(Nat.le_of_ble_eq_true rfl), (Nat.le_of_ble_eq_true rfl)⟩ hl.1 rfl (Nat.le_of_ble_eq_true rfl) hcs dL_law_562 hM (fun σ9 r9 H locs hG hM9 => ?_)
  cases hM9
  refine lv_icmp_eq (tgt := 1181) hx hb dL_law_565 (by decide) (fun _ => ?_) (fun c => absurd rfl c)
  exact next _ _ _ _ d0 hR hG hd0 hl
set_option maxRecDepth 20000 in
set_option maxHeartbeats 4000000 in
theorem lc_14 {Rel : St → Prop} {p : Program} {l : Launch} {e : Env} {s : State} {m : MethodId} {below : List Frame} {meth : Method} {c : Code} {b L i : Nat} {xs : Nat → Int32} {E : Ev} {cells slots : Nat} {Q : State → Prop} (hcs : cells + 0 ≤ room_1.cells ∧ slots + 0 ≤ room_1.slots) (X : LX E p m c s b L i xs) (hP : ∀ (σ : St), Rel σ → ∃ (σ1 : St) (r : Int32) (σ2 : St), M_X10_script σ 0  = some (σ1, r) ∧ M_X11_script σ1 248  = some (σ2, r) ∧ Rel σ2) (next : ∀ (σ : St) (H : Heap) (locs : List Loc) (ls : Array Slot) (d0 : Drawn), Rel σ → GS E σ s.heap H locs → s.drawn.sameBut d0 lw_cs → lv_has ls 8 [(3, .int (Int32.ofNat i)), (2, .ref (E.1 248)), (1, .ref (E.1 0)), (0, .ref b)] → W p l e room_1 (s.setDrawn d0) m #[Value.ref b] below meth c H locs cells slots Q (F0 m 1181 ls [])) : ∀ (σ : St) (H : Heap) (locs : List Loc) (ls : Array Slot) (d0 : Drawn), Rel σ → GS E σ s.heap H locs → s.drawn.sameBut d0 lw_cs → lv_has ls 8 [(3, .int (Int32.ofNat i)), (2, .ref (E.1 248)), (1, .ref (E.1 0)), (0, .ref b)] → W p l e room_1 (s.setDrawn d0) m #[Value.ref b] below meth c H locs cells slots Q (F0 m 570 ls []) := by
  intro σ H locs ls d0 hR hG hd0 hl
  have hx := X.1.1.1
  have hb := X.1.1.2.1
  have lay10 : lay 10 0 := lay10_0
  have lay11 : lay 11 248 := lay11_248
  refine lv_aload_n hx hb dL_law_570 rfl (lv_at hl 2 rfl) ?_
  obtain ⟨σ1, r, σ2, h1, h2, hR⟩ := hP σ hR
  have hM : bcall (M_X10_script σ 0) (fun a b => some (a, b)) = some (σ1, r) := by rw [h1]; rfl
  refine g_callV_i (nA := 0) (o := M_X10_script σ 0) (As := []) (cx_drawn d0 X.1) hG (lay10) rfl rfl (fun _ _ h => C_X10_script l E h (lay10)) mw784 mw785 mw786 mw51 (gw_ok mw787 rfl) (by decide +kernel) rfl ⟨(Nat.le_of_ble_eq_true rfl), (Nat.le_of_ble_eq_true rfl)⟩ hl.1 rfl (Nat.le_of_ble_eq_true rfl) hcs dL_law_571 hM (fun σ9 r9 H locs hG hM9 => ?_)
  cases hM9
  refine lv_aload_n hx hb dL_law_574 rfl (lv_at hl 1 rfl) ?_
  have hM : bcall (M_X11_script σ1 248) (fun a b => some (a, b)) = some (σ2, r) := by rw [h2]; rfl
  refine g_callV_i (nA := 0) (o := M_X11_script σ1 248) (As := []) (cx_drawn d0 X.1) hG (lay11) rfl rfl (fun _ _ h => C_X11_script l E h (lay11)) mw1344 mw1345 mw1346 mw62 (gw_ok mw1347 rfl) (by decide +kernel) rfl ⟨(Nat.le_of_ble_eq_true rfl), (Nat.le_of_ble_eq_true rfl)⟩ hl.1 rfl (Nat.le_of_ble_eq_true rfl) hcs dL_law_575 hM (fun σ9 r9 H locs hG hM9 => ?_)
  cases hM9
  refine lv_icmp_eq (tgt := 1181) hx hb dL_law_578 (by decide) (fun _ => ?_) (fun c => absurd rfl c)
  exact next _ _ _ _ d0 hR hG hd0 hl
set_option maxRecDepth 20000 in
set_option maxHeartbeats 4000000 in
theorem lc_15 {Rel : St → Prop} {p : Program} {l : Launch} {e : Env} {s : State} {m : MethodId} {below : List Frame} {meth : Method} {c : Code} {b L i : Nat} {xs : Nat → Int32} {E : Ev} {cells slots : Nat} {Q : State → Prop} (hcs : cells + 0 ≤ room_1.cells ∧ slots + 0 ≤ room_1.slots) (X : LX E p m c s b L i xs) (hP : ∀ (σ : St), Rel σ → ∃ (σ1 : St) (r : Int32) (σ2 : St), M_X10_fault σ 0  = some (σ1, r) ∧ M_X11_fault σ1 248  = some (σ2, r) ∧ Rel σ2) (next : ∀ (σ : St) (H : Heap) (locs : List Loc) (ls : Array Slot) (d0 : Drawn), Rel σ → GS E σ s.heap H locs → s.drawn.sameBut d0 lw_cs → lv_has ls 8 [(3, .int (Int32.ofNat i)), (2, .ref (E.1 248)), (1, .ref (E.1 0)), (0, .ref b)] → W p l e room_1 (s.setDrawn d0) m #[Value.ref b] below meth c H locs cells slots Q (F0 m 1181 ls [])) : ∀ (σ : St) (H : Heap) (locs : List Loc) (ls : Array Slot) (d0 : Drawn), Rel σ → GS E σ s.heap H locs → s.drawn.sameBut d0 lw_cs → lv_has ls 8 [(3, .int (Int32.ofNat i)), (2, .ref (E.1 248)), (1, .ref (E.1 0)), (0, .ref b)] → W p l e room_1 (s.setDrawn d0) m #[Value.ref b] below meth c H locs cells slots Q (F0 m 583 ls []) := by
  intro σ H locs ls d0 hR hG hd0 hl
  have hx := X.1.1.1
  have hb := X.1.1.2.1
  have lay10 : lay 10 0 := lay10_0
  have lay11 : lay 11 248 := lay11_248
  refine lv_aload_n hx hb dL_law_583 rfl (lv_at hl 2 rfl) ?_
  obtain ⟨σ1, r, σ2, h1, h2, hR⟩ := hP σ hR
  have hM : bcall (M_X10_fault σ 0) (fun a b => some (a, b)) = some (σ1, r) := by rw [h1]; rfl
  refine g_callV_i (nA := 0) (o := M_X10_fault σ 0) (As := []) (cx_drawn d0 X.1) hG (lay10) rfl rfl (fun _ _ h => C_X10_fault l E h (lay10)) mw899 mw900 mw901 mw51 (gw_ok mw902 rfl) (by decide +kernel) rfl ⟨(Nat.le_of_ble_eq_true rfl), (Nat.le_of_ble_eq_true rfl)⟩ hl.1 rfl (Nat.le_of_ble_eq_true rfl) hcs dL_law_584 hM (fun σ9 r9 H locs hG hM9 => ?_)
  cases hM9
  refine lv_aload_n hx hb dL_law_587 rfl (lv_at hl 1 rfl) ?_
  have hM : bcall (M_X11_fault σ1 248) (fun a b => some (a, b)) = some (σ2, r) := by rw [h2]; rfl
  refine g_callV_i (nA := 0) (o := M_X11_fault σ1 248) (As := []) (cx_drawn d0 X.1) hG (lay11) rfl rfl (fun _ _ h => C_X11_fault l E h (lay11)) mw1368 mw1369 mw1370 mw62 (gw_ok mw1371 rfl) (by decide +kernel) rfl ⟨(Nat.le_of_ble_eq_true rfl), (Nat.le_of_ble_eq_true rfl)⟩ hl.1 rfl (Nat.le_of_ble_eq_true rfl) hcs dL_law_588 hM (fun σ9 r9 H locs hG hM9 => ?_)
  cases hM9
  refine lv_icmp_eq (tgt := 1181) hx hb dL_law_591 (by decide) (fun _ => ?_) (fun c => absurd rfl c)
  exact next _ _ _ _ d0 hR hG hd0 hl
set_option maxRecDepth 20000 in
set_option maxHeartbeats 4000000 in
theorem lc_16 {Rel : St → Prop} {p : Program} {l : Launch} {e : Env} {s : State} {m : MethodId} {below : List Frame} {meth : Method} {c : Code} {b L i : Nat} {xs : Nat → Int32} {E : Ev} {cells slots : Nat} {Q : State → Prop} (hcs : cells + 0 ≤ room_1.cells ∧ slots + 0 ≤ room_1.slots) (X : LX E p m c s b L i xs) (hP : ∀ (σ : St) (v0 v1 : Int32), okZ v1 = true → Rel σ → ∃ (σ1 : St) (r : Int32) (σ2 : St), M_X10_reason σ 0 v0 v1 = some (σ1, r) ∧ M_X11_reason σ1 248 v0 v1 = some (σ2, r) ∧ Rel σ2) (next : ∀ (σ : St) (H : Heap) (locs : List Loc) (ls : Array Slot) (d0 : Drawn), Rel σ → GS E σ s.heap H locs → s.drawn.sameBut d0 lw_cs → lv_has ls 8 [(3, .int (Int32.ofNat i)), (2, .ref (E.1 248)), (1, .ref (E.1 0)), (0, .ref b)] → W p l e room_1 (s.setDrawn d0) m #[Value.ref b] below meth c H locs cells slots Q (F0 m 1181 ls [])) : ∀ (σ : St) (H : Heap) (locs : List Loc) (ls : Array Slot) (d0 : Drawn), Rel σ → GS E σ s.heap H locs → s.drawn.sameBut d0 lw_cs → lv_has ls 8 [(3, .int (Int32.ofNat i)), (2, .ref (E.1 248)), (1, .ref (E.1 0)), (0, .ref b)] → W p l e room_1 (s.setDrawn d0) m #[Value.ref b] below meth c H locs cells slots Q (F0 m 596 ls []) := by
  intro σ H locs ls d0 hR hG hd0 hl
  have hx := X.1.1.1
  have hb := X.1.1.2.1
  have lay10 : lay 10 0 := lay10_0
  have lay11 : lay 11 248 := lay11_248
  by_cases hv : xs (i + 2) = 0
  · refine lv_aload_n hx hb dL_law_596 rfl (lv_at hl 2 rfl) ?_
    refine lv_aload_n hx hb dL_law_597 rfl (lv_at hl 3 rfl) ?_
    refine lv_iload_n hx hb dL_law_598 rfl (lv_at hl 0 rfl) ?_
    refine lv_iconst (v := (1 : Int32)) hx hb dL_law_599 (by decide) ?_
    refine lv_iadd hx hb dL_law_600 ?_
    refine lx_ld X hG 1 (by decide) (of_add i 1) dL_law_601 ?_
    refine lv_aload_n hx hb dL_law_602 rfl (lv_at hl 3 rfl) ?_
    refine lv_iload_n hx hb dL_law_603 rfl (lv_at hl 0 rfl) ?_
    refine lv_iconst (v := (2 : Int32)) hx hb dL_law_604 (by decide) ?_
    refine lv_iadd hx hb dL_law_605 ?_
    refine lx_ld X hG 2 (by decide) (of_add i 2) dL_law_606 ?_
    refine lv_if_eq (tgt := 614) hx hb dL_law_607 (by decide) (fun _ => ?_) (fun c => absurd hv c)
    refine lv_iconst (v := (0 : Int32)) hx hb dL_law_614 (by decide) ?_
    obtain ⟨σ1, r, σ2, h1, h2, hR⟩ := hP σ (xs (i + 1)) (0 : Int32) (by decide) hR
    have hM : bcall (M_X10_reason σ 0 (xs (i + 1)) (0 : Int32)) (fun a b => some (a, b)) = some (σ1, r) := by rw [h1]; rfl
    refine g_callV_i (nA := 2) (o := M_X10_reason σ 0 (xs (i + 1)) (0 : Int32)) (As := [.int (xs (i + 1)), .int (0 : Int32)]) (cx_drawn d0 X.1) hG (lay10) rfl rfl (fun _ _ h => C_X10_reason l E h (lay10)) mw903 mw904 mw905 mw51 (gw_ok mw906 rfl) (by decide +kernel) rfl ⟨(Nat.le_of_ble_eq_true rfl), (Nat.le_of_ble_eq_true rfl)⟩ hl.1 rfl (Nat.le_of_ble_eq_true rfl) hcs dL_law_615 hM (fun σ9 r9 H locs hG hM9 => ?_)
    cases hM9
    refine lv_aload_n hx hb dL_law_618 rfl (lv_at hl 1 rfl) ?_
    refine lv_aload_n hx hb dL_law_619 rfl (lv_at hl 3 rfl) ?_
    refine lv_iload_n hx hb dL_law_620 rfl (lv_at hl 0 rfl) ?_
    refine lv_iconst (v := (1 : Int32)) hx hb dL_law_621 (by decide) ?_
    refine lv_iadd hx hb dL_law_622 ?_
    refine lx_ld X hG 1 (by decide) (of_add i 1) dL_law_623 ?_
    refine lv_aload_n hx hb dL_law_624 rfl (lv_at hl 3 rfl) ?_
    refine lv_iload_n hx hb dL_law_625 rfl (lv_at hl 0 rfl) ?_
    refine lv_iconst (v := (2 : Int32)) hx hb dL_law_626 (by decide) ?_
    refine lv_iadd hx hb dL_law_627 ?_
    refine lx_ld X hG 2 (by decide) (of_add i 2) dL_law_628 ?_
    refine lv_if_eq (tgt := 636) hx hb dL_law_629 (by decide) (fun _ => ?_) (fun c => absurd hv c)
    refine lv_iconst (v := (0 : Int32)) hx hb dL_law_636 (by decide) ?_
    have hM : bcall (M_X11_reason σ1 248 (xs (i + 1)) (0 : Int32)) (fun a b => some (a, b)) = some (σ2, r) := by rw [h2]; rfl
    refine g_callV_i (nA := 2) (o := M_X11_reason σ1 248 (xs (i + 1)) (0 : Int32)) (As := [.int (xs (i + 1)), .int (0 : Int32)]) (cx_drawn d0 X.1) hG (lay11) rfl rfl (fun _ _ h => C_X11_reason l E h (lay11)) mw1372 mw1373 mw1374 mw62 (gw_ok mw1375 rfl) (by decide +kernel) rfl ⟨(Nat.le_of_ble_eq_true rfl), (Nat.le_of_ble_eq_true rfl)⟩ hl.1 rfl (Nat.le_of_ble_eq_true rfl) hcs dL_law_637 hM (fun σ9 r9 H locs hG hM9 => ?_)
    cases hM9
    refine lv_icmp_eq (tgt := 1181) hx hb dL_law_640 (by decide) (fun _ => ?_) (fun c => absurd rfl c)
    exact next _ _ _ _ d0 hR hG hd0 hl
  · refine lv_aload_n hx hb dL_law_596 rfl (lv_at hl 2 rfl) ?_
    refine lv_aload_n hx hb dL_law_597 rfl (lv_at hl 3 rfl) ?_
    refine lv_iload_n hx hb dL_law_598 rfl (lv_at hl 0 rfl) ?_
    refine lv_iconst (v := (1 : Int32)) hx hb dL_law_599 (by decide) ?_
    refine lv_iadd hx hb dL_law_600 ?_
    refine lx_ld X hG 1 (by decide) (of_add i 1) dL_law_601 ?_
    refine lv_aload_n hx hb dL_law_602 rfl (lv_at hl 3 rfl) ?_
    refine lv_iload_n hx hb dL_law_603 rfl (lv_at hl 0 rfl) ?_
    refine lv_iconst (v := (2 : Int32)) hx hb dL_law_604 (by decide) ?_
    refine lv_iadd hx hb dL_law_605 ?_
    refine lx_ld X hG 2 (by decide) (of_add i 2) dL_law_606 ?_
    refine lv_if_eq (tgt := 614) hx hb dL_law_607 (by decide) (fun c => absurd c hv) (fun _ => ?_)
    refine lv_iconst (v := (1 : Int32)) hx hb dL_law_610 (by decide) ?_
    refine lv_goto (tgt := 615) hx hb dL_law_611 (by decide) ?_
    obtain ⟨σ1, r, σ2, h1, h2, hR⟩ := hP σ (xs (i + 1)) (1 : Int32) (by decide) hR
    have hM : bcall (M_X10_reason σ 0 (xs (i + 1)) (1 : Int32)) (fun a b => some (a, b)) = some (σ1, r) := by rw [h1]; rfl
    refine g_callV_i (nA := 2) (o := M_X10_reason σ 0 (xs (i + 1)) (1 : Int32)) (As := [.int (xs (i + 1)), .int (1 : Int32)]) (cx_drawn d0 X.1) hG (lay10) rfl rfl (fun _ _ h => C_X10_reason l E h (lay10)) mw903 mw904 mw905 mw51 (gw_ok mw906 rfl) (by decide +kernel) rfl ⟨(Nat.le_of_ble_eq_true rfl), (Nat.le_of_ble_eq_true rfl)⟩ hl.1 rfl (Nat.le_of_ble_eq_true rfl) hcs dL_law_615 hM (fun σ9 r9 H locs hG hM9 => ?_)
    cases hM9
    refine lv_aload_n hx hb dL_law_618 rfl (lv_at hl 1 rfl) ?_
    refine lv_aload_n hx hb dL_law_619 rfl (lv_at hl 3 rfl) ?_
    refine lv_iload_n hx hb dL_law_620 rfl (lv_at hl 0 rfl) ?_
    refine lv_iconst (v := (1 : Int32)) hx hb dL_law_621 (by decide) ?_
    refine lv_iadd hx hb dL_law_622 ?_
    refine lx_ld X hG 1 (by decide) (of_add i 1) dL_law_623 ?_
    refine lv_aload_n hx hb dL_law_624 rfl (lv_at hl 3 rfl) ?_
    refine lv_iload_n hx hb dL_law_625 rfl (lv_at hl 0 rfl) ?_
    refine lv_iconst (v := (2 : Int32)) hx hb dL_law_626 (by decide) ?_
    refine lv_iadd hx hb dL_law_627 ?_
    refine lx_ld X hG 2 (by decide) (of_add i 2) dL_law_628 ?_
    refine lv_if_eq (tgt := 636) hx hb dL_law_629 (by decide) (fun c => absurd c hv) (fun _ => ?_)
    refine lv_iconst (v := (1 : Int32)) hx hb dL_law_632 (by decide) ?_
    refine lv_goto (tgt := 637) hx hb dL_law_633 (by decide) ?_
    have hM : bcall (M_X11_reason σ1 248 (xs (i + 1)) (1 : Int32)) (fun a b => some (a, b)) = some (σ2, r) := by rw [h2]; rfl
    refine g_callV_i (nA := 2) (o := M_X11_reason σ1 248 (xs (i + 1)) (1 : Int32)) (As := [.int (xs (i + 1)), .int (1 : Int32)]) (cx_drawn d0 X.1) hG (lay11) rfl rfl (fun _ _ h => C_X11_reason l E h (lay11)) mw1372 mw1373 mw1374 mw62 (gw_ok mw1375 rfl) (by decide +kernel) rfl ⟨(Nat.le_of_ble_eq_true rfl), (Nat.le_of_ble_eq_true rfl)⟩ hl.1 rfl (Nat.le_of_ble_eq_true rfl) hcs dL_law_637 hM (fun σ9 r9 H locs hG hM9 => ?_)
    cases hM9
    refine lv_icmp_eq (tgt := 1181) hx hb dL_law_640 (by decide) (fun _ => ?_) (fun c => absurd rfl c)
    exact next _ _ _ _ d0 hR hG hd0 hl
set_option maxRecDepth 20000 in
set_option maxHeartbeats 4000000 in
theorem lc_17 {Rel : St → Prop} {p : Program} {l : Launch} {e : Env} {s : State} {m : MethodId} {below : List Frame} {meth : Method} {c : Code} {b L i : Nat} {xs : Nat → Int32} {E : Ev} {cells slots : Nat} {Q : State → Prop} (hcs : cells + 0 ≤ room_1.cells ∧ slots + 0 ≤ room_1.slots) (X : LX E p m c s b L i xs) (hP : ∀ (σ : St) (v0 v1 : Int32), okZ v1 = true → Rel σ → ∃ (σ1 : St) (r : Int32) (σ2 : St), M_X10_bundleOf σ 0 v0 v1 = some (σ1, r) ∧ M_X11_bundleOf σ1 248 v0 v1 = some (σ2, r) ∧ Rel σ2) (next : ∀ (σ : St) (H : Heap) (locs : List Loc) (ls : Array Slot) (d0 : Drawn), Rel σ → GS E σ s.heap H locs → s.drawn.sameBut d0 lw_cs → lv_has ls 8 [(3, .int (Int32.ofNat i)), (2, .ref (E.1 248)), (1, .ref (E.1 0)), (0, .ref b)] → W p l e room_1 (s.setDrawn d0) m #[Value.ref b] below meth c H locs cells slots Q (F0 m 1181 ls [])) : ∀ (σ : St) (H : Heap) (locs : List Loc) (ls : Array Slot) (d0 : Drawn), Rel σ → GS E σ s.heap H locs → s.drawn.sameBut d0 lw_cs → lv_has ls 8 [(3, .int (Int32.ofNat i)), (2, .ref (E.1 248)), (1, .ref (E.1 0)), (0, .ref b)] → W p l e room_1 (s.setDrawn d0) m #[Value.ref b] below meth c H locs cells slots Q (F0 m 645 ls []) := by
  intro σ H locs ls d0 hR hG hd0 hl
  have hx := X.1.1.1
  have hb := X.1.1.2.1
  have lay10 : lay 10 0 := lay10_0
  have lay11 : lay 11 248 := lay11_248
  by_cases hv : xs (i + 2) = 0
  · refine lv_aload_n hx hb dL_law_645 rfl (lv_at hl 2 rfl) ?_
    refine lv_aload_n hx hb dL_law_646 rfl (lv_at hl 3 rfl) ?_
    refine lv_iload_n hx hb dL_law_647 rfl (lv_at hl 0 rfl) ?_
    refine lv_iconst (v := (1 : Int32)) hx hb dL_law_648 (by decide) ?_
    refine lv_iadd hx hb dL_law_649 ?_
    refine lx_ld X hG 1 (by decide) (of_add i 1) dL_law_650 ?_
    refine lv_aload_n hx hb dL_law_651 rfl (lv_at hl 3 rfl) ?_
    refine lv_iload_n hx hb dL_law_652 rfl (lv_at hl 0 rfl) ?_
    refine lv_iconst (v := (2 : Int32)) hx hb dL_law_653 (by decide) ?_
    refine lv_iadd hx hb dL_law_654 ?_
    refine lx_ld X hG 2 (by decide) (of_add i 2) dL_law_655 ?_
    refine lv_if_eq (tgt := 663) hx hb dL_law_656 (by decide) (fun _ => ?_) (fun c => absurd hv c)
    refine lv_iconst (v := (0 : Int32)) hx hb dL_law_663 (by decide) ?_
    obtain ⟨σ1, r, σ2, h1, h2, hR⟩ := hP σ (xs (i + 1)) (0 : Int32) (by decide) hR
    have hM : bcall (M_X10_bundleOf σ 0 (xs (i + 1)) (0 : Int32)) (fun a b => some (a, b)) = some (σ1, r) := by rw [h1]; rfl
    refine g_callV_i (nA := 2) (o := M_X10_bundleOf σ 0 (xs (i + 1)) (0 : Int32)) (As := [.int (xs (i + 1)), .int (0 : Int32)]) (cx_drawn d0 X.1) hG (lay10) rfl rfl (fun _ _ h => C_X10_bundleOf l E h (lay10)) mw911 mw912 mw913 mw51 (gw_ok mw914 rfl) (by decide +kernel) rfl ⟨(Nat.le_of_ble_eq_true rfl), (Nat.le_of_ble_eq_true rfl)⟩ hl.1 rfl (Nat.le_of_ble_eq_true rfl) hcs dL_law_664 hM (fun σ9 r9 H locs hG hM9 => ?_)
    cases hM9
    refine lv_aload_n hx hb dL_law_667 rfl (lv_at hl 1 rfl) ?_
    refine lv_aload_n hx hb dL_law_668 rfl (lv_at hl 3 rfl) ?_
    refine lv_iload_n hx hb dL_law_669 rfl (lv_at hl 0 rfl) ?_
    refine lv_iconst (v := (1 : Int32)) hx hb dL_law_670 (by decide) ?_
    refine lv_iadd hx hb dL_law_671 ?_
    refine lx_ld X hG 1 (by decide) (of_add i 1) dL_law_672 ?_
    refine lv_aload_n hx hb dL_law_673 rfl (lv_at hl 3 rfl) ?_
    refine lv_iload_n hx hb dL_law_674 rfl (lv_at hl 0 rfl) ?_
    refine lv_iconst (v := (2 : Int32)) hx hb dL_law_675 (by decide) ?_
    refine lv_iadd hx hb dL_law_676 ?_
    refine lx_ld X hG 2 (by decide) (of_add i 2) dL_law_677 ?_
    refine lv_if_eq (tgt := 685) hx hb dL_law_678 (by decide) (fun _ => ?_) (fun c => absurd hv c)
    refine lv_iconst (v := (0 : Int32)) hx hb dL_law_685 (by decide) ?_
    have hM : bcall (M_X11_bundleOf σ1 248 (xs (i + 1)) (0 : Int32)) (fun a b => some (a, b)) = some (σ2, r) := by rw [h2]; rfl
    refine g_callV_i (nA := 2) (o := M_X11_bundleOf σ1 248 (xs (i + 1)) (0 : Int32)) (As := [.int (xs (i + 1)), .int (0 : Int32)]) (cx_drawn d0 X.1) hG (lay11) rfl rfl (fun _ _ h => C_X11_bundleOf l E h (lay11)) mw1376 mw1377 mw1378 mw62 (gw_ok mw1379 rfl) (by decide +kernel) rfl ⟨(Nat.le_of_ble_eq_true rfl), (Nat.le_of_ble_eq_true rfl)⟩ hl.1 rfl (Nat.le_of_ble_eq_true rfl) hcs dL_law_686 hM (fun σ9 r9 H locs hG hM9 => ?_)
    cases hM9
    refine lv_icmp_eq (tgt := 1181) hx hb dL_law_689 (by decide) (fun _ => ?_) (fun c => absurd rfl c)
    exact next _ _ _ _ d0 hR hG hd0 hl
  · refine lv_aload_n hx hb dL_law_645 rfl (lv_at hl 2 rfl) ?_
    refine lv_aload_n hx hb dL_law_646 rfl (lv_at hl 3 rfl) ?_
    refine lv_iload_n hx hb dL_law_647 rfl (lv_at hl 0 rfl) ?_
    refine lv_iconst (v := (1 : Int32)) hx hb dL_law_648 (by decide) ?_
    refine lv_iadd hx hb dL_law_649 ?_
    refine lx_ld X hG 1 (by decide) (of_add i 1) dL_law_650 ?_
    refine lv_aload_n hx hb dL_law_651 rfl (lv_at hl 3 rfl) ?_
    refine lv_iload_n hx hb dL_law_652 rfl (lv_at hl 0 rfl) ?_
    refine lv_iconst (v := (2 : Int32)) hx hb dL_law_653 (by decide) ?_
    refine lv_iadd hx hb dL_law_654 ?_
    refine lx_ld X hG 2 (by decide) (of_add i 2) dL_law_655 ?_
    refine lv_if_eq (tgt := 663) hx hb dL_law_656 (by decide) (fun c => absurd c hv) (fun _ => ?_)
    refine lv_iconst (v := (1 : Int32)) hx hb dL_law_659 (by decide) ?_
    refine lv_goto (tgt := 664) hx hb dL_law_660 (by decide) ?_
    obtain ⟨σ1, r, σ2, h1, h2, hR⟩ := hP σ (xs (i + 1)) (1 : Int32) (by decide) hR
    have hM : bcall (M_X10_bundleOf σ 0 (xs (i + 1)) (1 : Int32)) (fun a b => some (a, b)) = some (σ1, r) := by rw [h1]; rfl
    refine g_callV_i (nA := 2) (o := M_X10_bundleOf σ 0 (xs (i + 1)) (1 : Int32)) (As := [.int (xs (i + 1)), .int (1 : Int32)]) (cx_drawn d0 X.1) hG (lay10) rfl rfl (fun _ _ h => C_X10_bundleOf l E h (lay10)) mw911 mw912 mw913 mw51 (gw_ok mw914 rfl) (by decide +kernel) rfl ⟨(Nat.le_of_ble_eq_true rfl), (Nat.le_of_ble_eq_true rfl)⟩ hl.1 rfl (Nat.le_of_ble_eq_true rfl) hcs dL_law_664 hM (fun σ9 r9 H locs hG hM9 => ?_)
    cases hM9
    refine lv_aload_n hx hb dL_law_667 rfl (lv_at hl 1 rfl) ?_
    refine lv_aload_n hx hb dL_law_668 rfl (lv_at hl 3 rfl) ?_
    refine lv_iload_n hx hb dL_law_669 rfl (lv_at hl 0 rfl) ?_
    refine lv_iconst (v := (1 : Int32)) hx hb dL_law_670 (by decide) ?_
    refine lv_iadd hx hb dL_law_671 ?_
    refine lx_ld X hG 1 (by decide) (of_add i 1) dL_law_672 ?_
    refine lv_aload_n hx hb dL_law_673 rfl (lv_at hl 3 rfl) ?_
    refine lv_iload_n hx hb dL_law_674 rfl (lv_at hl 0 rfl) ?_
    refine lv_iconst (v := (2 : Int32)) hx hb dL_law_675 (by decide) ?_
    refine lv_iadd hx hb dL_law_676 ?_
    refine lx_ld X hG 2 (by decide) (of_add i 2) dL_law_677 ?_
    refine lv_if_eq (tgt := 685) hx hb dL_law_678 (by decide) (fun c => absurd c hv) (fun _ => ?_)
    refine lv_iconst (v := (1 : Int32)) hx hb dL_law_681 (by decide) ?_
    refine lv_goto (tgt := 686) hx hb dL_law_682 (by decide) ?_
    have hM : bcall (M_X11_bundleOf σ1 248 (xs (i + 1)) (1 : Int32)) (fun a b => some (a, b)) = some (σ2, r) := by rw [h2]; rfl
    refine g_callV_i (nA := 2) (o := M_X11_bundleOf σ1 248 (xs (i + 1)) (1 : Int32)) (As := [.int (xs (i + 1)), .int (1 : Int32)]) (cx_drawn d0 X.1) hG (lay11) rfl rfl (fun _ _ h => C_X11_bundleOf l E h (lay11)) mw1376 mw1377 mw1378 mw62 (gw_ok mw1379 rfl) (by decide +kernel) rfl ⟨(Nat.le_of_ble_eq_true rfl), (Nat.le_of_ble_eq_true rfl)⟩ hl.1 rfl (Nat.le_of_ble_eq_true rfl) hcs dL_law_686 hM (fun σ9 r9 H locs hG hM9 => ?_)
    cases hM9
    refine lv_icmp_eq (tgt := 1181) hx hb dL_law_689 (by decide) (fun _ => ?_) (fun c => absurd rfl c)
    exact next _ _ _ _ d0 hR hG hd0 hl
set_option maxRecDepth 20000 in
set_option maxHeartbeats 4000000 in
theorem lc_18 {Rel : St → Prop} {p : Program} {l : Launch} {e : Env} {s : State} {m : MethodId} {below : List Frame} {meth : Method} {c : Code} {b L i : Nat} {xs : Nat → Int32} {E : Ev} {cells slots : Nat} {Q : State → Prop} (hcs : cells + 0 ≤ room_1.cells ∧ slots + 0 ≤ room_1.slots) (X : LX E p m c s b L i xs) (hP : ∀ (σ : St) (v0 v1 : Int32), Rel σ → ∃ (σ1 : St) (r : Int32) (σ2 : St), M_X10_storeyOf σ 0 v0 v1 = some (σ1, r) ∧ M_X11_storeyOf σ1 248 v0 v1 = some (σ2, r) ∧ Rel σ2) (next : ∀ (σ : St) (H : Heap) (locs : List Loc) (ls : Array Slot) (d0 : Drawn), Rel σ → GS E σ s.heap H locs → s.drawn.sameBut d0 lw_cs → lv_has ls 8 [(3, .int (Int32.ofNat i)), (2, .ref (E.1 248)), (1, .ref (E.1 0)), (0, .ref b)] → W p l e room_1 (s.setDrawn d0) m #[Value.ref b] below meth c H locs cells slots Q (F0 m 1181 ls [])) : ∀ (σ : St) (H : Heap) (locs : List Loc) (ls : Array Slot) (d0 : Drawn), Rel σ → GS E σ s.heap H locs → s.drawn.sameBut d0 lw_cs → lv_has ls 8 [(3, .int (Int32.ofNat i)), (2, .ref (E.1 248)), (1, .ref (E.1 0)), (0, .ref b)] → W p l e room_1 (s.setDrawn d0) m #[Value.ref b] below meth c H locs cells slots Q (F0 m 694 ls []) := by
  intro σ H locs ls d0 hR hG hd0 hl
  have hx := X.1.1.1
  have hb := X.1.1.2.1
  have lay10 : lay 10 0 := lay10_0
  have lay11 : lay 11 248 := lay11_248
  refine lv_aload_n hx hb dL_law_694 rfl (lv_at hl 2 rfl) ?_
  refine lv_aload_n hx hb dL_law_695 rfl (lv_at hl 3 rfl) ?_
  refine lv_iload_n hx hb dL_law_696 rfl (lv_at hl 0 rfl) ?_
  refine lv_iconst (v := (1 : Int32)) hx hb dL_law_697 (by decide) ?_
  refine lv_iadd hx hb dL_law_698 ?_
  refine lx_ld X hG 1 (by decide) (of_add i 1) dL_law_699 ?_
  refine lv_aload_n hx hb dL_law_700 rfl (lv_at hl 3 rfl) ?_
  refine lv_iload_n hx hb dL_law_701 rfl (lv_at hl 0 rfl) ?_
  refine lv_iconst (v := (2 : Int32)) hx hb dL_law_702 (by decide) ?_
  refine lv_iadd hx hb dL_law_703 ?_
  refine lx_ld X hG 2 (by decide) (of_add i 2) dL_law_704 ?_
  obtain ⟨σ1, r, σ2, h1, h2, hR⟩ := hP σ (xs (i + 1)) (xs (i + 2)) hR
  have hM : bcall (M_X10_storeyOf σ 0 (xs (i + 1)) (xs (i + 2))) (fun a b => some (a, b)) = some (σ1, r) := by rw [h1]; rfl
  refine g_callV_i (nA := 2) (o := M_X10_storeyOf σ 0 (xs (i + 1)) (xs (i + 2))) (As := [.int (xs (i + 1)), .int (xs (i + 2))]) (cx_drawn d0 X.1) hG (lay10) rfl rfl (fun _ _ h => C_X10_storeyOf l E h (lay10)) mw918 mw919 mw920 mw51 (gw_ok mw921 rfl) (by decide +kernel) rfl ⟨(Nat.le_of_ble_eq_true rfl), (Nat.le_of_ble_eq_true rfl)⟩ hl.1 rfl (Nat.le_of_ble_eq_true rfl) hcs dL_law_705 hM (fun σ9 r9 H locs hG hM9 => ?_)
  cases hM9
  refine lv_aload_n hx hb dL_law_708 rfl (lv_at hl 1 rfl) ?_
  refine lv_aload_n hx hb dL_law_709 rfl (lv_at hl 3 rfl) ?_
  refine lv_iload_n hx hb dL_law_710 rfl (lv_at hl 0 rfl) ?_
  refine lv_iconst (v := (1 : Int32)) hx hb dL_law_711 (by decide) ?_
  refine lv_iadd hx hb dL_law_712 ?_
  refine lx_ld X hG 1 (by decide) (of_add i 1) dL_law_713 ?_
  refine lv_aload_n hx hb dL_law_714 rfl (lv_at hl 3 rfl) ?_
  refine lv_iload_n hx hb dL_law_715 rfl (lv_at hl 0 rfl) ?_
  refine lv_iconst (v := (2 : Int32)) hx hb dL_law_716 (by decide) ?_
  refine lv_iadd hx hb dL_law_717 ?_
  refine lx_ld X hG 2 (by decide) (of_add i 2) dL_law_718 ?_
  have hM : bcall (M_X11_storeyOf σ1 248 (xs (i + 1)) (xs (i + 2))) (fun a b => some (a, b)) = some (σ2, r) := by rw [h2]; rfl
  refine g_callV_i (nA := 2) (o := M_X11_storeyOf σ1 248 (xs (i + 1)) (xs (i + 2))) (As := [.int (xs (i + 1)), .int (xs (i + 2))]) (cx_drawn d0 X.1) hG (lay11) rfl rfl (fun _ _ h => C_X11_storeyOf l E h (lay11)) mw1380 mw1381 mw1382 mw62 (gw_ok mw1383 rfl) (by decide +kernel) rfl ⟨(Nat.le_of_ble_eq_true rfl), (Nat.le_of_ble_eq_true rfl)⟩ hl.1 rfl (Nat.le_of_ble_eq_true rfl) hcs dL_law_719 hM (fun σ9 r9 H locs hG hM9 => ?_)
  cases hM9
  refine lv_icmp_eq (tgt := 1181) hx hb dL_law_722 (by decide) (fun _ => ?_) (fun c => absurd rfl c)
  exact next _ _ _ _ d0 hR hG hd0 hl
set_option maxRecDepth 20000 in
set_option maxHeartbeats 4000000 in
theorem lc_19 {Rel : St → Prop} {p : Program} {l : Launch} {e : Env} {s : State} {m : MethodId} {below : List Frame} {meth : Method} {c : Code} {b L i : Nat} {xs : Nat → Int32} {E : Ev} {cells slots : Nat} {Q : State → Prop} (hcs : cells + 0 ≤ room_1.cells ∧ slots + 0 ≤ room_1.slots) (X : LX E p m c s b L i xs) (hP : ∀ (σ : St) (v0 v1 : Int32), okZ v1 = true → Rel σ → ∃ (σ1 : St) (r : Int32) (σ2 : St), M_X10_strength σ 0 v0 v1 = some (σ1, r) ∧ M_X11_strength σ1 248 v0 v1 = some (σ2, r) ∧ Rel σ2) (next : ∀ (σ : St) (H : Heap) (locs : List Loc) (ls : Array Slot) (d0 : Drawn), Rel σ → GS E σ s.heap H locs → s.drawn.sameBut d0 lw_cs → lv_has ls 8 [(3, .int (Int32.ofNat i)), (2, .ref (E.1 248)), (1, .ref (E.1 0)), (0, .ref b)] → W p l e room_1 (s.setDrawn d0) m #[Value.ref b] below meth c H locs cells slots Q (F0 m 1181 ls [])) : ∀ (σ : St) (H : Heap) (locs : List Loc) (ls : Array Slot) (d0 : Drawn), Rel σ → GS E σ s.heap H locs → s.drawn.sameBut d0 lw_cs → lv_has ls 8 [(3, .int (Int32.ofNat i)), (2, .ref (E.1 248)), (1, .ref (E.1 0)), (0, .ref b)] → W p l e room_1 (s.setDrawn d0) m #[Value.ref b] below meth c H locs cells slots Q (F0 m 727 ls []) := by
  intro σ H locs ls d0 hR hG hd0 hl
  have hx := X.1.1.1
  have hb := X.1.1.2.1
  have lay10 : lay 10 0 := lay10_0
  have lay11 : lay 11 248 := lay11_248
  by_cases hv : xs (i + 2) = 0
  · refine lv_aload_n hx hb dL_law_727 rfl (lv_at hl 2 rfl) ?_
    refine lv_aload_n hx hb dL_law_728 rfl (lv_at hl 3 rfl) ?_
    refine lv_iload_n hx hb dL_law_729 rfl (lv_at hl 0 rfl) ?_
    refine lv_iconst (v := (1 : Int32)) hx hb dL_law_730 (by decide) ?_
    refine lv_iadd hx hb dL_law_731 ?_
    refine lx_ld X hG 1 (by decide) (of_add i 1) dL_law_732 ?_
    refine lv_aload_n hx hb dL_law_733 rfl (lv_at hl 3 rfl) ?_
    refine lv_iload_n hx hb dL_law_734 rfl (lv_at hl 0 rfl) ?_
    refine lv_iconst (v := (2 : Int32)) hx hb dL_law_735 (by decide) ?_
    refine lv_iadd hx hb dL_law_736 ?_
    refine lx_ld X hG 2 (by decide) (of_add i 2) dL_law_737 ?_
    refine lv_if_eq (tgt := 745) hx hb dL_law_738 (by decide) (fun _ => ?_) (fun c => absurd hv c)
    refine lv_iconst (v := (0 : Int32)) hx hb dL_law_745 (by decide) ?_
    obtain ⟨σ1, r, σ2, h1, h2, hR⟩ := hP σ (xs (i + 1)) (0 : Int32) (by decide) hR
    have hM : bcall (M_X10_strength σ 0 (xs (i + 1)) (0 : Int32)) (fun a b => some (a, b)) = some (σ1, r) := by rw [h1]; rfl
    refine g_callV_i (nA := 2) (o := M_X10_strength σ 0 (xs (i + 1)) (0 : Int32)) (As := [.int (xs (i + 1)), .int (0 : Int32)]) (cx_drawn d0 X.1) hG (lay10) rfl rfl (fun _ _ h => C_X10_strength l E h (lay10)) mw933 mw934 mw935 mw51 (gw_ok mw936 rfl) (by decide +kernel) rfl ⟨(Nat.le_of_ble_eq_true rfl), (Nat.le_of_ble_eq_true rfl)⟩ hl.1 rfl (Nat.le_of_ble_eq_true rfl) hcs dL_law_746 hM (fun σ9 r9 H locs hG hM9 => ?_)
    cases hM9
    refine lv_aload_n hx hb dL_law_749 rfl (lv_at hl 1 rfl) ?_
    refine lv_aload_n hx hb dL_law_750 rfl (lv_at hl 3 rfl) ?_
    refine lv_iload_n hx hb dL_law_751 rfl (lv_at hl 0 rfl) ?_
    refine lv_iconst (v := (1 : Int32)) hx hb dL_law_752 (by decide) ?_
    refine lv_iadd hx hb dL_law_753 ?_
    refine lx_ld X hG 1 (by decide) (of_add i 1) dL_law_754 ?_
    refine lv_aload_n hx hb dL_law_755 rfl (lv_at hl 3 rfl) ?_
    refine lv_iload_n hx hb dL_law_756 rfl (lv_at hl 0 rfl) ?_
    refine lv_iconst (v := (2 : Int32)) hx hb dL_law_757 (by decide) ?_
    refine lv_iadd hx hb dL_law_758 ?_
    refine lx_ld X hG 2 (by decide) (of_add i 2) dL_law_759 ?_
    refine lv_if_eq (tgt := 767) hx hb dL_law_760 (by decide) (fun _ => ?_) (fun c => absurd hv c)
    refine lv_iconst (v := (0 : Int32)) hx hb dL_law_767 (by decide) ?_
    have hM : bcall (M_X11_strength σ1 248 (xs (i + 1)) (0 : Int32)) (fun a b => some (a, b)) = some (σ2, r) := by rw [h2]; rfl
    refine g_callV_i (nA := 2) (o := M_X11_strength σ1 248 (xs (i + 1)) (0 : Int32)) (As := [.int (xs (i + 1)), .int (0 : Int32)]) (cx_drawn d0 X.1) hG (lay11) rfl rfl (fun _ _ h => C_X11_strength l E h (lay11)) mw1384 mw1385 mw1386 mw62 (gw_ok mw1387 rfl) (by decide +kernel) rfl ⟨(Nat.le_of_ble_eq_true rfl), (Nat.le_of_ble_eq_true rfl)⟩ hl.1 rfl (Nat.le_of_ble_eq_true rfl) hcs dL_law_768 hM (fun σ9 r9 H locs hG hM9 => ?_)
    cases hM9
    refine lv_icmp_eq (tgt := 1181) hx hb dL_law_771 (by decide) (fun _ => ?_) (fun c => absurd rfl c)
    exact next _ _ _ _ d0 hR hG hd0 hl
  · refine lv_aload_n hx hb dL_law_727 rfl (lv_at hl 2 rfl) ?_
    refine lv_aload_n hx hb dL_law_728 rfl (lv_at hl 3 rfl) ?_
    refine lv_iload_n hx hb dL_law_729 rfl (lv_at hl 0 rfl) ?_
    refine lv_iconst (v := (1 : Int32)) hx hb dL_law_730 (by decide) ?_
    refine lv_iadd hx hb dL_law_731 ?_
    refine lx_ld X hG 1 (by decide) (of_add i 1) dL_law_732 ?_
    refine lv_aload_n hx hb dL_law_733 rfl (lv_at hl 3 rfl) ?_
    refine lv_iload_n hx hb dL_law_734 rfl (lv_at hl 0 rfl) ?_
    refine lv_iconst (v := (2 : Int32)) hx hb dL_law_735 (by decide) ?_
    refine lv_iadd hx hb dL_law_736 ?_
    refine lx_ld X hG 2 (by decide) (of_add i 2) dL_law_737 ?_
    refine lv_if_eq (tgt := 745) hx hb dL_law_738 (by decide) (fun c => absurd c hv) (fun _ => ?_)
    refine lv_iconst (v := (1 : Int32)) hx hb dL_law_741 (by decide) ?_
    refine lv_goto (tgt := 746) hx hb dL_law_742 (by decide) ?_
    obtain ⟨σ1, r, σ2, h1, h2, hR⟩ := hP σ (xs (i + 1)) (1 : Int32) (by decide) hR
    have hM : bcall (M_X10_strength σ 0 (xs (i + 1)) (1 : Int32)) (fun a b => some (a, b)) = some (σ1, r) := by rw [h1]; rfl
    refine g_callV_i (nA := 2) (o := M_X10_strength σ 0 (xs (i + 1)) (1 : Int32)) (As := [.int (xs (i + 1)), .int (1 : Int32)]) (cx_drawn d0 X.1) hG (lay10) rfl rfl (fun _ _ h => C_X10_strength l E h (lay10)) mw933 mw934 mw935 mw51 (gw_ok mw936 rfl) (by decide +kernel) rfl ⟨(Nat.le_of_ble_eq_true rfl), (Nat.le_of_ble_eq_true rfl)⟩ hl.1 rfl (Nat.le_of_ble_eq_true rfl) hcs dL_law_746 hM (fun σ9 r9 H locs hG hM9 => ?_)
    cases hM9
    refine lv_aload_n hx hb dL_law_749 rfl (lv_at hl 1 rfl) ?_
    refine lv_aload_n hx hb dL_law_750 rfl (lv_at hl 3 rfl) ?_
    refine lv_iload_n hx hb dL_law_751 rfl (lv_at hl 0 rfl) ?_
    refine lv_iconst (v := (1 : Int32)) hx hb dL_law_752 (by decide) ?_
    refine lv_iadd hx hb dL_law_753 ?_
    refine lx_ld X hG 1 (by decide) (of_add i 1) dL_law_754 ?_
    refine lv_aload_n hx hb dL_law_755 rfl (lv_at hl 3 rfl) ?_
    refine lv_iload_n hx hb dL_law_756 rfl (lv_at hl 0 rfl) ?_
    refine lv_iconst (v := (2 : Int32)) hx hb dL_law_757 (by decide) ?_
    refine lv_iadd hx hb dL_law_758 ?_
    refine lx_ld X hG 2 (by decide) (of_add i 2) dL_law_759 ?_
    refine lv_if_eq (tgt := 767) hx hb dL_law_760 (by decide) (fun c => absurd c hv) (fun _ => ?_)
    refine lv_iconst (v := (1 : Int32)) hx hb dL_law_763 (by decide) ?_
    refine lv_goto (tgt := 768) hx hb dL_law_764 (by decide) ?_
    have hM : bcall (M_X11_strength σ1 248 (xs (i + 1)) (1 : Int32)) (fun a b => some (a, b)) = some (σ2, r) := by rw [h2]; rfl
    refine g_callV_i (nA := 2) (o := M_X11_strength σ1 248 (xs (i + 1)) (1 : Int32)) (As := [.int (xs (i + 1)), .int (1 : Int32)]) (cx_drawn d0 X.1) hG (lay11) rfl rfl (fun _ _ h => C_X11_strength l E h (lay11)) mw1384 mw1385 mw1386 mw62 (gw_ok mw1387 rfl) (by decide +kernel) rfl ⟨(Nat.le_of_ble_eq_true rfl), (Nat.le_of_ble_eq_true rfl)⟩ hl.1 rfl (Nat.le_of_ble_eq_true rfl) hcs dL_law_768 hM (fun σ9 r9 H locs hG hM9 => ?_)
    cases hM9
    refine lv_icmp_eq (tgt := 1181) hx hb dL_law_771 (by decide) (fun _ => ?_) (fun c => absurd rfl c)
    exact next _ _ _ _ d0 hR hG hd0 hl
set_option maxRecDepth 20000 in
set_option maxHeartbeats 4000000 in
theorem lc_20 {Rel : St → Prop} {p : Program} {l : Launch} {e : Env} {s : State} {m : MethodId} {below : List Frame} {meth : Method} {c : Code} {b L i : Nat} {xs : Nat → Int32} {E : Ev} {cells slots : Nat} {Q : State → Prop} (hcs : cells + 0 ≤ room_1.cells ∧ slots + 0 ≤ room_1.slots) (X : LX E p m c s b L i xs) (hP : ∀ (σ : St), Rel σ → ∃ (σ1 : St) (r : Int32) (σ2 : St), M_X10_weakest σ 0  = some (σ1, r) ∧ M_X11_weakest σ1 248  = some (σ2, r) ∧ Rel σ2) (next : ∀ (σ : St) (H : Heap) (locs : List Loc) (ls : Array Slot) (d0 : Drawn), Rel σ → GS E σ s.heap H locs → s.drawn.sameBut d0 lw_cs → lv_has ls 8 [(3, .int (Int32.ofNat i)), (2, .ref (E.1 248)), (1, .ref (E.1 0)), (0, .ref b)] → W p l e room_1 (s.setDrawn d0) m #[Value.ref b] below meth c H locs cells slots Q (F0 m 1181 ls [])) : ∀ (σ : St) (H : Heap) (locs : List Loc) (ls : Array Slot) (d0 : Drawn), Rel σ → GS E σ s.heap H locs → s.drawn.sameBut d0 lw_cs → lv_has ls 8 [(3, .int (Int32.ofNat i)), (2, .ref (E.1 248)), (1, .ref (E.1 0)), (0, .ref b)] → W p l e room_1 (s.setDrawn d0) m #[Value.ref b] below meth c H locs cells slots Q (F0 m 776 ls []) := by
  intro σ H locs ls d0 hR hG hd0 hl
  have hx := X.1.1.1
  have hb := X.1.1.2.1
  have lay10 : lay 10 0 := lay10_0
  have lay11 : lay 11 248 := lay11_248
  refine lv_aload_n hx hb dL_law_776 rfl (lv_at hl 2 rfl) ?_
  obtain ⟨σ1, r, σ2, h1, h2, hR⟩ := hP σ hR
  have hM : bcall (M_X10_weakest σ 0) (fun a b => some (a, b)) = some (σ1, r) := by rw [h1]; rfl
  refine g_callV_i (nA := 0) (o := M_X10_weakest σ 0) (As := []) (cx_drawn d0 X.1) hG (lay10) rfl rfl (fun _ _ h => C_X10_weakest l E h (lay10)) mw944 mw945 mw946 mw51 (gw_ok mw947 rfl) (by decide +kernel) rfl ⟨(Nat.le_of_ble_eq_true rfl), (Nat.le_of_ble_eq_true rfl)⟩ hl.1 rfl (Nat.le_of_ble_eq_true rfl) hcs dL_law_777 hM (fun σ9 r9 H locs hG hM9 => ?_)
  cases hM9
  refine lv_aload_n hx hb dL_law_780 rfl (lv_at hl 1 rfl) ?_
  have hM : bcall (M_X11_weakest σ1 248) (fun a b => some (a, b)) = some (σ2, r) := by rw [h2]; rfl
  refine g_callV_i (nA := 0) (o := M_X11_weakest σ1 248) (As := []) (cx_drawn d0 X.1) hG (lay11) rfl rfl (fun _ _ h => C_X11_weakest l E h (lay11)) mw1388 mw1389 mw1390 mw62 (gw_ok mw1391 rfl) (by decide +kernel) rfl ⟨(Nat.le_of_ble_eq_true rfl), (Nat.le_of_ble_eq_true rfl)⟩ hl.1 rfl (Nat.le_of_ble_eq_true rfl) hcs dL_law_781 hM (fun σ9 r9 H locs hG hM9 => ?_)
  cases hM9
  refine lv_icmp_eq (tgt := 1181) hx hb dL_law_784 (by decide) (fun _ => ?_) (fun c => absurd rfl c)
  exact next _ _ _ _ d0 hR hG hd0 hl
set_option maxRecDepth 20000 in
set_option maxHeartbeats 4000000 in
theorem lc_21 {Rel : St → Prop} {p : Program} {l : Launch} {e : Env} {s : State} {m : MethodId} {below : List Frame} {meth : Method} {c : Code} {b L i : Nat} {xs : Nat → Int32} {E : Ev} {cells slots : Nat} {Q : State → Prop} (hcs : cells + 0 ≤ room_1.cells ∧ slots + 0 ≤ room_1.slots) (X : LX E p m c s b L i xs) (hP : ∀ (σ : St) (v0 : Int32), Rel σ → ∃ (σ1 : St) (r : Int32) (σ2 : St), M_X10_oldest σ 0 v0 = some (σ1, r) ∧ M_X11_oldest σ1 248 v0 = some (σ2, r) ∧ Rel σ2) (next : ∀ (σ : St) (H : Heap) (locs : List Loc) (ls : Array Slot) (d0 : Drawn), Rel σ → GS E σ s.heap H locs → s.drawn.sameBut d0 lw_cs → lv_has ls 8 [(3, .int (Int32.ofNat i)), (2, .ref (E.1 248)), (1, .ref (E.1 0)), (0, .ref b)] → W p l e room_1 (s.setDrawn d0) m #[Value.ref b] below meth c H locs cells slots Q (F0 m 1181 ls [])) : ∀ (σ : St) (H : Heap) (locs : List Loc) (ls : Array Slot) (d0 : Drawn), Rel σ → GS E σ s.heap H locs → s.drawn.sameBut d0 lw_cs → lv_has ls 8 [(3, .int (Int32.ofNat i)), (2, .ref (E.1 248)), (1, .ref (E.1 0)), (0, .ref b)] → W p l e room_1 (s.setDrawn d0) m #[Value.ref b] below meth c H locs cells slots Q (F0 m 789 ls []) := by
  intro σ H locs ls d0 hR hG hd0 hl
  have hx := X.1.1.1
  have hb := X.1.1.2.1
  have lay10 : lay 10 0 := lay10_0
  have lay11 : lay 11 248 := lay11_248
  refine lv_aload_n hx hb dL_law_789 rfl (lv_at hl 2 rfl) ?_
  refine lv_aload_n hx hb dL_law_790 rfl (lv_at hl 3 rfl) ?_
  refine lv_iload_n hx hb dL_law_791 rfl (lv_at hl 0 rfl) ?_
  refine lv_iconst (v := (1 : Int32)) hx hb dL_law_792 (by decide) ?_
  refine lv_iadd hx hb dL_law_793 ?_
  refine lx_ld X hG 1 (by decide) (of_add i 1) dL_law_794 ?_
  obtain ⟨σ1, r, σ2, h1, h2, hR⟩ := hP σ (xs (i + 1)) hR
  have hM : bcall (M_X10_oldest σ 0 (xs (i + 1))) (fun a b => some (a, b)) = some (σ1, r) := by rw [h1]; rfl
  refine g_callV_i (nA := 1) (o := M_X10_oldest σ 0 (xs (i + 1))) (As := [.int (xs (i + 1))]) (cx_drawn d0 X.1) hG (lay10) rfl rfl (fun _ _ h => C_X10_oldest l E h (lay10)) mw952 mw953 mw954 mw51 (gw_ok mw955 rfl) (by decide +kernel) rfl ⟨(Nat.le_of_ble_eq_true rfl), (Nat.le_of_ble_eq_true rfl)⟩ hl.1 rfl (Nat.le_of_ble_eq_true rfl) hcs dL_law_795 hM (fun σ9 r9 H locs hG hM9 => ?_)
  cases hM9
  refine lv_aload_n hx hb dL_law_798 rfl (lv_at hl 1 rfl) ?_
  refine lv_aload_n hx hb dL_law_799 rfl (lv_at hl 3 rfl) ?_
  refine lv_iload_n hx hb dL_law_800 rfl (lv_at hl 0 rfl) ?_
  refine lv_iconst (v := (1 : Int32)) hx hb dL_law_801 (by decide) ?_
  refine lv_iadd hx hb dL_law_802 ?_
  refine lx_ld X hG 1 (by decide) (of_add i 1) dL_law_803 ?_
  have hM : bcall (M_X11_oldest σ1 248 (xs (i + 1))) (fun a b => some (a, b)) = some (σ2, r) := by rw [h2]; rfl
  refine g_callV_i (nA := 1) (o := M_X11_oldest σ1 248 (xs (i + 1))) (As := [.int (xs (i + 1))]) (cx_drawn d0 X.1) hG (lay11) rfl rfl (fun _ _ h => C_X11_oldest l E h (lay11)) mw1392 mw1393 mw1394 mw62 (gw_ok mw1395 rfl) (by decide +kernel) rfl ⟨(Nat.le_of_ble_eq_true rfl), (Nat.le_of_ble_eq_true rfl)⟩ hl.1 rfl (Nat.le_of_ble_eq_true rfl) hcs dL_law_804 hM (fun σ9 r9 H locs hG hM9 => ?_)
  cases hM9
  refine lv_icmp_eq (tgt := 1181) hx hb dL_law_807 (by decide) (fun _ => ?_) (fun c => absurd rfl c)
  exact next _ _ _ _ d0 hR hG hd0 hl
set_option maxRecDepth 20000 in
set_option maxHeartbeats 4000000 in
theorem lc_22 {Rel : St → Prop} {p : Program} {l : Launch} {e : Env} {s : State} {m : MethodId} {below : List Frame} {meth : Method} {c : Code} {b L i : Nat} {xs : Nat → Int32} {E : Ev} {cells slots : Nat} {Q : State → Prop} (hcs : cells + 0 ≤ room_1.cells ∧ slots + 0 ≤ room_1.slots) (X : LX E p m c s b L i xs) (hP : ∀ (σ : St) (v0 v1 : Int32), Rel σ → ∃ (σ1 : St) (r : Int32) (σ2 : St), M_X10_crewOf σ 0 v0 v1 = some (σ1, r) ∧ M_X11_crewOf σ1 248 v0 v1 = some (σ2, r) ∧ Rel σ2) (next : ∀ (σ : St) (H : Heap) (locs : List Loc) (ls : Array Slot) (d0 : Drawn), Rel σ → GS E σ s.heap H locs → s.drawn.sameBut d0 lw_cs → lv_has ls 8 [(3, .int (Int32.ofNat i)), (2, .ref (E.1 248)), (1, .ref (E.1 0)), (0, .ref b)] → W p l e room_1 (s.setDrawn d0) m #[Value.ref b] below meth c H locs cells slots Q (F0 m 1181 ls [])) : ∀ (σ : St) (H : Heap) (locs : List Loc) (ls : Array Slot) (d0 : Drawn), Rel σ → GS E σ s.heap H locs → s.drawn.sameBut d0 lw_cs → lv_has ls 8 [(3, .int (Int32.ofNat i)), (2, .ref (E.1 248)), (1, .ref (E.1 0)), (0, .ref b)] → W p l e room_1 (s.setDrawn d0) m #[Value.ref b] below meth c H locs cells slots Q (F0 m 812 ls []) := by
  intro σ H locs ls d0 hR hG hd0 hl
  have hx := X.1.1.1
  have hb := X.1.1.2.1
  have lay10 : lay 10 0 := lay10_0
  have lay11 : lay 11 248 := lay11_248
  refine lv_aload_n hx hb dL_law_812 rfl (lv_at hl 2 rfl) ?_
  refine lv_aload_n hx hb dL_law_813 rfl (lv_at hl 3 rfl) ?_
  refine lv_iload_n hx hb dL_law_814 rfl (lv_at hl 0 rfl) ?_
  refine lv_iconst (v := (1 : Int32)) hx hb dL_law_815 (by decide) ?_
  refine lv_iadd hx hb dL_law_816 ?_
  refine lx_ld X hG 1 (by decide) (of_add i 1) dL_law_817 ?_
  refine lv_aload_n hx hb dL_law_818 rfl (lv_at hl 3 rfl) ?_
  refine lv_iload_n hx hb dL_law_819 rfl (lv_at hl 0 rfl) ?_
  refine lv_iconst (v := (2 : Int32)) hx hb dL_law_820 (by decide) ?_
  refine lv_iadd hx hb dL_law_821 ?_
  refine lx_ld X hG 2 (by decide) (of_add i 2) dL_law_822 ?_
  obtain ⟨σ1, r, σ2, h1, h2, hR⟩ := hP σ (xs (i + 1)) (xs (i + 2)) hR
  have hM : bcall (M_X10_crewOf σ 0 (xs (i + 1)) (xs (i + 2))) (fun a b => some (a, b)) = some (σ1, r) := by rw [h1]; rfl
  refine g_callV_i (nA := 2) (o := M_X10_crewOf σ 0 (xs (i + 1)) (xs (i + 2))) (As := [.int (xs (i + 1)), .int (xs (i + 2))]) (cx_drawn d0 X.1) hG (lay10) rfl rfl (fun _ _ h => C_X10_crewOf l E h (lay10)) mw964 mw965 mw966 mw51 (gw_ok mw967 rfl) (by decide +kernel) rfl ⟨(Nat.le_of_ble_eq_true rfl), (Nat.le_of_ble_eq_true rfl)⟩ hl.1 rfl (Nat.le_of_ble_eq_true rfl) hcs dL_law_823 hM (fun σ9 r9 H locs hG hM9 => ?_)
  cases hM9
  refine lv_aload_n hx hb dL_law_826 rfl (lv_at hl 1 rfl) ?_
  refine lv_aload_n hx hb dL_law_827 rfl (lv_at hl 3 rfl) ?_
  refine lv_iload_n hx hb dL_law_828 rfl (lv_at hl 0 rfl) ?_
  refine lv_iconst (v := (1 : Int32)) hx hb dL_law_829 (by decide) ?_
  refine lv_iadd hx hb dL_law_830 ?_
  refine lx_ld X hG 1 (by decide) (of_add i 1) dL_law_831 ?_
  refine lv_aload_n hx hb dL_law_832 rfl (lv_at hl 3 rfl) ?_
  refine lv_iload_n hx hb dL_law_833 rfl (lv_at hl 0 rfl) ?_
  refine lv_iconst (v := (2 : Int32)) hx hb dL_law_834 (by decide) ?_
  refine lv_iadd hx hb dL_law_835 ?_
  refine lx_ld X hG 2 (by decide) (of_add i 2) dL_law_836 ?_
  have hM : bcall (M_X11_crewOf σ1 248 (xs (i + 1)) (xs (i + 2))) (fun a b => some (a, b)) = some (σ2, r) := by rw [h2]; rfl
  refine g_callV_i (nA := 2) (o := M_X11_crewOf σ1 248 (xs (i + 1)) (xs (i + 2))) (As := [.int (xs (i + 1)), .int (xs (i + 2))]) (cx_drawn d0 X.1) hG (lay11) rfl rfl (fun _ _ h => C_X11_crewOf l E h (lay11)) mw1396 mw1397 mw1398 mw62 (gw_ok mw1399 rfl) (by decide +kernel) rfl ⟨(Nat.le_of_ble_eq_true rfl), (Nat.le_of_ble_eq_true rfl)⟩ hl.1 rfl (Nat.le_of_ble_eq_true rfl) hcs dL_law_837 hM (fun σ9 r9 H locs hG hM9 => ?_)
  cases hM9
  refine lv_icmp_eq (tgt := 1181) hx hb dL_law_840 (by decide) (fun _ => ?_) (fun c => absurd rfl c)
  exact next _ _ _ _ d0 hR hG hd0 hl
set_option maxRecDepth 20000 in
set_option maxHeartbeats 4000000 in
theorem lc_23 {Rel : St → Prop} {p : Program} {l : Launch} {e : Env} {s : State} {m : MethodId} {below : List Frame} {meth : Method} {c : Code} {b L i : Nat} {xs : Nat → Int32} {E : Ev} {cells slots : Nat} {Q : State → Prop} (hcs : cells + 0 ≤ room_1.cells ∧ slots + 0 ≤ room_1.slots) (X : LX E p m c s b L i xs) (hP : ∀ (σ : St) (v0 v1 : Int32), Rel σ → ∃ (σ1 : St) (r : Int32) (σ2 : St), M_X10_inspectorOf σ 0 v0 v1 = some (σ1, r) ∧ M_X11_inspectorOf σ1 248 v0 v1 = some (σ2, r) ∧ Rel σ2) (next : ∀ (σ : St) (H : Heap) (locs : List Loc) (ls : Array Slot) (d0 : Drawn), Rel σ → GS E σ s.heap H locs → s.drawn.sameBut d0 lw_cs → lv_has ls 8 [(3, .int (Int32.ofNat i)), (2, .ref (E.1 248)), (1, .ref (E.1 0)), (0, .ref b)] → W p l e room_1 (s.setDrawn d0) m #[Value.ref b] below meth c H locs cells slots Q (F0 m 1181 ls [])) : ∀ (σ : St) (H : Heap) (locs : List Loc) (ls : Array Slot) (d0 : Drawn), Rel σ → GS E σ s.heap H locs → s.drawn.sameBut d0 lw_cs → lv_has ls 8 [(3, .int (Int32.ofNat i)), (2, .ref (E.1 248)), (1, .ref (E.1 0)), (0, .ref b)] → W p l e room_1 (s.setDrawn d0) m #[Value.ref b] below meth c H locs cells slots Q (F0 m 845 ls []) := by
  intro σ H locs ls d0 hR hG hd0 hl
  have hx := X.1.1.1
  have hb := X.1.1.2.1
  have lay10 : lay 10 0 := lay10_0
  have lay11 : lay 11 248 := lay11_248
  refine lv_aload_n hx hb dL_law_845 rfl (lv_at hl 2 rfl) ?_
  refine lv_aload_n hx hb dL_law_846 rfl (lv_at hl 3 rfl) ?_
  refine lv_iload_n hx hb dL_law_847 rfl (lv_at hl 0 rfl) ?_
  refine lv_iconst (v := (1 : Int32)) hx hb dL_law_848 (by decide) ?_
  refine lv_iadd hx hb dL_law_849 ?_
  refine lx_ld X hG 1 (by decide) (of_add i 1) dL_law_850 ?_
  refine lv_aload_n hx hb dL_law_851 rfl (lv_at hl 3 rfl) ?_
  refine lv_iload_n hx hb dL_law_852 rfl (lv_at hl 0 rfl) ?_
  refine lv_iconst (v := (2 : Int32)) hx hb dL_law_853 (by decide) ?_
  refine lv_iadd hx hb dL_law_854 ?_
  refine lx_ld X hG 2 (by decide) (of_add i 2) dL_law_855 ?_
  obtain ⟨σ1, r, σ2, h1, h2, hR⟩ := hP σ (xs (i + 1)) (xs (i + 2)) hR
  have hM : bcall (M_X10_inspectorOf σ 0 (xs (i + 1)) (xs (i + 2))) (fun a b => some (a, b)) = some (σ1, r) := by rw [h1]; rfl
  refine g_callV_i (nA := 2) (o := M_X10_inspectorOf σ 0 (xs (i + 1)) (xs (i + 2))) (As := [.int (xs (i + 1)), .int (xs (i + 2))]) (cx_drawn d0 X.1) hG (lay10) rfl rfl (fun _ _ h => C_X10_inspectorOf l E h (lay10)) mw981 mw982 mw983 mw51 (gw_ok mw984 rfl) (by decide +kernel) rfl ⟨(Nat.le_of_ble_eq_true rfl), (Nat.le_of_ble_eq_true rfl)⟩ hl.1 rfl (Nat.le_of_ble_eq_true rfl) hcs dL_law_856 hM (fun σ9 r9 H locs hG hM9 => ?_)
  cases hM9
  refine lv_aload_n hx hb dL_law_859 rfl (lv_at hl 1 rfl) ?_
  refine lv_aload_n hx hb dL_law_860 rfl (lv_at hl 3 rfl) ?_
  refine lv_iload_n hx hb dL_law_861 rfl (lv_at hl 0 rfl) ?_
  refine lv_iconst (v := (1 : Int32)) hx hb dL_law_862 (by decide) ?_
  refine lv_iadd hx hb dL_law_863 ?_
  refine lx_ld X hG 1 (by decide) (of_add i 1) dL_law_864 ?_
  refine lv_aload_n hx hb dL_law_865 rfl (lv_at hl 3 rfl) ?_
  refine lv_iload_n hx hb dL_law_866 rfl (lv_at hl 0 rfl) ?_
  refine lv_iconst (v := (2 : Int32)) hx hb dL_law_867 (by decide) ?_
  refine lv_iadd hx hb dL_law_868 ?_
  refine lx_ld X hG 2 (by decide) (of_add i 2) dL_law_869 ?_
  have hM : bcall (M_X11_inspectorOf σ1 248 (xs (i + 1)) (xs (i + 2))) (fun a b => some (a, b)) = some (σ2, r) := by rw [h2]; rfl
  refine g_callV_i (nA := 2) (o := M_X11_inspectorOf σ1 248 (xs (i + 1)) (xs (i + 2))) (As := [.int (xs (i + 1)), .int (xs (i + 2))]) (cx_drawn d0 X.1) hG (lay11) rfl rfl (fun _ _ h => C_X11_inspectorOf l E h (lay11)) mw1404 mw1405 mw1406 mw62 (gw_ok mw1407 rfl) (by decide +kernel) rfl ⟨(Nat.le_of_ble_eq_true rfl), (Nat.le_of_ble_eq_true rfl)⟩ hl.1 rfl (Nat.le_of_ble_eq_true rfl) hcs dL_law_870 hM (fun σ9 r9 H locs hG hM9 => ?_)
  cases hM9
  refine lv_icmp_eq (tgt := 1181) hx hb dL_law_873 (by decide) (fun _ => ?_) (fun c => absurd rfl c)
  exact next _ _ _ _ d0 hR hG hd0 hl
set_option maxRecDepth 20000 in
set_option maxHeartbeats 4000000 in
theorem lc_24 {Rel : St → Prop} {p : Program} {l : Launch} {e : Env} {s : State} {m : MethodId} {below : List Frame} {meth : Method} {c : Code} {b L i : Nat} {xs : Nat → Int32} {E : Ev} {cells slots : Nat} {Q : State → Prop} (hcs : cells + 0 ≤ room_1.cells ∧ slots + 0 ≤ room_1.slots) (X : LX E p m c s b L i xs) (hP : ∀ (σ : St), Rel σ → ∃ (σ1 : St) (r : Int32) (σ2 : St), M_X10_highest σ 0  = some (σ1, r) ∧ M_X11_highest σ1 248  = some (σ2, r) ∧ Rel σ2) (next : ∀ (σ : St) (H : Heap) (locs : List Loc) (ls : Array Slot) (d0 : Drawn), Rel σ → GS E σ s.heap H locs → s.drawn.sameBut d0 lw_cs → lv_has ls 8 [(3, .int (Int32.ofNat i)), (2, .ref (E.1 248)), (1, .ref (E.1 0)), (0, .ref b)] → W p l e room_1 (s.setDrawn d0) m #[Value.ref b] below meth c H locs cells slots Q (F0 m 1181 ls [])) : ∀ (σ : St) (H : Heap) (locs : List Loc) (ls : Array Slot) (d0 : Drawn), Rel σ → GS E σ s.heap H locs → s.drawn.sameBut d0 lw_cs → lv_has ls 8 [(3, .int (Int32.ofNat i)), (2, .ref (E.1 248)), (1, .ref (E.1 0)), (0, .ref b)] → W p l e room_1 (s.setDrawn d0) m #[Value.ref b] below meth c H locs cells slots Q (F0 m 878 ls []) := by
  intro σ H locs ls d0 hR hG hd0 hl
  have hx := X.1.1.1
  have hb := X.1.1.2.1
  have lay10 : lay 10 0 := lay10_0
  have lay11 : lay 11 248 := lay11_248
  refine lv_aload_n hx hb dL_law_878 rfl (lv_at hl 2 rfl) ?_
  obtain ⟨σ1, r, σ2, h1, h2, hR⟩ := hP σ hR
  have hM : bcall (M_X10_highest σ 0) (fun a b => some (a, b)) = some (σ1, r) := by rw [h1]; rfl
  refine g_callV_i (nA := 0) (o := M_X10_highest σ 0) (As := []) (cx_drawn d0 X.1) hG (lay10) rfl rfl (fun _ _ h => C_X10_highest l E h (lay10)) mw992 mw993 mw994 mw51 (gw_ok mw995 rfl) (by decide +kernel) rfl ⟨(Nat.le_of_ble_eq_true rfl), (Nat.le_of_ble_eq_true rfl)⟩ hl.1 rfl (Nat.le_of_ble_eq_true rfl) hcs dL_law_879 hM (fun σ9 r9 H locs hG hM9 => ?_)
  cases hM9
  refine lv_aload_n hx hb dL_law_882 rfl (lv_at hl 1 rfl) ?_
  have hM : bcall (M_X11_highest σ1 248) (fun a b => some (a, b)) = some (σ2, r) := by rw [h2]; rfl
  refine g_callV_i (nA := 0) (o := M_X11_highest σ1 248) (As := []) (cx_drawn d0 X.1) hG (lay11) rfl rfl (fun _ _ h => C_X11_highest l E h (lay11)) mw1408 mw1409 mw1410 mw62 (gw_ok mw1411 rfl) (by decide +kernel) rfl ⟨(Nat.le_of_ble_eq_true rfl), (Nat.le_of_ble_eq_true rfl)⟩ hl.1 rfl (Nat.le_of_ble_eq_true rfl) hcs dL_law_883 hM (fun σ9 r9 H locs hG hM9 => ?_)
  cases hM9
  refine lv_icmp_eq (tgt := 1181) hx hb dL_law_886 (by decide) (fun _ => ?_) (fun c => absurd rfl c)
  exact next _ _ _ _ d0 hR hG hd0 hl
set_option maxRecDepth 20000 in
set_option maxHeartbeats 4000000 in
theorem lc_25 {Rel : St → Prop} {p : Program} {l : Launch} {e : Env} {s : State} {m : MethodId} {below : List Frame} {meth : Method} {c : Code} {b L i : Nat} {xs : Nat → Int32} {E : Ev} {cells slots : Nat} {Q : State → Prop} (hcs : cells + 0 ≤ room_1.cells ∧ slots + 0 ≤ room_1.slots) (X : LX E p m c s b L i xs) (hP : ∀ (σ : St) (v0 : Int32), Rel σ → ∃ (σ1 : St) (r : Int32) (σ2 : St), M_X10_wouldFall σ 0 v0 = some (σ1, r) ∧ M_X11_wouldFall σ1 248 v0 = some (σ2, r) ∧ Rel σ2) (next : ∀ (σ : St) (H : Heap) (locs : List Loc) (ls : Array Slot) (d0 : Drawn), Rel σ → GS E σ s.heap H locs → s.drawn.sameBut d0 lw_cs → lv_has ls 8 [(3, .int (Int32.ofNat i)), (2, .ref (E.1 248)), (1, .ref (E.1 0)), (0, .ref b)] → W p l e room_1 (s.setDrawn d0) m #[Value.ref b] below meth c H locs cells slots Q (F0 m 1181 ls [])) : ∀ (σ : St) (H : Heap) (locs : List Loc) (ls : Array Slot) (d0 : Drawn), Rel σ → GS E σ s.heap H locs → s.drawn.sameBut d0 lw_cs → lv_has ls 8 [(3, .int (Int32.ofNat i)), (2, .ref (E.1 248)), (1, .ref (E.1 0)), (0, .ref b)] → W p l e room_1 (s.setDrawn d0) m #[Value.ref b] below meth c H locs cells slots Q (F0 m 891 ls []) := by
  intro σ H locs ls d0 hR hG hd0 hl
  have hx := X.1.1.1
  have hb := X.1.1.2.1
  have lay10 : lay 10 0 := lay10_0
  have lay11 : lay 11 248 := lay11_248
  refine lv_aload_n hx hb dL_law_891 rfl (lv_at hl 2 rfl) ?_
  refine lv_aload_n hx hb dL_law_892 rfl (lv_at hl 3 rfl) ?_
  refine lv_iload_n hx hb dL_law_893 rfl (lv_at hl 0 rfl) ?_
  refine lv_iconst (v := (1 : Int32)) hx hb dL_law_894 (by decide) ?_
  refine lv_iadd hx hb dL_law_895 ?_
  refine lx_ld X hG 1 (by decide) (of_add i 1) dL_law_896 ?_
  obtain ⟨σ1, r, σ2, h1, h2, hR⟩ := hP σ (xs (i + 1)) hR
  have hM : bcall (M_X10_wouldFall σ 0 (xs (i + 1))) (fun a b => some (a, b)) = some (σ1, r) := by rw [h1]; rfl
  refine g_callV_i (nA := 1) (o := M_X10_wouldFall σ 0 (xs (i + 1))) (As := [.int (xs (i + 1))]) (cx_drawn d0 X.1) hG (lay10) rfl rfl (fun _ _ h => C_X10_wouldFall l E h (lay10)) mw1006 mw1007 mw1008 mw51 (gw_ok mw1009 rfl) (by decide +kernel) rfl ⟨(Nat.le_of_ble_eq_true rfl), (Nat.le_of_ble_eq_true rfl)⟩ hl.1 rfl (Nat.le_of_ble_eq_true rfl) hcs dL_law_897 hM (fun σ9 r9 H locs hG hM9 => ?_)
  cases hM9
  refine lv_aload_n hx hb dL_law_900 rfl (lv_at hl 1 rfl) ?_
  refine lv_aload_n hx hb dL_law_901 rfl (lv_at hl 3 rfl) ?_
  refine lv_iload_n hx hb dL_law_902 rfl (lv_at hl 0 rfl) ?_
  refine lv_iconst (v := (1 : Int32)) hx hb dL_law_903 (by decide) ?_
  refine lv_iadd hx hb dL_law_904 ?_
  refine lx_ld X hG 1 (by decide) (of_add i 1) dL_law_905 ?_
  have hM : bcall (M_X11_wouldFall σ1 248 (xs (i + 1))) (fun a b => some (a, b)) = some (σ2, r) := by rw [h2]; rfl
  refine g_callV_i (nA := 1) (o := M_X11_wouldFall σ1 248 (xs (i + 1))) (As := [.int (xs (i + 1))]) (cx_drawn d0 X.1) hG (lay11) rfl rfl (fun _ _ h => C_X11_wouldFall l E h (lay11)) mw1412 mw1413 mw1414 mw62 (gw_ok mw1415 rfl) (by decide +kernel) rfl ⟨(Nat.le_of_ble_eq_true rfl), (Nat.le_of_ble_eq_true rfl)⟩ hl.1 rfl (Nat.le_of_ble_eq_true rfl) hcs dL_law_906 hM (fun σ9 r9 H locs hG hM9 => ?_)
  cases hM9
  refine lv_icmp_eq (tgt := 1181) hx hb dL_law_909 (by decide) (fun _ => ?_) (fun c => absurd rfl c)
  exact next _ _ _ _ d0 hR hG hd0 hl
set_option maxRecDepth 20000 in
set_option maxHeartbeats 4000000 in
theorem lc_26 {Rel : St → Prop} {p : Program} {l : Launch} {e : Env} {s : State} {m : MethodId} {below : List Frame} {meth : Method} {c : Code} {b L i : Nat} {xs : Nat → Int32} {E : Ev} {cells slots : Nat} {Q : State → Prop} (hcs : cells + 0 ≤ room_1.cells ∧ slots + 0 ≤ room_1.slots) (X : LX E p m c s b L i xs) (hP : ∀ (σ : St) (v0 : Int32), Rel σ → ∃ (σ1 : St) (r : Int32) (σ2 : St), M_X10_oldIn σ 0 v0 = some (σ1, r) ∧ M_X11_oldIn σ1 248 v0 = some (σ2, r) ∧ Rel σ2) (next : ∀ (σ : St) (H : Heap) (locs : List Loc) (ls : Array Slot) (d0 : Drawn), Rel σ → GS E σ s.heap H locs → s.drawn.sameBut d0 lw_cs → lv_has ls 8 [(3, .int (Int32.ofNat i)), (2, .ref (E.1 248)), (1, .ref (E.1 0)), (0, .ref b)] → W p l e room_1 (s.setDrawn d0) m #[Value.ref b] below meth c H locs cells slots Q (F0 m 1181 ls [])) : ∀ (σ : St) (H : Heap) (locs : List Loc) (ls : Array Slot) (d0 : Drawn), Rel σ → GS E σ s.heap H locs → s.drawn.sameBut d0 lw_cs → lv_has ls 8 [(3, .int (Int32.ofNat i)), (2, .ref (E.1 248)), (1, .ref (E.1 0)), (0, .ref b)] → W p l e room_1 (s.setDrawn d0) m #[Value.ref b] below meth c H locs cells slots Q (F0 m 914 ls []) := by
  intro σ H locs ls d0 hR hG hd0 hl
  have hx := X.1.1.1
  have hb := X.1.1.2.1
  have lay10 : lay 10 0 := lay10_0
  have lay11 : lay 11 248 := lay11_248
  refine lv_aload_n hx hb dL_law_914 rfl (lv_at hl 2 rfl) ?_
  refine lv_aload_n hx hb dL_law_915 rfl (lv_at hl 3 rfl) ?_
  refine lv_iload_n hx hb dL_law_916 rfl (lv_at hl 0 rfl) ?_
  refine lv_iconst (v := (1 : Int32)) hx hb dL_law_917 (by decide) ?_
  refine lv_iadd hx hb dL_law_918 ?_
  refine lx_ld X hG 1 (by decide) (of_add i 1) dL_law_919 ?_
  obtain ⟨σ1, r, σ2, h1, h2, hR⟩ := hP σ (xs (i + 1)) hR
  have hM : bcall (M_X10_oldIn σ 0 (xs (i + 1))) (fun a b => some (a, b)) = some (σ1, r) := by rw [h1]; rfl
  refine g_callV_i (nA := 1) (o := M_X10_oldIn σ 0 (xs (i + 1))) (As := [.int (xs (i + 1))]) (cx_drawn d0 X.1) hG (lay10) rfl rfl (fun _ _ h => C_X10_oldIn l E h (lay10)) mw1011 mw1012 mw1013 mw51 (gw_ok mw1014 rfl) (by decide +kernel) rfl ⟨(Nat.le_of_ble_eq_true rfl), (Nat.le_of_ble_eq_true rfl)⟩ hl.1 rfl (Nat.le_of_ble_eq_true rfl) hcs dL_law_920 hM (fun σ9 r9 H locs hG hM9 => ?_)
  cases hM9
  refine lv_aload_n hx hb dL_law_923 rfl (lv_at hl 1 rfl) ?_
  refine lv_aload_n hx hb dL_law_924 rfl (lv_at hl 3 rfl) ?_
  refine lv_iload_n hx hb dL_law_925 rfl (lv_at hl 0 rfl) ?_
  refine lv_iconst (v := (1 : Int32)) hx hb dL_law_926 (by decide) ?_
  refine lv_iadd hx hb dL_law_927 ?_
  refine lx_ld X hG 1 (by decide) (of_add i 1) dL_law_928 ?_
  have hM : bcall (M_X11_oldIn σ1 248 (xs (i + 1))) (fun a b => some (a, b)) = some (σ2, r) := by rw [h2]; rfl
  refine g_callV_i (nA := 1) (o := M_X11_oldIn σ1 248 (xs (i + 1))) (As := [.int (xs (i + 1))]) (cx_drawn d0 X.1) hG (lay11) rfl rfl (fun _ _ h => C_X11_oldIn l E h (lay11)) mw1416 mw1417 mw1418 mw62 (gw_ok mw1419 rfl) (by decide +kernel) rfl ⟨(Nat.le_of_ble_eq_true rfl), (Nat.le_of_ble_eq_true rfl)⟩ hl.1 rfl (Nat.le_of_ble_eq_true rfl) hcs dL_law_929 hM (fun σ9 r9 H locs hG hM9 => ?_)
  cases hM9
  refine lv_icmp_eq (tgt := 1181) hx hb dL_law_932 (by decide) (fun _ => ?_) (fun c => absurd rfl c)
  exact next _ _ _ _ d0 hR hG hd0 hl
set_option maxRecDepth 20000 in
set_option maxHeartbeats 4000000 in
theorem lc_27 {Rel : St → Prop} {p : Program} {l : Launch} {e : Env} {s : State} {m : MethodId} {below : List Frame} {meth : Method} {c : Code} {b L i : Nat} {xs : Nat → Int32} {E : Ev} {cells slots : Nat} {Q : State → Prop} (hcs : cells + 0 ≤ room_1.cells ∧ slots + 0 ≤ room_1.slots) (X : LX E p m c s b L i xs) (hP : ∀ (σ : St) (v0 : Int32), Rel σ → ∃ (σ1 : St) (r : Int32) (σ2 : St), M_X10_doneIn σ 0 v0 = some (σ1, r) ∧ M_X11_doneIn σ1 248 v0 = some (σ2, r) ∧ Rel σ2) (next : ∀ (σ : St) (H : Heap) (locs : List Loc) (ls : Array Slot) (d0 : Drawn), Rel σ → GS E σ s.heap H locs → s.drawn.sameBut d0 lw_cs → lv_has ls 8 [(3, .int (Int32.ofNat i)), (2, .ref (E.1 248)), (1, .ref (E.1 0)), (0, .ref b)] → W p l e room_1 (s.setDrawn d0) m #[Value.ref b] below meth c H locs cells slots Q (F0 m 1181 ls [])) : ∀ (σ : St) (H : Heap) (locs : List Loc) (ls : Array Slot) (d0 : Drawn), Rel σ → GS E σ s.heap H locs → s.drawn.sameBut d0 lw_cs → lv_has ls 8 [(3, .int (Int32.ofNat i)), (2, .ref (E.1 248)), (1, .ref (E.1 0)), (0, .ref b)] → W p l e room_1 (s.setDrawn d0) m #[Value.ref b] below meth c H locs cells slots Q (F0 m 937 ls []) := by
  intro σ H locs ls d0 hR hG hd0 hl
  have hx := X.1.1.1
  have hb := X.1.1.2.1
  have lay10 : lay 10 0 := lay10_0
  have lay11 : lay 11 248 := lay11_248
  refine lv_aload_n hx hb dL_law_937 rfl (lv_at hl 2 rfl) ?_
  refine lv_aload_n hx hb dL_law_938 rfl (lv_at hl 3 rfl) ?_
  refine lv_iload_n hx hb dL_law_939 rfl (lv_at hl 0 rfl) ?_
  refine lv_iconst (v := (1 : Int32)) hx hb dL_law_940 (by decide) ?_
  refine lv_iadd hx hb dL_law_941 ?_
  refine lx_ld X hG 1 (by decide) (of_add i 1) dL_law_942 ?_
  obtain ⟨σ1, r, σ2, h1, h2, hR⟩ := hP σ (xs (i + 1)) hR
  have hM : bcall (M_X10_doneIn σ 0 (xs (i + 1))) (fun a b => some (a, b)) = some (σ1, r) := by rw [h1]; rfl
  refine g_callV_i (nA := 1) (o := M_X10_doneIn σ 0 (xs (i + 1))) (As := [.int (xs (i + 1))]) (cx_drawn d0 X.1) hG (lay10) rfl rfl (fun _ _ h => C_X10_doneIn l E h (lay10)) mw1017 mw1018 mw1019 mw51 (gw_ok mw1020 rfl) (by decide +kernel) rfl ⟨(Nat.le_of_ble_eq_true rfl), (Nat.le_of_ble_eq_true rfl)⟩ hl.1 rfl (Nat.le_of_ble_eq_true rfl) hcs dL_law_943 hM (fun σ9 r9 H locs hG hM9 => ?_)
  cases hM9
  refine lv_aload_n hx hb dL_law_946 rfl (lv_at hl 1 rfl) ?_
  refine lv_aload_n hx hb dL_law_947 rfl (lv_at hl 3 rfl) ?_
  refine lv_iload_n hx hb dL_law_948 rfl (lv_at hl 0 rfl) ?_
  refine lv_iconst (v := (1 : Int32)) hx hb dL_law_949 (by decide) ?_
  refine lv_iadd hx hb dL_law_950 ?_
  refine lx_ld X hG 1 (by decide) (of_add i 1) dL_law_951 ?_
  have hM : bcall (M_X11_doneIn σ1 248 (xs (i + 1))) (fun a b => some (a, b)) = some (σ2, r) := by rw [h2]; rfl
  refine g_callV_i (nA := 1) (o := M_X11_doneIn σ1 248 (xs (i + 1))) (As := [.int (xs (i + 1))]) (cx_drawn d0 X.1) hG (lay11) rfl rfl (fun _ _ h => C_X11_doneIn l E h (lay11)) mw1428 mw1429 mw1430 mw62 (gw_ok mw1431 rfl) (by decide +kernel) rfl ⟨(Nat.le_of_ble_eq_true rfl), (Nat.le_of_ble_eq_true rfl)⟩ hl.1 rfl (Nat.le_of_ble_eq_true rfl) hcs dL_law_952 hM (fun σ9 r9 H locs hG hM9 => ?_)
  cases hM9
  refine lv_icmp_eq (tgt := 1181) hx hb dL_law_955 (by decide) (fun _ => ?_) (fun c => absurd rfl c)
  exact next _ _ _ _ d0 hR hG hd0 hl
set_option maxRecDepth 20000 in
set_option maxHeartbeats 4000000 in
theorem lc_28 {Rel : St → Prop} {p : Program} {l : Launch} {e : Env} {s : State} {m : MethodId} {below : List Frame} {meth : Method} {c : Code} {b L i : Nat} {xs : Nat → Int32} {E : Ev} {cells slots : Nat} {Q : State → Prop} (hcs : cells + 0 ≤ room_1.cells ∧ slots + 0 ≤ room_1.slots) (X : LX E p m c s b L i xs) (hP : ∀ (σ : St), Rel σ → ∃ (σ1 : St) (r : Int32) (σ2 : St), M_X10_describe σ 0  = some (σ1, r) ∧ M_X11_describe σ1 248  = some (σ2, r) ∧ Rel σ2) (next : ∀ (σ : St) (H : Heap) (locs : List Loc) (ls : Array Slot) (d0 : Drawn), Rel σ → GS E σ s.heap H locs → s.drawn.sameBut d0 lw_cs → lv_has ls 8 [(3, .int (Int32.ofNat i)), (2, .ref (E.1 248)), (1, .ref (E.1 0)), (0, .ref b)] → W p l e room_1 (s.setDrawn d0) m #[Value.ref b] below meth c H locs cells slots Q (F0 m 1181 ls [])) : ∀ (σ : St) (H : Heap) (locs : List Loc) (ls : Array Slot) (d0 : Drawn), Rel σ → GS E σ s.heap H locs → s.drawn.sameBut d0 lw_cs → lv_has ls 8 [(3, .int (Int32.ofNat i)), (2, .ref (E.1 248)), (1, .ref (E.1 0)), (0, .ref b)] → W p l e room_1 (s.setDrawn d0) m #[Value.ref b] below meth c H locs cells slots Q (F0 m 960 ls []) := by
  intro σ H locs ls d0 hR hG hd0 hl
  have hx := X.1.1.1
  have hb := X.1.1.2.1
  have lay10 : lay 10 0 := lay10_0
  have lay11 : lay 11 248 := lay11_248
  refine lv_aload_n hx hb dL_law_960 rfl (lv_at hl 2 rfl) ?_
  obtain ⟨σ1, r, σ2, h1, h2, hR⟩ := hP σ hR
  have hM : bcall (M_X10_describe σ 0) (fun a b => some (a, b)) = some (σ1, r) := by rw [h1]; rfl
  refine g_callV_i (nA := 0) (o := M_X10_describe σ 0) (As := []) (cx_drawn d0 X.1) hG (lay10) rfl rfl (fun _ _ h => C_X10_describe l E h (lay10)) mw1021 mw1022 mw1023 mw51 (gw_ok mw1024 rfl) (by decide +kernel) rfl ⟨(Nat.le_of_ble_eq_true rfl), (Nat.le_of_ble_eq_true rfl)⟩ hl.1 rfl (Nat.le_of_ble_eq_true rfl) hcs dL_law_961 hM (fun σ9 r9 H locs hG hM9 => ?_)
  cases hM9
  refine lv_aload_n hx hb dL_law_964 rfl (lv_at hl 1 rfl) ?_
  have hM : bcall (M_X11_describe σ1 248) (fun a b => some (a, b)) = some (σ2, r) := by rw [h2]; rfl
  refine g_callV_i (nA := 0) (o := M_X11_describe σ1 248) (As := []) (cx_drawn d0 X.1) hG (lay11) rfl rfl (fun _ _ h => C_X11_describe l E h (lay11)) mw1432 mw1433 mw1434 mw62 (gw_ok mw1435 rfl) (by decide +kernel) rfl ⟨(Nat.le_of_ble_eq_true rfl), (Nat.le_of_ble_eq_true rfl)⟩ hl.1 rfl (Nat.le_of_ble_eq_true rfl) hcs dL_law_965 hM (fun σ9 r9 H locs hG hM9 => ?_)
  cases hM9
  refine lv_icmp_eq (tgt := 1181) hx hb dL_law_968 (by decide) (fun _ => ?_) (fun c => absurd rfl c)
  exact next _ _ _ _ d0 hR hG hd0 hl
set_option maxRecDepth 20000 in
set_option maxHeartbeats 4000000 in
theorem lc_29 {Rel : St → Prop} {p : Program} {l : Launch} {e : Env} {s : State} {m : MethodId} {below : List Frame} {meth : Method} {c : Code} {b L i : Nat} {xs : Nat → Int32} {E : Ev} {cells slots : Nat} {Q : State → Prop} (hcs : cells + 0 ≤ room_1.cells ∧ slots + 0 ≤ room_1.slots) (X : LX E p m c s b L i xs) (hP : ∀ (σ : St) (v0 : Int32), Rel σ → ∃ (σ1 : St) (r : Int32) (σ2 : St), M_X10_written σ 0 v0 = some (σ1, r) ∧ M_X11_written σ1 248 v0 = some (σ2, r) ∧ Rel σ2) (next : ∀ (σ : St) (H : Heap) (locs : List Loc) (ls : Array Slot) (d0 : Drawn), Rel σ → GS E σ s.heap H locs → s.drawn.sameBut d0 lw_cs → lv_has ls 8 [(3, .int (Int32.ofNat i)), (2, .ref (E.1 248)), (1, .ref (E.1 0)), (0, .ref b)] → W p l e room_1 (s.setDrawn d0) m #[Value.ref b] below meth c H locs cells slots Q (F0 m 1181 ls [])) : ∀ (σ : St) (H : Heap) (locs : List Loc) (ls : Array Slot) (d0 : Drawn), Rel σ → GS E σ s.heap H locs → s.drawn.sameBut d0 lw_cs → lv_has ls 8 [(3, .int (Int32.ofNat i)), (2, .ref (E.1 248)), (1, .ref (E.1 0)), (0, .ref b)] → W p l e room_1 (s.setDrawn d0) m #[Value.ref b] below meth c H locs cells slots Q (F0 m 973 ls []) := by
  intro σ H locs ls d0 hR hG hd0 hl
  have hx := X.1.1.1
  have hb := X.1.1.2.1
  have lay10 : lay 10 0 := lay10_0
  have lay11 : lay 11 248 := lay11_248
  refine lv_aload_n hx hb dL_law_973 rfl (lv_at hl 2 rfl) ?_
  refine lv_aload_n hx hb dL_law_974 rfl (lv_at hl 3 rfl) ?_
  refine lv_iload_n hx hb dL_law_975 rfl (lv_at hl 0 rfl) ?_
  refine lv_iconst (v := (1 : Int32)) hx hb dL_law_976 (by decide) ?_
  refine lv_iadd hx hb dL_law_977 ?_
  refine lx_ld X hG 1 (by decide) (of_add i 1) dL_law_978 ?_
  obtain ⟨σ1, r, σ2, h1, h2, hR⟩ := hP σ (xs (i + 1)) hR
  have hM : bcall (M_X10_written σ 0 (xs (i + 1))) (fun a b => some (a, b)) = some (σ1, r) := by rw [h1]; rfl
  refine g_callV_i (nA := 1) (o := M_X10_written σ 0 (xs (i + 1))) (As := [.int (xs (i + 1))]) (cx_drawn d0 X.1) hG (lay10) rfl rfl (fun _ _ h => C_X10_written l E h (lay10)) mw1039 mw1040 mw1041 mw51 (gw_ok mw1042 rfl) (by decide +kernel) rfl ⟨(Nat.le_of_ble_eq_true rfl), (Nat.le_of_ble_eq_true rfl)⟩ hl.1 rfl (Nat.le_of_ble_eq_true rfl) hcs dL_law_979 hM (fun σ9 r9 H locs hG hM9 => ?_)
  cases hM9
  refine lv_aload_n hx hb dL_law_982 rfl (lv_at hl 1 rfl) ?_
  refine lv_aload_n hx hb dL_law_983 rfl (lv_at hl 3 rfl) ?_
  refine lv_iload_n hx hb dL_law_984 rfl (lv_at hl 0 rfl) ?_
  refine lv_iconst (v := (1 : Int32)) hx hb dL_law_985 (by decide) ?_
  refine lv_iadd hx hb dL_law_986 ?_
  refine lx_ld X hG 1 (by decide) (of_add i 1) dL_law_987 ?_
  have hM : bcall (M_X11_written σ1 248 (xs (i + 1))) (fun a b => some (a, b)) = some (σ2, r) := by rw [h2]; rfl
  refine g_callV_i (nA := 1) (o := M_X11_written σ1 248 (xs (i + 1))) (As := [.int (xs (i + 1))]) (cx_drawn d0 X.1) hG (lay11) rfl rfl (fun _ _ h => C_X11_written l E h (lay11)) mw1446 mw1447 mw1448 mw62 (gw_ok mw1449 rfl) (by decide +kernel) rfl ⟨(Nat.le_of_ble_eq_true rfl), (Nat.le_of_ble_eq_true rfl)⟩ hl.1 rfl (Nat.le_of_ble_eq_true rfl) hcs dL_law_988 hM (fun σ9 r9 H locs hG hM9 => ?_)
  cases hM9
  refine lv_icmp_eq (tgt := 1181) hx hb dL_law_991 (by decide) (fun _ => ?_) (fun c => absurd rfl c)
  exact next _ _ _ _ d0 hR hG hd0 hl
set_option maxRecDepth 20000 in
set_option maxHeartbeats 4000000 in
theorem lc_30 {Rel : St → Prop} {p : Program} {l : Launch} {e : Env} {s : State} {m : MethodId} {below : List Frame} {meth : Method} {c : Code} {b L i : Nat} {xs : Nat → Int32} {E : Ev} {cells slots : Nat} {Q : State → Prop} (hcs : cells + 0 ≤ room_1.cells ∧ slots + 0 ≤ room_1.slots) (X : LX E p m c s b L i xs) (hP : ∀ (σ : St) (v0 : Int32), okZ v0 = true → Rel σ → ∃ (σ1 : St) (r : Int32) (σ2 : St), M_X10_work σ 0 v0 = some (σ1, r) ∧ M_X11_work σ1 248 v0 = some (σ2, r) ∧ Rel σ2) (next : ∀ (σ : St) (H : Heap) (locs : List Loc) (ls : Array Slot) (d0 : Drawn), Rel σ → GS E σ s.heap H locs → s.drawn.sameBut d0 lw_cs → lv_has ls 8 [(3, .int (Int32.ofNat i)), (2, .ref (E.1 248)), (1, .ref (E.1 0)), (0, .ref b)] → W p l e room_1 (s.setDrawn d0) m #[Value.ref b] below meth c H locs cells slots Q (F0 m 1181 ls [])) : ∀ (σ : St) (H : Heap) (locs : List Loc) (ls : Array Slot) (d0 : Drawn), Rel σ → GS E σ s.heap H locs → s.drawn.sameBut d0 lw_cs → lv_has ls 8 [(3, .int (Int32.ofNat i)), (2, .ref (E.1 248)), (1, .ref (E.1 0)), (0, .ref b)] → W p l e room_1 (s.setDrawn d0) m #[Value.ref b] below meth c H locs cells slots Q (F0 m 996 ls []) := by
  intro σ H locs ls d0 hR hG hd0 hl
  have hx := X.1.1.1
  have hb := X.1.1.2.1
  have lay10 : lay 10 0 := lay10_0
  have lay11 : lay 11 248 := lay11_248
  by_cases hv : xs (i + 1) = 0
  · refine lv_aload_n hx hb dL_law_996 rfl (lv_at hl 2 rfl) ?_
    refine lv_aload_n hx hb dL_law_997 rfl (lv_at hl 3 rfl) ?_
    refine lv_iload_n hx hb dL_law_998 rfl (lv_at hl 0 rfl) ?_
    refine lv_iconst (v := (1 : Int32)) hx hb dL_law_999 (by decide) ?_
    refine lv_iadd hx hb dL_law_1000 ?_
    refine lx_ld X hG 1 (by decide) (of_add i 1) dL_law_1001 ?_
    refine lv_if_eq (tgt := 1009) hx hb dL_law_1002 (by decide) (fun _ => ?_) (fun c => absurd hv c)
    refine lv_iconst (v := (0 : Int32)) hx hb dL_law_1009 (by decide) ?_
    obtain ⟨σ1, r, σ2, h1, h2, hR⟩ := hP σ (0 : Int32) (by decide) hR
    have hM : bcall (M_X10_work σ 0 (0 : Int32)) (fun a b => some (a, b)) = some (σ1, r) := by rw [h1]; rfl
    refine g_callV_i (nA := 1) (o := M_X10_work σ 0 (0 : Int32)) (As := [.int (0 : Int32)]) (cx_drawn d0 X.1) hG (lay10) rfl rfl (fun _ _ h => C_X10_work l E h (lay10)) mw1044 mw1045 mw1046 mw51 (gw_ok mw1047 rfl) (by decide +kernel) rfl ⟨(Nat.le_of_ble_eq_true rfl), (Nat.le_of_ble_eq_true rfl)⟩ hl.1 rfl (Nat.le_of_ble_eq_true rfl) hcs dL_law_1010 hM (fun σ9 r9 H locs hG hM9 => ?_)
    cases hM9
    refine lv_aload_n hx hb dL_law_1013 rfl (lv_at hl 1 rfl) ?_
    refine lv_aload_n hx hb dL_law_1014 rfl (lv_at hl 3 rfl) ?_
    refine lv_iload_n hx hb dL_law_1015 rfl (lv_at hl 0 rfl) ?_
    refine lv_iconst (v := (1 : Int32)) hx hb dL_law_1016 (by decide) ?_
    refine lv_iadd hx hb dL_law_1017 ?_
    refine lx_ld X hG 1 (by decide) (of_add i 1) dL_law_1018 ?_
    refine lv_if_eq (tgt := 1026) hx hb dL_law_1019 (by decide) (fun _ => ?_) (fun c => absurd hv c)
    refine lv_iconst (v := (0 : Int32)) hx hb dL_law_1026 (by decide) ?_
    have hM : bcall (M_X11_work σ1 248 (0 : Int32)) (fun a b => some (a, b)) = some (σ2, r) := by rw [h2]; rfl
    refine g_callV_i (nA := 1) (o := M_X11_work σ1 248 (0 : Int32)) (As := [.int (0 : Int32)]) (cx_drawn d0 X.1) hG (lay11) rfl rfl (fun _ _ h => C_X11_work l E h (lay11)) mw1450 mw1451 mw1452 mw62 (gw_ok mw1453 rfl) (by decide +kernel) rfl ⟨(Nat.le_of_ble_eq_true rfl), (Nat.le_of_ble_eq_true rfl)⟩ hl.1 rfl (Nat.le_of_ble_eq_true rfl) hcs dL_law_1027 hM (fun σ9 r9 H locs hG hM9 => ?_)
    cases hM9
    refine lv_icmp_eq (tgt := 1181) hx hb dL_law_1030 (by decide) (fun _ => ?_) (fun c => absurd rfl c)
    exact next _ _ _ _ d0 hR hG hd0 hl
  · refine lv_aload_n hx hb dL_law_996 rfl (lv_at hl 2 rfl) ?_
    refine lv_aload_n hx hb dL_law_997 rfl (lv_at hl 3 rfl) ?_
    refine lv_iload_n hx hb dL_law_998 rfl (lv_at hl 0 rfl) ?_
    refine lv_iconst (v := (1 : Int32)) hx hb dL_law_999 (by decide) ?_
    refine lv_iadd hx hb dL_law_1000 ?_
    refine lx_ld X hG 1 (by decide) (of_add i 1) dL_law_1001 ?_
    refine lv_if_eq (tgt := 1009) hx hb dL_law_1002 (by decide) (fun c => absurd c hv) (fun _ => ?_)
    refine lv_iconst (v := (1 : Int32)) hx hb dL_law_1005 (by decide) ?_
    refine lv_goto (tgt := 1010) hx hb dL_law_1006 (by decide) ?_
    obtain ⟨σ1, r, σ2, h1, h2, hR⟩ := hP σ (1 : Int32) (by decide) hR
    have hM : bcall (M_X10_work σ 0 (1 : Int32)) (fun a b => some (a, b)) = some (σ1, r) := by rw [h1]; rfl
    refine g_callV_i (nA := 1) (o := M_X10_work σ 0 (1 : Int32)) (As := [.int (1 : Int32)]) (cx_drawn d0 X.1) hG (lay10) rfl rfl (fun _ _ h => C_X10_work l E h (lay10)) mw1044 mw1045 mw1046 mw51 (gw_ok mw1047 rfl) (by decide +kernel) rfl ⟨(Nat.le_of_ble_eq_true rfl), (Nat.le_of_ble_eq_true rfl)⟩ hl.1 rfl (Nat.le_of_ble_eq_true rfl) hcs dL_law_1010 hM (fun σ9 r9 H locs hG hM9 => ?_)
    cases hM9
    refine lv_aload_n hx hb dL_law_1013 rfl (lv_at hl 1 rfl) ?_
    refine lv_aload_n hx hb dL_law_1014 rfl (lv_at hl 3 rfl) ?_
    refine lv_iload_n hx hb dL_law_1015 rfl (lv_at hl 0 rfl) ?_
    refine lv_iconst (v := (1 : Int32)) hx hb dL_law_1016 (by decide) ?_
    refine lv_iadd hx hb dL_law_1017 ?_
    refine lx_ld X hG 1 (by decide) (of_add i 1) dL_law_1018 ?_
    refine lv_if_eq (tgt := 1026) hx hb dL_law_1019 (by decide) (fun c => absurd c hv) (fun _ => ?_)
    refine lv_iconst (v := (1 : Int32)) hx hb dL_law_1022 (by decide) ?_
    refine lv_goto (tgt := 1027) hx hb dL_law_1023 (by decide) ?_
    have hM : bcall (M_X11_work σ1 248 (1 : Int32)) (fun a b => some (a, b)) = some (σ2, r) := by rw [h2]; rfl
    refine g_callV_i (nA := 1) (o := M_X11_work σ1 248 (1 : Int32)) (As := [.int (1 : Int32)]) (cx_drawn d0 X.1) hG (lay11) rfl rfl (fun _ _ h => C_X11_work l E h (lay11)) mw1450 mw1451 mw1452 mw62 (gw_ok mw1453 rfl) (by decide +kernel) rfl ⟨(Nat.le_of_ble_eq_true rfl), (Nat.le_of_ble_eq_true rfl)⟩ hl.1 rfl (Nat.le_of_ble_eq_true rfl) hcs dL_law_1027 hM (fun σ9 r9 H locs hG hM9 => ?_)
    cases hM9
    refine lv_icmp_eq (tgt := 1181) hx hb dL_law_1030 (by decide) (fun _ => ?_) (fun c => absurd rfl c)
    exact next _ _ _ _ d0 hR hG hd0 hl
set_option maxRecDepth 20000 in
set_option maxHeartbeats 4000000 in
theorem lc_31 {Rel : St → Prop} {p : Program} {l : Launch} {e : Env} {s : State} {m : MethodId} {below : List Frame} {meth : Method} {c : Code} {b L i : Nat} {xs : Nat → Int32} {E : Ev} {cells slots : Nat} {Q : State → Prop} (hcs : cells + 0 ≤ room_1.cells ∧ slots + 0 ≤ room_1.slots) (X : LX E p m c s b L i xs) (hP : ∀ (σ : St), Rel σ → ∃ (σ1 : St) (r : UInt32) (σ2 : St), M_X10_meanStrength σ 0 = some (σ1, r) ∧ M_X11_meanStrength σ1 248 = some (σ2, r) ∧ Rel σ2) (next : ∀ (σ : St) (H : Heap) (locs : List Loc) (ls : Array Slot) (d0 : Drawn), Rel σ → GS E σ s.heap H locs → s.drawn.sameBut d0 lw_cs → lv_has ls 8 [(3, .int (Int32.ofNat i)), (2, .ref (E.1 248)), (1, .ref (E.1 0)), (0, .ref b)] → W p l e room_1 (s.setDrawn d0) m #[Value.ref b] below meth c H locs cells slots Q (F0 m 1181 ls [])) : ∀ (σ : St) (H : Heap) (locs : List Loc) (ls : Array Slot) (d0 : Drawn), Rel σ → GS E σ s.heap H locs → s.drawn.sameBut d0 lw_cs → lv_has ls 8 [(3, .int (Int32.ofNat i)), (2, .ref (E.1 248)), (1, .ref (E.1 0)), (0, .ref b)] → W p l e room_1 (s.setDrawn d0) m #[Value.ref b] below meth c H locs cells slots Q (F0 m 1035 ls []) := by
  intro σ H locs ls d0 hR hG hd0 hl
  have hx := X.1.1.1
  have hb := X.1.1.2.1
  obtain ⟨σ1, r, σ2, h1, h2, hR⟩ := hP σ hR
  refine lv_aload_n hx hb dL_law_1035 rfl (lv_at hl 2 rfl) ?_
  refine lx_callf (d0 := d0) X hd0 hG lay10_0 rfl rfl (C_X10_meanStrength l E h1 lay10_0) mw1055 mw1056 mw1057 mw51 (gw_ok mw1058 rfl) (by decide +kernel) ⟨(Nat.le_of_ble_eq_true rfl), (Nat.le_of_ble_eq_true rfl)⟩ hl.1 hcs dL_law_1036 (fun p1 H locs dn1 hG hal1 hdn1 => ?_)
  refine lv_f2d_any hdn1 lw_bits hx hb dL_law_1039 (fun P1 e1 hP1 he1 => ?_)
  refine lv_dstore (lv' := [(4, .double P1), (3, .int (Int32.ofNat i)), (2, .ref (E.1 248)), (1, .ref (E.1 0)), (0, .ref b)]) hx hb dL_law_1040 hl (by decide) rfl (fun ls hl => ?_)
  refine lv_aload_n hx hb dL_law_1042 rfl (lv_at hl 2 rfl) ?_
  refine lx_callf (d0 := e1) X he1 hG lay11_248 rfl rfl (C_X11_meanStrength l E h2 lay11_248) mw1458 mw1459 mw1460 mw62 (gw_ok mw1461 rfl) (by decide +kernel) ⟨(Nat.le_of_ble_eq_true rfl), (Nat.le_of_ble_eq_true rfl)⟩ hl.1 hcs dL_law_1043 (fun p2 H locs dn2 hG hal2 hdn2 => ?_)
  refine lv_f2d_any hdn2 lw_bits hx hb dL_law_1046 (fun P2 e2 hP2 he2 => ?_)
  refine lv_dstore (lv' := [(6, .double P2), (4, .double P1), (3, .int (Int32.ofNat i)), (2, .ref (E.1 248)), (1, .ref (E.1 0)), (0, .ref b)]) hx hb dL_law_1047 hl (by decide) rfl (fun ls hl => ?_)
  refine lv_dload hx hb dL_law_1049 (lv_at hl 1 rfl) ?_
  refine lv_dload hx hb dL_law_1051 (lv_at hl 0 rfl) ?_
  have ok : okDD P1 P2 := okDD_32 hal1 hal2 hP1 hP2
  have fin : ∀ (H : Heap) (locs : List Loc), GS E σ2 s.heap H locs → W p l e room_1 (s.setDrawn e2) m #[Value.ref b] below meth c H locs cells slots Q (F0 m 1181 ls []) := fun H locs hG => next σ2 H locs ls e2 hR hG he2 (lv_sub hl [2, 3, 4, 5] rfl)
  refine lv_dcmp hx hb dL_law_1053 ?_
  refine lv_if_eq (tgt := 1075) hx hb dL_law_1054 (by decide) (fun _ => ?_) (fun c1 => ?_)
  · refine lv_goto (tgt := 1181) hx hb dL_law_1075 (by decide) ?_
    exact fin _ _ hG
  · rcases ok with ok | ⟨ok1, ok2⟩
    · exact absurd (show Op.cmpValue (FP.dcmp P1 P2) _ = 0 by rw [show FP.dcmp P1 P2 = some .eq from ok]; rfl) c1
    · refine lv_dload hx hb dL_law_1057 (lv_at hl 1 rfl) ?_
      refine lv_dload hx hb dL_law_1059 (lv_at hl 1 rfl) ?_
      refine lv_dcmp hx hb dL_law_1061 ?_
      refine lv_if_eq (tgt := 1073) hx hb dL_law_1062 (by decide) (fun c2 => absurd c2 (by rw [show FP.dcmp P1 P1 = none from ok1]; decide)) (fun _ => ?_)
      refine lv_dload hx hb dL_law_1065 (lv_at hl 0 rfl) ?_
      refine lv_dload hx hb dL_law_1067 (lv_at hl 0 rfl) ?_
      refine lv_dcmp hx hb dL_law_1069 ?_
      refine lv_if_ne (tgt := 1075) hx hb dL_law_1070 (by decide) (fun _ => ?_) (fun c2 => absurd c2 (by rw [show FP.dcmp P2 P2 = none from ok2]; decide))
      refine lv_goto (tgt := 1181) hx hb dL_law_1075 (by decide) ?_
      exact fin _ _ hG
set_option maxRecDepth 20000 in
set_option maxHeartbeats 4000000 in
theorem lc_32 {Rel : St → Prop} {p : Program} {l : Launch} {e : Env} {s : State} {m : MethodId} {below : List Frame} {meth : Method} {c : Code} {b L i : Nat} {xs : Nat → Int32} {E : Ev} {cells slots : Nat} {Q : State → Prop} (hcs : cells + 0 ≤ room_1.cells ∧ slots + 0 ≤ room_1.slots) (X : LX E p m c s b L i xs) (hP : ∀ (σ : St), Rel σ → ∃ (σ1 : St) (r : UInt64) (σ2 : St), M_X10_doneShare σ 0 = some (σ1, r) ∧ M_X11_doneShare σ1 248 = some (σ2, r) ∧ Rel σ2) (next : ∀ (σ : St) (H : Heap) (locs : List Loc) (ls : Array Slot) (d0 : Drawn), Rel σ → GS E σ s.heap H locs → s.drawn.sameBut d0 lw_cs → lv_has ls 8 [(3, .int (Int32.ofNat i)), (2, .ref (E.1 248)), (1, .ref (E.1 0)), (0, .ref b)] → W p l e room_1 (s.setDrawn d0) m #[Value.ref b] below meth c H locs cells slots Q (F0 m 1181 ls [])) : ∀ (σ : St) (H : Heap) (locs : List Loc) (ls : Array Slot) (d0 : Drawn), Rel σ → GS E σ s.heap H locs → s.drawn.sameBut d0 lw_cs → lv_has ls 8 [(3, .int (Int32.ofNat i)), (2, .ref (E.1 248)), (1, .ref (E.1 0)), (0, .ref b)] → W p l e room_1 (s.setDrawn d0) m #[Value.ref b] below meth c H locs cells slots Q (F0 m 1078 ls []) := by
  intro σ H locs ls d0 hR hG hd0 hl
  have hx := X.1.1.1
  have hb := X.1.1.2.1
  obtain ⟨σ1, r, σ2, h1, h2, hR⟩ := hP σ hR
  refine lv_aload_n hx hb dL_law_1078 rfl (lv_at hl 2 rfl) ?_
  refine lx_calld (d0 := d0) X hd0 hG lay10_0 rfl rfl (C_X10_doneShare l E h1 lay10_0) mw1063 mw1064 mw1065 mw51 (gw_ok mw1066 rfl) (by decide +kernel) ⟨(Nat.le_of_ble_eq_true rfl), (Nat.le_of_ble_eq_true rfl)⟩ hl.1 hcs dL_law_1079 (fun p1 H locs dn1 hG hal1 hdn1 => ?_)
  refine lv_dstore (lv' := [(4, .double p1), (3, .int (Int32.ofNat i)), (2, .ref (E.1 248)), (1, .ref (E.1 0)), (0, .ref b)]) hx hb dL_law_1082 hl (by decide) rfl (fun ls hl => ?_)
  refine lv_aload_n hx hb dL_law_1084 rfl (lv_at hl 2 rfl) ?_
  refine lx_calld (d0 := dn1) X hdn1 hG lay11_248 rfl rfl (C_X11_doneShare l E h2 lay11_248) mw1462 mw1463 mw1464 mw62 (gw_ok mw1465 rfl) (by decide +kernel) ⟨(Nat.le_of_ble_eq_true rfl), (Nat.le_of_ble_eq_true rfl)⟩ hl.1 hcs dL_law_1085 (fun p2 H locs dn2 hG hal2 hdn2 => ?_)
  refine lv_dstore (lv' := [(6, .double p2), (4, .double p1), (3, .int (Int32.ofNat i)), (2, .ref (E.1 248)), (1, .ref (E.1 0)), (0, .ref b)]) hx hb dL_law_1088 hl (by decide) rfl (fun ls hl => ?_)
  refine lv_dload hx hb dL_law_1090 (lv_at hl 1 rfl) ?_
  refine lv_dload hx hb dL_law_1092 (lv_at hl 0 rfl) ?_
  have ok : okDD p1 p2 := okDD_64 hal1 hal2
  have fin : ∀ (H : Heap) (locs : List Loc), GS E σ2 s.heap H locs → W p l e room_1 (s.setDrawn dn2) m #[Value.ref b] below meth c H locs cells slots Q (F0 m 1181 ls []) := fun H locs hG => next σ2 H locs ls dn2 hR hG hdn2 (lv_sub hl [2, 3, 4, 5] rfl)
  refine lv_dcmp hx hb dL_law_1094 ?_
  refine lv_if_eq (tgt := 1116) hx hb dL_law_1095 (by decide) (fun _ => ?_) (fun c1 => ?_)
  · refine lv_goto (tgt := 1181) hx hb dL_law_1116 (by decide) ?_
    exact fin _ _ hG
  · rcases ok with ok | ⟨ok1, ok2⟩
    · exact absurd (show Op.cmpValue (FP.dcmp p1 p2) _ = 0 by rw [show FP.dcmp p1 p2 = some .eq from ok]; rfl) c1
    · refine lv_dload hx hb dL_law_1098 (lv_at hl 1 rfl) ?_
      refine lv_dload hx hb dL_law_1100 (lv_at hl 1 rfl) ?_
      refine lv_dcmp hx hb dL_law_1102 ?_
      refine lv_if_eq (tgt := 1114) hx hb dL_law_1103 (by decide) (fun c2 => absurd c2 (by rw [show FP.dcmp p1 p1 = none from ok1]; decide)) (fun _ => ?_)
      refine lv_dload hx hb dL_law_1106 (lv_at hl 0 rfl) ?_
      refine lv_dload hx hb dL_law_1108 (lv_at hl 0 rfl) ?_
      refine lv_dcmp hx hb dL_law_1110 ?_
      refine lv_if_ne (tgt := 1116) hx hb dL_law_1111 (by decide) (fun _ => ?_) (fun c2 => absurd c2 (by rw [show FP.dcmp p2 p2 = none from ok2]; decide))
      refine lv_goto (tgt := 1181) hx hb dL_law_1116 (by decide) ?_
      exact fin _ _ hG
set_option maxRecDepth 20000 in
set_option maxHeartbeats 4000000 in
theorem lc_33 {Rel : St → Prop} {p : Program} {l : Launch} {e : Env} {s : State} {m : MethodId} {below : List Frame} {meth : Method} {c : Code} {b L i : Nat} {xs : Nat → Int32} {E : Ev} {cells slots : Nat} {Q : State → Prop} (hcs : cells + 0 ≤ room_1.cells ∧ slots + 0 ≤ room_1.slots) (X : LX E p m c s b L i xs) (hP : ∀ (σ : St) (v0 : Int32), Rel σ → ∃ (σ1 : St) (r : Int32) (σ2 : St), M_X10_account σ 0 v0 = some (σ1, r) ∧ M_X11_account σ1 248 v0 = some (σ2, r) ∧ Rel σ2) (next : ∀ (σ : St) (H : Heap) (locs : List Loc) (ls : Array Slot) (d0 : Drawn), Rel σ → GS E σ s.heap H locs → s.drawn.sameBut d0 lw_cs → lv_has ls 8 [(3, .int (Int32.ofNat i)), (2, .ref (E.1 248)), (1, .ref (E.1 0)), (0, .ref b)] → W p l e room_1 (s.setDrawn d0) m #[Value.ref b] below meth c H locs cells slots Q (F0 m 1181 ls [])) : ∀ (σ : St) (H : Heap) (locs : List Loc) (ls : Array Slot) (d0 : Drawn), Rel σ → GS E σ s.heap H locs → s.drawn.sameBut d0 lw_cs → lv_has ls 8 [(3, .int (Int32.ofNat i)), (2, .ref (E.1 248)), (1, .ref (E.1 0)), (0, .ref b)] → W p l e room_1 (s.setDrawn d0) m #[Value.ref b] below meth c H locs cells slots Q (F0 m 1119 ls []) := by
  intro σ H locs ls d0 hR hG hd0 hl
  have hx := X.1.1.1
  have hb := X.1.1.2.1
  have lay10 : lay 10 0 := lay10_0
  have lay11 : lay 11 248 := lay11_248
  refine lv_aload_n hx hb dL_law_1119 rfl (lv_at hl 2 rfl) ?_
  refine lv_aload_n hx hb dL_law_1120 rfl (lv_at hl 3 rfl) ?_
  refine lv_iload_n hx hb dL_law_1121 rfl (lv_at hl 0 rfl) ?_
  refine lv_iconst (v := (1 : Int32)) hx hb dL_law_1122 (by decide) ?_
  refine lv_iadd hx hb dL_law_1123 ?_
  refine lx_ld X hG 1 (by decide) (of_add i 1) dL_law_1124 ?_
  obtain ⟨σ1, r, σ2, h1, h2, hR⟩ := hP σ (xs (i + 1)) hR
  have hM : bcall (M_X10_account σ 0 (xs (i + 1))) (fun a b => some (a, b)) = some (σ1, r) := by rw [h1]; rfl
  refine g_callV_i (nA := 1) (o := M_X10_account σ 0 (xs (i + 1))) (As := [.int (xs (i + 1))]) (cx_drawn d0 X.1) hG (lay10) rfl rfl (fun _ _ h => C_X10_account l E h (lay10)) mw1067 mw1068 mw1069 mw51 (gw_ok mw1070 rfl) (by decide +kernel) rfl ⟨(Nat.le_of_ble_eq_true rfl), (Nat.le_of_ble_eq_true rfl)⟩ hl.1 rfl (Nat.le_of_ble_eq_true rfl) hcs dL_law_1125 hM (fun σ9 r9 H locs hG hM9 => ?_)
  cases hM9
  refine lv_aload_n hx hb dL_law_1128 rfl (lv_at hl 1 rfl) ?_
  refine lv_aload_n hx hb dL_law_1129 rfl (lv_at hl 3 rfl) ?_
  refine lv_iload_n hx hb dL_law_1130 rfl (lv_at hl 0 rfl) ?_
  refine lv_iconst (v := (1 : Int32)) hx hb dL_law_1131 (by decide) ?_
  refine lv_iadd hx hb dL_law_1132 ?_
  refine lx_ld X hG 1 (by decide) (of_add i 1) dL_law_1133 ?_
  have hM : bcall (M_X11_account σ1 248 (xs (i + 1))) (fun a b => some (a, b)) = some (σ2, r) := by rw [h2]; rfl
  refine g_callV_i (nA := 1) (o := M_X11_account σ1 248 (xs (i + 1))) (As := [.int (xs (i + 1))]) (cx_drawn d0 X.1) hG (lay11) rfl rfl (fun _ _ h => C_X11_account l E h (lay11)) mw1466 mw1467 mw1468 mw62 (gw_ok mw1469 rfl) (by decide +kernel) rfl ⟨(Nat.le_of_ble_eq_true rfl), (Nat.le_of_ble_eq_true rfl)⟩ hl.1 rfl (Nat.le_of_ble_eq_true rfl) hcs dL_law_1134 hM (fun σ9 r9 H locs hG hM9 => ?_)
  cases hM9
  refine lv_icmp_eq (tgt := 1181) hx hb dL_law_1137 (by decide) (fun _ => ?_) (fun c => absurd rfl c)
  exact next _ _ _ _ d0 hR hG hd0 hl
set_option maxRecDepth 20000 in
set_option maxHeartbeats 4000000 in
theorem lc_34 {Rel : St → Prop} {p : Program} {l : Launch} {e : Env} {s : State} {m : MethodId} {below : List Frame} {meth : Method} {c : Code} {b L i : Nat} {xs : Nat → Int32} {E : Ev} {cells slots : Nat} {Q : State → Prop} (hcs : cells + 0 ≤ room_1.cells ∧ slots + 0 ≤ room_1.slots) (X : LX E p m c s b L i xs) (hP : ∀ (σ : St), Rel σ → ∃ (σ1 : St) (r : Int32) (σ2 : St), M_X10_undo σ 0  = some (σ1, r) ∧ M_X11_undo σ1 248  = some (σ2, r) ∧ Rel σ2) (next : ∀ (σ : St) (H : Heap) (locs : List Loc) (ls : Array Slot) (d0 : Drawn), Rel σ → GS E σ s.heap H locs → s.drawn.sameBut d0 lw_cs → lv_has ls 8 [(3, .int (Int32.ofNat i)), (2, .ref (E.1 248)), (1, .ref (E.1 0)), (0, .ref b)] → W p l e room_1 (s.setDrawn d0) m #[Value.ref b] below meth c H locs cells slots Q (F0 m 1181 ls [])) : ∀ (σ : St) (H : Heap) (locs : List Loc) (ls : Array Slot) (d0 : Drawn), Rel σ → GS E σ s.heap H locs → s.drawn.sameBut d0 lw_cs → lv_has ls 8 [(3, .int (Int32.ofNat i)), (2, .ref (E.1 248)), (1, .ref (E.1 0)), (0, .ref b)] → W p l e room_1 (s.setDrawn d0) m #[Value.ref b] below meth c H locs cells slots Q (F0 m 1142 ls []) := by
  intro σ H locs ls d0 hR hG hd0 hl
  have hx := X.1.1.1
  have hb := X.1.1.2.1
  have lay10 : lay 10 0 := lay10_0
  have lay11 : lay 11 248 := lay11_248
  refine lv_aload_n hx hb dL_law_1142 rfl (lv_at hl 2 rfl) ?_
  obtain ⟨σ1, r, σ2, h1, h2, hR⟩ := hP σ hR
  have hM : bcall (M_X10_undo σ 0) (fun a b => some (a, b)) = some (σ1, r) := by rw [h1]; rfl
  refine g_callV_i (nA := 0) (o := M_X10_undo σ 0) (As := []) (cx_drawn d0 X.1) hG (lay10) rfl rfl (fun _ _ h => C_X10_undo l E h (lay10)) mw1093 mw1094 mw1095 mw51 (gw_ok mw1096 rfl) (by decide +kernel) rfl ⟨(Nat.le_of_ble_eq_true rfl), (Nat.le_of_ble_eq_true rfl)⟩ hl.1 rfl (Nat.le_of_ble_eq_true rfl) hcs dL_law_1143 hM (fun σ9 r9 H locs hG hM9 => ?_)
  cases hM9
  refine lv_aload_n hx hb dL_law_1146 rfl (lv_at hl 1 rfl) ?_
  have hM : bcall (M_X11_undo σ1 248) (fun a b => some (a, b)) = some (σ2, r) := by rw [h2]; rfl
  refine g_callV_i (nA := 0) (o := M_X11_undo σ1 248) (As := []) (cx_drawn d0 X.1) hG (lay11) rfl rfl (fun _ _ h => C_X11_undo l E h (lay11)) mw1470 mw1471 mw1472 mw62 (gw_ok mw1473 rfl) (by decide +kernel) rfl ⟨(Nat.le_of_ble_eq_true rfl), (Nat.le_of_ble_eq_true rfl)⟩ hl.1 rfl (Nat.le_of_ble_eq_true rfl) hcs dL_law_1147 hM (fun σ9 r9 H locs hG hM9 => ?_)
  cases hM9
  refine lv_icmp_eq (tgt := 1181) hx hb dL_law_1150 (by decide) (fun _ => ?_) (fun c => absurd rfl c)
  exact next _ _ _ _ d0 hR hG hd0 hl
set_option maxRecDepth 20000 in
set_option maxHeartbeats 4000000 in
theorem lc_35 {Rel : St → Prop} {p : Program} {l : Launch} {e : Env} {s : State} {m : MethodId} {below : List Frame} {meth : Method} {c : Code} {b L i : Nat} {xs : Nat → Int32} {E : Ev} {cells slots : Nat} {Q : State → Prop} (hcs : cells + 0 ≤ room_1.cells ∧ slots + 0 ≤ room_1.slots) (X : LX E p m c s b L i xs) (hP : ∀ (σ : St), Rel σ → ∃ (σ1 : St) (r : Int32) (σ2 : St), M_X10_save σ 0  = some (σ1, r) ∧ M_X11_save σ1 248  = some (σ2, r) ∧ Rel σ2) (next : ∀ (σ : St) (H : Heap) (locs : List Loc) (ls : Array Slot) (d0 : Drawn), Rel σ → GS E σ s.heap H locs → s.drawn.sameBut d0 lw_cs → lv_has ls 8 [(3, .int (Int32.ofNat i)), (2, .ref (E.1 248)), (1, .ref (E.1 0)), (0, .ref b)] → W p l e room_1 (s.setDrawn d0) m #[Value.ref b] below meth c H locs cells slots Q (F0 m 1181 ls [])) : ∀ (σ : St) (H : Heap) (locs : List Loc) (ls : Array Slot) (d0 : Drawn), Rel σ → GS E σ s.heap H locs → s.drawn.sameBut d0 lw_cs → lv_has ls 8 [(3, .int (Int32.ofNat i)), (2, .ref (E.1 248)), (1, .ref (E.1 0)), (0, .ref b)] → W p l e room_1 (s.setDrawn d0) m #[Value.ref b] below meth c H locs cells slots Q (F0 m 1155 ls []) := by
  intro σ H locs ls d0 hR hG hd0 hl
  have hx := X.1.1.1
  have hb := X.1.1.2.1
  have lay10 : lay 10 0 := lay10_0
  have lay11 : lay 11 248 := lay11_248
  refine lv_aload_n hx hb dL_law_1155 rfl (lv_at hl 2 rfl) ?_
  obtain ⟨σ1, r, σ2, h1, h2, hR⟩ := hP σ hR
  have hM : bcall (M_X10_save σ 0) (fun a b => some (a, b)) = some (σ1, r) := by rw [h1]; rfl
  refine g_callV_i (nA := 0) (o := M_X10_save σ 0) (As := []) (cx_drawn d0 X.1) hG (lay10) rfl rfl (fun _ _ h => C_X10_save l E h (lay10)) mw1101 mw1102 mw1103 mw51 (gw_ok mw1104 rfl) (by decide +kernel) rfl ⟨(Nat.le_of_ble_eq_true rfl), (Nat.le_of_ble_eq_true rfl)⟩ hl.1 rfl (Nat.le_of_ble_eq_true rfl) hcs dL_law_1156 hM (fun σ9 r9 H locs hG hM9 => ?_)
  cases hM9
  refine lv_aload_n hx hb dL_law_1159 rfl (lv_at hl 1 rfl) ?_
  have hM : bcall (M_X11_save σ1 248) (fun a b => some (a, b)) = some (σ2, r) := by rw [h2]; rfl
  refine g_callV_i (nA := 0) (o := M_X11_save σ1 248) (As := []) (cx_drawn d0 X.1) hG (lay11) rfl rfl (fun _ _ h => C_X11_save l E h (lay11)) mw1474 mw1475 mw1476 mw62 (gw_ok mw1477 rfl) (by decide +kernel) rfl ⟨(Nat.le_of_ble_eq_true rfl), (Nat.le_of_ble_eq_true rfl)⟩ hl.1 rfl (Nat.le_of_ble_eq_true rfl) hcs dL_law_1160 hM (fun σ9 r9 H locs hG hM9 => ?_)
  cases hM9
  refine lv_icmp_eq (tgt := 1181) hx hb dL_law_1163 (by decide) (fun _ => ?_) (fun c => absurd rfl c)
  exact next _ _ _ _ d0 hR hG hd0 hl
set_option maxRecDepth 20000 in
set_option maxHeartbeats 4000000 in
theorem lc_36 {Rel : St → Prop} {p : Program} {l : Launch} {e : Env} {s : State} {m : MethodId} {below : List Frame} {meth : Method} {c : Code} {b L i : Nat} {xs : Nat → Int32} {E : Ev} {cells slots : Nat} {Q : State → Prop} (hcs : cells + 0 ≤ room_1.cells ∧ slots + 0 ≤ room_1.slots) (X : LX E p m c s b L i xs) (hP : ∀ (σ : St), Rel σ → ∃ (σ1 : St) (r : Int32) (σ2 : St), M_X10_restore σ 0  = some (σ1, r) ∧ M_X11_restore σ1 248  = some (σ2, r) ∧ Rel σ2) (next : ∀ (σ : St) (H : Heap) (locs : List Loc) (ls : Array Slot) (d0 : Drawn), Rel σ → GS E σ s.heap H locs → s.drawn.sameBut d0 lw_cs → lv_has ls 8 [(3, .int (Int32.ofNat i)), (2, .ref (E.1 248)), (1, .ref (E.1 0)), (0, .ref b)] → W p l e room_1 (s.setDrawn d0) m #[Value.ref b] below meth c H locs cells slots Q (F0 m 1181 ls [])) : ∀ (σ : St) (H : Heap) (locs : List Loc) (ls : Array Slot) (d0 : Drawn), Rel σ → GS E σ s.heap H locs → s.drawn.sameBut d0 lw_cs → lv_has ls 8 [(3, .int (Int32.ofNat i)), (2, .ref (E.1 248)), (1, .ref (E.1 0)), (0, .ref b)] → W p l e room_1 (s.setDrawn d0) m #[Value.ref b] below meth c H locs cells slots Q (F0 m 1168 ls []) := by
  intro σ H locs ls d0 hR hG hd0 hl
  have hx := X.1.1.1
  have hb := X.1.1.2.1
  have lay10 : lay 10 0 := lay10_0
  have lay11 : lay 11 248 := lay11_248
  refine lv_aload_n hx hb dL_law_1168 rfl (lv_at hl 2 rfl) ?_
  obtain ⟨σ1, r, σ2, h1, h2, hR⟩ := hP σ hR
  have hM : bcall (M_X10_restore σ 0) (fun a b => some (a, b)) = some (σ1, r) := by rw [h1]; rfl
  refine g_callV_i (nA := 0) (o := M_X10_restore σ 0) (As := []) (cx_drawn d0 X.1) hG (lay10) rfl rfl (fun _ _ h => C_X10_restore l E h (lay10)) mw1105 mw1106 mw1107 mw51 (gw_ok mw1108 rfl) (by decide +kernel) rfl ⟨(Nat.le_of_ble_eq_true rfl), (Nat.le_of_ble_eq_true rfl)⟩ hl.1 rfl (Nat.le_of_ble_eq_true rfl) hcs dL_law_1169 hM (fun σ9 r9 H locs hG hM9 => ?_)
  cases hM9
  refine lv_aload_n hx hb dL_law_1172 rfl (lv_at hl 1 rfl) ?_
  have hM : bcall (M_X11_restore σ1 248) (fun a b => some (a, b)) = some (σ2, r) := by rw [h2]; rfl
  refine g_callV_i (nA := 0) (o := M_X11_restore σ1 248) (As := []) (cx_drawn d0 X.1) hG (lay11) rfl rfl (fun _ _ h => C_X11_restore l E h (lay11)) mw1478 mw1479 mw1480 mw62 (gw_ok mw1481 rfl) (by decide +kernel) rfl ⟨(Nat.le_of_ble_eq_true rfl), (Nat.le_of_ble_eq_true rfl)⟩ hl.1 rfl (Nat.le_of_ble_eq_true rfl) hcs dL_law_1173 hM (fun σ9 r9 H locs hG hM9 => ?_)
  cases hM9
  refine lv_icmp_eq (tgt := 1181) hx hb dL_law_1176 (by decide) (fun _ => ?_) (fun c => absurd rfl c)
  exact next _ _ _ _ d0 hR hG hd0 hl
/-- what must hold of each pair of methods -/
def AllP (Rel : St → Prop) : Prop := (∀ (σ : St), Rel σ → ∃ (σ1 : St) (r : Int32) (σ2 : St), M_X10_clear σ 0  = some (σ1, r) ∧ M_X11_clear σ1 248  = some (σ2, r) ∧ Rel σ2) ∧ (∀ (σ : St) (v0 : Int32), Rel σ → ∃ (σ1 : St) (r : Int32) (σ2 : St), M_X10_append σ 0 v0 = some (σ1, r) ∧ M_X11_append σ1 248 v0 = some (σ2, r) ∧ Rel σ2) ∧ (∀ (σ : St) (v0 v1 : Int32), Rel σ → ∃ (σ1 : St) (r : Int32) (σ2 : St), M_X10_bundle σ 0 v0 v1 = some (σ1, r) ∧ M_X11_bundle σ1 248 v0 v1 = some (σ2, r) ∧ Rel σ2) ∧ (∀ (σ : St) (v0 : Int32), Rel σ → ∃ (σ1 : St) (r : Int32) (σ2 : St), M_X10_strips σ 0 v0 = some (σ1, r) ∧ M_X11_strips σ1 248 v0 = some (σ2, r) ∧ Rel σ2) ∧ (∀ (σ : St) (v0 v1 v2 : Int32), Rel σ → ∃ (σ1 : St) (r : Int32) (σ2 : St), M_X10_build σ 0 v0 v1 v2 = some (σ1, r) ∧ M_X11_build σ1 248 v0 v1 v2 = some (σ2, r) ∧ Rel σ2) ∧ (∀ (σ : St) (v0 : Int32), Rel σ → ∃ (σ1 : St) (r : Int32) (σ2 : St), M_X10_tie σ 0 v0 = some (σ1, r) ∧ M_X11_tie σ1 248 v0 = some (σ2, r) ∧ Rel σ2) ∧ (∀ (σ : St) (v0 : Int32), Rel σ → ∃ (σ1 : St) (r : Int32) (σ2 : St), M_X10_crew σ 0 v0 = some (σ1, r) ∧ M_X11_crew σ1 248 v0 = some (σ2, r) ∧ Rel σ2) ∧ (∀ (σ : St) (v0 v1 : Int32), Rel σ → ∃ (σ1 : St) (r : Int32) (σ2 : St), M_X10_up σ 0 v0 v1 = some (σ1, r) ∧ M_X11_up σ1 248 v0 v1 = some (σ2, r) ∧ Rel σ2) ∧ (∀ (σ : St) (v0 : Int32), Rel σ → ∃ (σ1 : St) (r : Int32) (σ2 : St), M_X10_down σ 0 v0 = some (σ1, r) ∧ M_X11_down σ1 248 v0 = some (σ2, r) ∧ Rel σ2) ∧ (∀ (σ : St) (v0 v1 : Int32), Rel σ → ∃ (σ1 : St) (r : Int32) (σ2 : St), M_X10_lift σ 0 v0 v1 = some (σ1, r) ∧ M_X11_lift σ1 248 v0 v1 = some (σ2, r) ∧ Rel σ2) ∧ (∀ (σ : St) (v0 : Int32), Rel σ → ∃ (σ1 : St) (r : Int32) (σ2 : St), M_X10_signal σ 0 v0 = some (σ1, r) ∧ M_X11_signal σ1 248 v0 = some (σ2, r) ∧ Rel σ2) ∧ (∀ (σ : St) (v0 : Int32), Rel σ → ∃ (σ1 : St) (r : Int32) (σ2 : St), M_X10_inspector σ 0 v0 = some (σ1, r) ∧ M_X11_inspector σ1 248 v0 = some (σ2, r) ∧ Rel σ2) ∧ (∀ (σ : St) (v0 v1 : Int32), Rel σ → ∃ (σ1 : St) (r : Int32) (σ2 : St), M_X10_inspect σ 0 v0 v1 = some (σ1, r) ∧ M_X11_inspect σ1 248 v0 v1 = some (σ2, r) ∧ Rel σ2) ∧ (∀ (σ : St) (v0 : Int32), Rel σ → ∃ (σ1 : St) (r : Int32) (σ2 : St), M_X10_day σ 0 v0 = some (σ1, r) ∧ M_X11_day σ1 248 v0 = some (σ2, r) ∧ Rel σ2) ∧ (∀ (σ : St), Rel σ → ∃ (σ1 : St) (r : Int32) (σ2 : St), M_X10_script σ 0  = some (σ1, r) ∧ M_X11_script σ1 248  = some (σ2, r) ∧ Rel σ2) ∧ (∀ (σ : St), Rel σ → ∃ (σ1 : St) (r : Int32) (σ2 : St), M_X10_fault σ 0  = some (σ1, r) ∧ M_X11_fault σ1 248  = some (σ2, r) ∧ Rel σ2) ∧ (∀ (σ : St) (v0 v1 : Int32), okZ v1 = true → Rel σ → ∃ (σ1 : St) (r : Int32) (σ2 : St), M_X10_reason σ 0 v0 v1 = some (σ1, r) ∧ M_X11_reason σ1 248 v0 v1 = some (σ2, r) ∧ Rel σ2) ∧ (∀ (σ : St) (v0 v1 : Int32), okZ v1 = true → Rel σ → ∃ (σ1 : St) (r : Int32) (σ2 : St), M_X10_bundleOf σ 0 v0 v1 = some (σ1, r) ∧ M_X11_bundleOf σ1 248 v0 v1 = some (σ2, r) ∧ Rel σ2) ∧ (∀ (σ : St) (v0 v1 : Int32), Rel σ → ∃ (σ1 : St) (r : Int32) (σ2 : St), M_X10_storeyOf σ 0 v0 v1 = some (σ1, r) ∧ M_X11_storeyOf σ1 248 v0 v1 = some (σ2, r) ∧ Rel σ2) ∧ (∀ (σ : St) (v0 v1 : Int32), okZ v1 = true → Rel σ → ∃ (σ1 : St) (r : Int32) (σ2 : St), M_X10_strength σ 0 v0 v1 = some (σ1, r) ∧ M_X11_strength σ1 248 v0 v1 = some (σ2, r) ∧ Rel σ2) ∧ (∀ (σ : St), Rel σ → ∃ (σ1 : St) (r : Int32) (σ2 : St), M_X10_weakest σ 0  = some (σ1, r) ∧ M_X11_weakest σ1 248  = some (σ2, r) ∧ Rel σ2) ∧ (∀ (σ : St) (v0 : Int32), Rel σ → ∃ (σ1 : St) (r : Int32) (σ2 : St), M_X10_oldest σ 0 v0 = some (σ1, r) ∧ M_X11_oldest σ1 248 v0 = some (σ2, r) ∧ Rel σ2) ∧ (∀ (σ : St) (v0 v1 : Int32), Rel σ → ∃ (σ1 : St) (r : Int32) (σ2 : St), M_X10_crewOf σ 0 v0 v1 = some (σ1, r) ∧ M_X11_crewOf σ1 248 v0 v1 = some (σ2, r) ∧ Rel σ2) ∧ (∀ (σ : St) (v0 v1 : Int32), Rel σ → ∃ (σ1 : St) (r : Int32) (σ2 : St), M_X10_inspectorOf σ 0 v0 v1 = some (σ1, r) ∧ M_X11_inspectorOf σ1 248 v0 v1 = some (σ2, r) ∧ Rel σ2) ∧ (∀ (σ : St), Rel σ → ∃ (σ1 : St) (r : Int32) (σ2 : St), M_X10_highest σ 0  = some (σ1, r) ∧ M_X11_highest σ1 248  = some (σ2, r) ∧ Rel σ2) ∧ (∀ (σ : St) (v0 : Int32), Rel σ → ∃ (σ1 : St) (r : Int32) (σ2 : St), M_X10_wouldFall σ 0 v0 = some (σ1, r) ∧ M_X11_wouldFall σ1 248 v0 = some (σ2, r) ∧ Rel σ2) ∧ (∀ (σ : St) (v0 : Int32), Rel σ → ∃ (σ1 : St) (r : Int32) (σ2 : St), M_X10_oldIn σ 0 v0 = some (σ1, r) ∧ M_X11_oldIn σ1 248 v0 = some (σ2, r) ∧ Rel σ2) ∧ (∀ (σ : St) (v0 : Int32), Rel σ → ∃ (σ1 : St) (r : Int32) (σ2 : St), M_X10_doneIn σ 0 v0 = some (σ1, r) ∧ M_X11_doneIn σ1 248 v0 = some (σ2, r) ∧ Rel σ2) ∧ (∀ (σ : St), Rel σ → ∃ (σ1 : St) (r : Int32) (σ2 : St), M_X10_describe σ 0  = some (σ1, r) ∧ M_X11_describe σ1 248  = some (σ2, r) ∧ Rel σ2) ∧ (∀ (σ : St) (v0 : Int32), Rel σ → ∃ (σ1 : St) (r : Int32) (σ2 : St), M_X10_written σ 0 v0 = some (σ1, r) ∧ M_X11_written σ1 248 v0 = some (σ2, r) ∧ Rel σ2) ∧ (∀ (σ : St) (v0 : Int32), okZ v0 = true → Rel σ → ∃ (σ1 : St) (r : Int32) (σ2 : St), M_X10_work σ 0 v0 = some (σ1, r) ∧ M_X11_work σ1 248 v0 = some (σ2, r) ∧ Rel σ2) ∧ (∀ (σ : St), Rel σ → ∃ (σ1 : St) (r : UInt32) (σ2 : St), M_X10_meanStrength σ 0 = some (σ1, r) ∧ M_X11_meanStrength σ1 248 = some (σ2, r) ∧ Rel σ2) ∧ (∀ (σ : St), Rel σ → ∃ (σ1 : St) (r : UInt64) (σ2 : St), M_X10_doneShare σ 0 = some (σ1, r) ∧ M_X11_doneShare σ1 248 = some (σ2, r) ∧ Rel σ2) ∧ (∀ (σ : St) (v0 : Int32), Rel σ → ∃ (σ1 : St) (r : Int32) (σ2 : St), M_X10_account σ 0 v0 = some (σ1, r) ∧ M_X11_account σ1 248 v0 = some (σ2, r) ∧ Rel σ2) ∧ (∀ (σ : St), Rel σ → ∃ (σ1 : St) (r : Int32) (σ2 : St), M_X10_undo σ 0  = some (σ1, r) ∧ M_X11_undo σ1 248  = some (σ2, r) ∧ Rel σ2) ∧ (∀ (σ : St), Rel σ → ∃ (σ1 : St) (r : Int32) (σ2 : St), M_X10_save σ 0  = some (σ1, r) ∧ M_X11_save σ1 248  = some (σ2, r) ∧ Rel σ2) ∧ (∀ (σ : St), Rel σ → ∃ (σ1 : St) (r : Int32) (σ2 : St), M_X10_restore σ 0  = some (σ1, r) ∧ M_X11_restore σ1 248  = some (σ2, r) ∧ Rel σ2)
set_option maxRecDepth 20000 in
set_option maxHeartbeats 4000000 in
theorem law_loop {Rel : St → Prop} {p : Program} {l : Launch} {e : Env} {s : State} {m : MethodId} {below : List Frame} {meth : Method} {c : Code} {b L : Nat} {xs : Nat → Int32} {E : Ev} {cells slots : Nat} {Q : State → Prop} (hcs : cells + 0 ≤ room_1.cells ∧ slots + 0 ≤ room_1.slots) (HP : AllP Rel) (hL : L ≤ 2048) (hC : Cx E p m c code 8 s #[Value.ref b] R_law) (hX : va_X b L xs s s.heap) (hbl : b < s.heap.size) (hbA : ¬ AE E b) (fin : ∀ (H : Heap) (locs : List Loc) (ls : Array Slot) (d0 : Drawn), va_S (AE E) s.heap H locs → s.drawn.sameBut d0 lw_cs → W p l e room_1 (s.setDrawn d0) m #[Value.ref b] below meth c H locs cells slots Q (F0 m 1187 ls [])) : ∀ (n i : Nat), L + 4 < i + n → i ≤ L + 4 → ∀ (σ : St) (H : Heap) (locs : List Loc) (ls : Array Slot) (d0 : Drawn), Rel σ → GS E σ s.heap H locs → s.drawn.sameBut d0 lw_cs → lv_has ls 8 [(3, .int (Int32.ofNat i)), (2, .ref (E.1 248)), (1, .ref (E.1 0)), (0, .ref b)] → W p l e room_1 (s.setDrawn d0) m #[Value.ref b] below meth c H locs cells slots Q (F0 m 18 ls []) := by
  obtain ⟨f0, f1, f2, f3, f4, f5, f6, f7, f8, f9, f10, f11, f12, f13, f14, f15, f16, f17, f18, f19, f20, f21, f22, f23, f24, f25, f26, f27, f28, f29, f30, f31, f32, f33, f34, f35, f36⟩ := HP
  intro n
  induction n with
  | zero => intro i h1 h2; omega
  | succ n ih =>
    intro i h1 h2 σ H locs ls d0 hR hG hd0 hl
    have hx := hC.1.1
    have hb := hC.1.2.1
    refine lv_iload_n hx hb dL_law_18 rfl (lv_at hl 0 rfl) ?_
    refine lv_aload_n hx hb dL_law_19 rfl (lv_at hl 3 rfl) ?_
    refine va_slen (H0 := (s.setDrawn d0).heap) hx hb (va_X.moved (u := s) (U := s.setDrawn d0) (Vm.Alike.refl _) hX) hbl hbA hG.2.2 dL_law_20 ?_
    refine lv_iconst (v := (4 : Int32)) hx hb dL_law_21 (by decide) ?_
    refine lv_isub hx hb dL_law_22 ?_
    have hcmp : Int32.ofNat L - 4 < Int32.ofNat i ↔ L < i + 4 := by
      rw [Int32.lt_iff_toInt_lt, Int32.toInt_sub, Int32.toInt_ofNat_of_lt (by omega), Int32.toInt_ofNat_of_lt (by omega)]
      have : (4 : Int32).toInt = 4 := rfl
      rw [this, Int.bmod_eq_of_le (by omega) (by omega)]
      omega
    refine lv_icmp_gt (tgt := 1187) hx hb dL_law_23 (by decide) (fun _ => fin _ _ _ _ hG.2.2 hd0) (fun c1 => ?_)
    have h4 : i + 4 ≤ L := by
      have : ¬ L < i + 4 := fun q => c1 (hcmp.mpr q)
      omega
    have X : LX E p m c s b L i xs := ⟨hC, hX, hbl, hbA, h4, hL⟩
    have next : ∀ (σ : St) (H : Heap) (locs : List Loc) (ls : Array Slot) (d0 : Drawn), Rel σ → GS E σ s.heap H locs → s.drawn.sameBut d0 lw_cs → lv_has ls 8 [(3, .int (Int32.ofNat i)), (2, .ref (E.1 248)), (1, .ref (E.1 0)), (0, .ref b)] → W p l e room_1 (s.setDrawn d0) m #[Value.ref b] below meth c H locs cells slots Q (F0 m 1181 ls []) := by
      intro σ H locs ls d0 hR hG hd0 hl
      refine lv_iinc (v := Int32.ofNat (i + 4)) (lv' := [(3, .int (Int32.ofNat (i + 4))), (2, .ref (E.1 248)), (1, .ref (E.1 0)), (0, .ref b)]) hx hb dL_law_1181 hl (k := 0) rfl (of_add i 4) (by decide) rfl (fun ls hl => ?_)
      refine lv_goto (tgt := 18) hx hb dL_law_1184 (by decide) ?_
      exact ih (i + 4) (by omega) (by omega) σ H locs ls d0 hR hG hd0 hl
    refine lv_aload_n hx hb dL_law_26 rfl (lv_at hl 3 rfl) ?_
    refine lv_iload_n hx hb dL_law_27 rfl (lv_at hl 0 rfl) ?_
    refine lx_ld X hG 0 (by decide) rfl dL_law_28 ?_
    refine lv_bipush (v := (63 : Int32)) hx hb dL_law_29 (by decide) ?_
    refine lv_iand hx hb dL_law_31 ?_
    generalize xs (i + 0) &&& 63 = x
    by_cases c0 : x.toInt < 0 ∨ 36 < x.toInt
    · refine lv_tableOut (tgt := 1181) hx hb dL_law_32 c0 (by decide) ?_
      exact next σ H locs ls d0 hR hG hd0 hl
    by_cases c2 : x.toInt = 0
    · refine lv_tableIn (tgt := 196) hx hb dL_law_32 (fun h => c0 (Or.inl h)) (fun h => c0 (Or.inr h)) (by rw [c2]; rfl) (by decide) ?_
      exact lc_0 hcs X f0 next σ H locs ls d0 hR hG hd0 hl
    by_cases c3 : x.toInt = 1
    · refine lv_tableIn (tgt := 209) hx hb dL_law_32 (fun h => c0 (Or.inl h)) (fun h => c0 (Or.inr h)) (by rw [c3]; rfl) (by decide) ?_
      exact lc_1 hcs X f1 next σ H locs ls d0 hR hG hd0 hl
    by_cases c4 : x.toInt = 2
    · refine lv_tableIn (tgt := 234) hx hb dL_law_32 (fun h => c0 (Or.inl h)) (fun h => c0 (Or.inr h)) (by rw [c4]; rfl) (by decide) ?_
      exact lc_2 hcs X f2 next σ H locs ls d0 hR hG hd0 hl
    by_cases c5 : x.toInt = 3
    · refine lv_tableIn (tgt := 267) hx hb dL_law_32 (fun h => c0 (Or.inl h)) (fun h => c0 (Or.inr h)) (by rw [c5]; rfl) (by decide) ?_
      exact lc_3 hcs X f3 next σ H locs ls d0 hR hG hd0 hl
    by_cases c6 : x.toInt = 4
    · refine lv_tableIn (tgt := 290) hx hb dL_law_32 (fun h => c0 (Or.inl h)) (fun h => c0 (Or.inr h)) (by rw [c6]; rfl) (by decide) ?_
      exact lc_4 hcs X f4 next σ H locs ls d0 hR hG hd0 hl
    by_cases c7 : x.toInt = 5
    · refine lv_tableIn (tgt := 333) hx hb dL_law_32 (fun h => c0 (Or.inl h)) (fun h => c0 (Or.inr h)) (by rw [c7]; rfl) (by decide) ?_
      exact lc_5 hcs X f5 next σ H locs ls d0 hR hG hd0 hl
    by_cases c8 : x.toInt = 6
    · refine lv_tableIn (tgt := 356) hx hb dL_law_32 (fun h => c0 (Or.inl h)) (fun h => c0 (Or.inr h)) (by rw [c8]; rfl) (by decide) ?_
      exact lc_6 hcs X f6 next σ H locs ls d0 hR hG hd0 hl
    by_cases c9 : x.toInt = 7
    · refine lv_tableIn (tgt := 379) hx hb dL_law_32 (fun h => c0 (Or.inl h)) (fun h => c0 (Or.inr h)) (by rw [c9]; rfl) (by decide) ?_
      exact lc_7 hcs X f7 next σ H locs ls d0 hR hG hd0 hl
    by_cases c10 : x.toInt = 8
    · refine lv_tableIn (tgt := 412) hx hb dL_law_32 (fun h => c0 (Or.inl h)) (fun h => c0 (Or.inr h)) (by rw [c10]; rfl) (by decide) ?_
      exact lc_8 hcs X f8 next σ H locs ls d0 hR hG hd0 hl
    by_cases c11 : x.toInt = 9
    · refine lv_tableIn (tgt := 435) hx hb dL_law_32 (fun h => c0 (Or.inl h)) (fun h => c0 (Or.inr h)) (by rw [c11]; rfl) (by decide) ?_
      exact lc_9 hcs X f9 next σ H locs ls d0 hR hG hd0 hl
    by_cases c12 : x.toInt = 10
    · refine lv_tableIn (tgt := 468) hx hb dL_law_32 (fun h => c0 (Or.inl h)) (fun h => c0 (Or.inr h)) (by rw [c12]; rfl) (by decide) ?_
      exact lc_10 hcs X f10 next σ H locs ls d0 hR hG hd0 hl
    by_cases c13 : x.toInt = 11
    · refine lv_tableIn (tgt := 491) hx hb dL_law_32 (fun h => c0 (Or.inl h)) (fun h => c0 (Or.inr h)) (by rw [c13]; rfl) (by decide) ?_
      exact lc_11 hcs X f11 next σ H locs ls d0 hR hG hd0 hl
    by_cases c14 : x.toInt = 12
    · refine lv_tableIn (tgt := 514) hx hb dL_law_32 (fun h => c0 (Or.inl h)) (fun h => c0 (Or.inr h)) (by rw [c14]; rfl) (by decide) ?_
      exact lc_12 hcs X f12 next σ H locs ls d0 hR hG hd0 hl
    by_cases c15 : x.toInt = 13
    · refine lv_tableIn (tgt := 547) hx hb dL_law_32 (fun h => c0 (Or.inl h)) (fun h => c0 (Or.inr h)) (by rw [c15]; rfl) (by decide) ?_
      exact lc_13 hcs X f13 next σ H locs ls d0 hR hG hd0 hl
    by_cases c16 : x.toInt = 14
    · refine lv_tableIn (tgt := 570) hx hb dL_law_32 (fun h => c0 (Or.inl h)) (fun h => c0 (Or.inr h)) (by rw [c16]; rfl) (by decide) ?_
      exact lc_14 hcs X f14 next σ H locs ls d0 hR hG hd0 hl
    by_cases c17 : x.toInt = 15
    · refine lv_tableIn (tgt := 583) hx hb dL_law_32 (fun h => c0 (Or.inl h)) (fun h => c0 (Or.inr h)) (by rw [c17]; rfl) (by decide) ?_
      exact lc_15 hcs X f15 next σ H locs ls d0 hR hG hd0 hl
    by_cases c18 : x.toInt = 16
    · refine lv_tableIn (tgt := 596) hx hb dL_law_32 (fun h => c0 (Or.inl h)) (fun h => c0 (Or.inr h)) (by rw [c18]; rfl) (by decide) ?_
      exact lc_16 hcs X f16 next σ H locs ls d0 hR hG hd0 hl
    by_cases c19 : x.toInt = 17
    · refine lv_tableIn (tgt := 645) hx hb dL_law_32 (fun h => c0 (Or.inl h)) (fun h => c0 (Or.inr h)) (by rw [c19]; rfl) (by decide) ?_
      exact lc_17 hcs X f17 next σ H locs ls d0 hR hG hd0 hl
    by_cases c20 : x.toInt = 18
    · refine lv_tableIn (tgt := 694) hx hb dL_law_32 (fun h => c0 (Or.inl h)) (fun h => c0 (Or.inr h)) (by rw [c20]; rfl) (by decide) ?_
      exact lc_18 hcs X f18 next σ H locs ls d0 hR hG hd0 hl
    by_cases c21 : x.toInt = 19
    · refine lv_tableIn (tgt := 727) hx hb dL_law_32 (fun h => c0 (Or.inl h)) (fun h => c0 (Or.inr h)) (by rw [c21]; rfl) (by decide) ?_
      exact lc_19 hcs X f19 next σ H locs ls d0 hR hG hd0 hl
    by_cases c22 : x.toInt = 20
    · refine lv_tableIn (tgt := 776) hx hb dL_law_32 (fun h => c0 (Or.inl h)) (fun h => c0 (Or.inr h)) (by rw [c22]; rfl) (by decide) ?_
      exact lc_20 hcs X f20 next σ H locs ls d0 hR hG hd0 hl
    by_cases c23 : x.toInt = 21
    · refine lv_tableIn (tgt := 789) hx hb dL_law_32 (fun h => c0 (Or.inl h)) (fun h => c0 (Or.inr h)) (by rw [c23]; rfl) (by decide) ?_
      exact lc_21 hcs X f21 next σ H locs ls d0 hR hG hd0 hl
    by_cases c24 : x.toInt = 22
    · refine lv_tableIn (tgt := 812) hx hb dL_law_32 (fun h => c0 (Or.inl h)) (fun h => c0 (Or.inr h)) (by rw [c24]; rfl) (by decide) ?_
      exact lc_22 hcs X f22 next σ H locs ls d0 hR hG hd0 hl
    by_cases c25 : x.toInt = 23
    · refine lv_tableIn (tgt := 845) hx hb dL_law_32 (fun h => c0 (Or.inl h)) (fun h => c0 (Or.inr h)) (by rw [c25]; rfl) (by decide) ?_
      exact lc_23 hcs X f23 next σ H locs ls d0 hR hG hd0 hl
    by_cases c26 : x.toInt = 24
    · refine lv_tableIn (tgt := 878) hx hb dL_law_32 (fun h => c0 (Or.inl h)) (fun h => c0 (Or.inr h)) (by rw [c26]; rfl) (by decide) ?_
      exact lc_24 hcs X f24 next σ H locs ls d0 hR hG hd0 hl
    by_cases c27 : x.toInt = 25
    · refine lv_tableIn (tgt := 891) hx hb dL_law_32 (fun h => c0 (Or.inl h)) (fun h => c0 (Or.inr h)) (by rw [c27]; rfl) (by decide) ?_
      exact lc_25 hcs X f25 next σ H locs ls d0 hR hG hd0 hl
    by_cases c28 : x.toInt = 26
    · refine lv_tableIn (tgt := 914) hx hb dL_law_32 (fun h => c0 (Or.inl h)) (fun h => c0 (Or.inr h)) (by rw [c28]; rfl) (by decide) ?_
      exact lc_26 hcs X f26 next σ H locs ls d0 hR hG hd0 hl
    by_cases c29 : x.toInt = 27
    · refine lv_tableIn (tgt := 937) hx hb dL_law_32 (fun h => c0 (Or.inl h)) (fun h => c0 (Or.inr h)) (by rw [c29]; rfl) (by decide) ?_
      exact lc_27 hcs X f27 next σ H locs ls d0 hR hG hd0 hl
    by_cases c30 : x.toInt = 28
    · refine lv_tableIn (tgt := 960) hx hb dL_law_32 (fun h => c0 (Or.inl h)) (fun h => c0 (Or.inr h)) (by rw [c30]; rfl) (by decide) ?_
      exact lc_28 hcs X f28 next σ H locs ls d0 hR hG hd0 hl
    by_cases c31 : x.toInt = 29
    · refine lv_tableIn (tgt := 973) hx hb dL_law_32 (fun h => c0 (Or.inl h)) (fun h => c0 (Or.inr h)) (by rw [c31]; rfl) (by decide) ?_
      exact lc_29 hcs X f29 next σ H locs ls d0 hR hG hd0 hl
    by_cases c32 : x.toInt = 30
    · refine lv_tableIn (tgt := 996) hx hb dL_law_32 (fun h => c0 (Or.inl h)) (fun h => c0 (Or.inr h)) (by rw [c32]; rfl) (by decide) ?_
      exact lc_30 hcs X f30 next σ H locs ls d0 hR hG hd0 hl
    by_cases c33 : x.toInt = 31
    · refine lv_tableIn (tgt := 1035) hx hb dL_law_32 (fun h => c0 (Or.inl h)) (fun h => c0 (Or.inr h)) (by rw [c33]; rfl) (by decide) ?_
      exact lc_31 hcs X f31 next σ H locs ls d0 hR hG hd0 hl
    by_cases c34 : x.toInt = 32
    · refine lv_tableIn (tgt := 1078) hx hb dL_law_32 (fun h => c0 (Or.inl h)) (fun h => c0 (Or.inr h)) (by rw [c34]; rfl) (by decide) ?_
      exact lc_32 hcs X f32 next σ H locs ls d0 hR hG hd0 hl
    by_cases c35 : x.toInt = 33
    · refine lv_tableIn (tgt := 1119) hx hb dL_law_32 (fun h => c0 (Or.inl h)) (fun h => c0 (Or.inr h)) (by rw [c35]; rfl) (by decide) ?_
      exact lc_33 hcs X f33 next σ H locs ls d0 hR hG hd0 hl
    by_cases c36 : x.toInt = 34
    · refine lv_tableIn (tgt := 1142) hx hb dL_law_32 (fun h => c0 (Or.inl h)) (fun h => c0 (Or.inr h)) (by rw [c36]; rfl) (by decide) ?_
      exact lc_34 hcs X f34 next σ H locs ls d0 hR hG hd0 hl
    by_cases c37 : x.toInt = 35
    · refine lv_tableIn (tgt := 1155) hx hb dL_law_32 (fun h => c0 (Or.inl h)) (fun h => c0 (Or.inr h)) (by rw [c37]; rfl) (by decide) ?_
      exact lc_35 hcs X f35 next σ H locs ls d0 hR hG hd0 hl
    by_cases c38 : x.toInt = 36
    · refine lv_tableIn (tgt := 1168) hx hb dL_law_32 (fun h => c0 (Or.inl h)) (fun h => c0 (Or.inr h)) (by rw [c38]; rfl) (by decide) ?_
      exact lc_36 hcs X f36 next σ H locs ls d0 hR hG hd0 hl
    omega
