theorem mw247 : Cond.arrayOver (.object SCF) ∈ lw_tbl := List.mem_of_getElem? (i := 247) (by decide +kernel)
theorem mw775 : Cond.laysStatic "java/lang/String" "COMPACT_STRINGS" "Z" ∈ lw_tbl := List.mem_of_getElem? (i := 775) (by decide +kernel)
theorem mw791 : Cond.laysStatic "jdk/internal/util/Preconditions" "SIOOBE_FORMATTER" "Ljava/util/function/BiFunction;" ∈ lw_tbl := List.mem_of_getElem? (i := 791) (by decide +kernel)
theorem mw1162 : Cond.privateMethod yJ5_ensureCapacityInternal_d00df ∈ lw_tbl := List.mem_of_getElem? (i := 1162) (by decide +kernel)
theorem mw1212 : Cond.privateMethod yJ5_putStringAt_47b60 ∈ lw_tbl := List.mem_of_getElem? (i := 1212) (by decide +kernel)
theorem mw1216 : Cond.privateMethod yJ5_inflateIfNeededFor_a7421 ∈ lw_tbl := List.mem_of_getElem? (i := 1216) (by decide +kernel)
theorem mw1259 : Cond.laysStatic "java/lang/Integer" "DigitOnes" "[B" ∈ lw_tbl := List.mem_of_getElem? (i := 1259) (by decide +kernel)
theorem lay10_0 : lay 10 0 := by unfold lay; decide +kernel
theorem lt16 {P : Nat → Prop} (h : ∀ i : Fin 16, P i.val) : ∀ i : Nat, i < 16 → P i := fun i hi => h ⟨i, hi⟩
abbrev tmS (i : Nat) : Term := Term.string (stO i) (stI i)
abbrev gN : Cond := Jvm.Cond.and given_1 narrow_1
abbrev fV (i : Nat) : Term := Term.field (tmS i) "java/lang/String" "value" "[B"
abbrev tmD : Term := Term.static "java/lang/Integer" "DigitOnes" "[B"
def ixE : List Nat := [215, 224, 230, 239, 249, 258, 501, 267, 278, 291, 304, 318, 334, 350, 367, 389]
def ixC : List Nat := [216, 225, 231, 240, 250, 259, 502, 268, 279, 292, 305, 319, 335, 351, 368, 390]
def ixA : List Nat := [217, 226, 232, 241, 251, 260, 503, 269, 280, 293, 306, 320, 336, 352, 369, 391]
def ixL : List Nat := [218, 227, 233, 242, 252, 261, 504, 270, 281, 294, 307, 321, 337, 353, 370, 392]
def ixX : List (List Nat) := [[219, 220, 221, 222, 223], [228], [234, 235, 236], [243, 244, 245], [253], [], [505, 506, 507, 508], [271], [282, 283], [295], [308], [322, 323], [338], [354], [371, 372, 373, 374, 375], [393, 394, 395, 396, 397, 398, 399, 400, 401, 402, 403, 404, 405, 406, 407, 408, 409, 410, 411, 412, 413, 414, 415, 416, 417, 418, 419, 420, 421, 422, 423, 424, 425, 426, 427, 428, 429, 430, 431, 432, 433, 434, 435, 436, 437, 438, 439, 440, 441, 442, 443, 444, 445, 446, 447, 448, 449, 450, 451, 452, 453, 454, 455, 456, 457, 458, 459, 460, 461, 462, 463, 464, 465, 466, 467, 468, 469, 470, 471, 472, 473, 474, 475, 476, 477, 478, 479, 480, 481, 482, 483, 484, 485, 486]]
def ixN : List (List Nat) := [[0, 229, 237, 246, 254, 262, 509, 272, 284, 296, 309, 324, 339, 355, 376, 487], [229, 0, 238, 247, 255, 263, 510, 273, 285, 297, 310, 325, 340, 356, 377, 488], [237, 238, 0, 248, 256, 264, 511, 274, 286, 298, 311, 326, 341, 357, 378, 489], [246, 247, 248, 0, 257, 265, 512, 275, 287, 299, 312, 327, 342, 358, 379, 490], [254, 255, 256, 257, 0, 266, 513, 276, 288, 300, 313, 328, 343, 359, 380, 491], [262, 263, 264, 265, 266, 0, 514, 277, 289, 301, 314, 329, 344, 360, 381, 492], [509, 510, 511, 512, 513, 514, 0, 515, 516, 517, 518, 519, 520, 521, 522, 523], [272, 273, 274, 275, 276, 277, 515, 0, 290, 302, 315, 330, 345, 361, 382, 493], [284, 285, 286, 287, 288, 289, 516, 290, 0, 303, 316, 331, 346, 362, 383, 494], [296, 297, 298, 299, 300, 301, 517, 302, 303, 0, 317, 332, 347, 363, 384, 495], [309, 310, 311, 312, 313, 314, 518, 315, 316, 317, 0, 333, 348, 364, 385, 496], [324, 325, 326, 327, 328, 329, 519, 330, 331, 332, 333, 0, 349, 365, 386, 497], [339, 340, 341, 342, 343, 344, 520, 345, 346, 347, 348, 349, 0, 366, 387, 498], [355, 356, 357, 358, 359, 360, 521, 361, 362, 363, 364, 365, 366, 0, 388, 499], [376, 377, 378, 379, 380, 381, 522, 382, 383, 384, 385, 386, 387, 388, 0, 500], [487, 488, 489, 490, 491, 492, 523, 493, 494, 495, 496, 497, 498, 499, 500, 0]]
def ixD : List Nat := [12, 13, 14, 15, 16, 17, 18, 19, 20, 21, 22, 23, 24, 25, 26, 27, 28, 29, 30, 31, 32, 33, 34, 35, 36, 37, 38, 39, 40, 41, 42, 43, 44, 45, 46, 47, 48, 49, 50, 51, 52, 53, 54, 55, 56, 57, 58, 59, 60, 61, 62, 63, 64, 65, 66, 67, 68, 69, 70, 71, 72, 73, 74, 75, 76, 77, 78, 79, 80, 81, 82, 83, 84, 85, 86, 87, 88, 89, 90, 91, 92, 93, 94, 95, 96, 97, 98, 99, 100, 101, 102, 103, 104, 105, 106, 107, 108, 109, 110, 111]
set_option maxRecDepth 40000 in
theorem wn_ex_i : ∀ i : Nat, i < 16 → (flatC gN)[ixE.getD i 0]? = some (Cond.exactly (tmS i) "java/lang/String") := by decide +kernel
theorem wn_ex : ∀ i : Nat, i < 16 → Cond.exactly (tmS i) "java/lang/String" ∈ flatC gN := fun i hi => List.mem_of_getElem? (wn_ex_i i hi)
set_option maxRecDepth 40000 in
theorem wn_co_i : ∀ i : Nat, i < 16 → (flatC gN)[ixC.getD i 0]? = some (Cond.eq (.field (tmS i) "java/lang/String" "coder" "B") (.int 0)) := by decide +kernel
theorem wn_co : ∀ i : Nat, i < 16 → Cond.eq (.field (tmS i) "java/lang/String" "coder" "B") (.int 0) ∈ flatC gN := fun i hi => List.mem_of_getElem? (wn_co_i i hi)
set_option maxRecDepth 40000 in
theorem wn_ar_i : ∀ i : Nat, i < 16 → (flatC gN)[ixA.getD i 0]? = some (Cond.arrayOf (fV i) .byte) := by decide +kernel
theorem wn_ar : ∀ i : Nat, i < 16 → Cond.arrayOf (fV i) .byte ∈ flatC gN := fun i hi => List.mem_of_getElem? (wn_ar_i i hi)
set_option maxRecDepth 40000 in
theorem wn_le_i : ∀ i : Nat, i < 16 → (flatC gN)[ixL.getD i 0]? = some (Cond.eq (.length (fV i)) (.int (Int32.ofNat (lenS.getD i 0)))) := by decide +kernel
theorem wn_le : ∀ i : Nat, i < 16 → Cond.eq (.length (fV i)) (.int (Int32.ofNat (lenS.getD i 0))) ∈ flatC gN := fun i hi => List.mem_of_getElem? (wn_le_i i hi)
set_option maxRecDepth 40000 in
theorem wn_el_i : ∀ i : Nat, i < 16 → ∀ j : Nat, j < lenS.getD i 0 → (flatC gN)[(ixX.getD i []).getD j 0]? = some (Cond.eq (.elem (fV i) (.int (Int32.ofNat j))) (.int ((bytS.getD i []).getD j 0))) := by decide +kernel
theorem wn_el : ∀ i : Nat, i < 16 → ∀ j : Nat, j < lenS.getD i 0 → Cond.eq (.elem (fV i) (.int (Int32.ofNat j))) (.int ((bytS.getD i []).getD j 0)) ∈ flatC gN := fun i hi j hj => List.mem_of_getElem? (wn_el_i i hi j hj)
set_option maxRecDepth 40000 in
theorem wn_ne_i : ∀ i : Nat, i < 16 → ∀ j : Nat, j < 16 → i ≠ j → ((flatC gN)[(ixN.getD i []).getD j 0]? = some (Cond.not (Cond.eq (tmS i) (tmS j))) ∨ (flatC gN)[(ixN.getD i []).getD j 0]? = some (Cond.not (Cond.eq (tmS j) (tmS i)))) := by decide +kernel
theorem wn_ne : ∀ i : Nat, i < 16 → ∀ j : Nat, j < 16 → i ≠ j → (Cond.not (Cond.eq (tmS i) (tmS j)) ∈ flatC gN ∨ Cond.not (Cond.eq (tmS j) (tmS i)) ∈ flatC gN) := fun i hi j hj h => (wn_ne_i i hi j hj h).elim (fun e => Or.inl (List.mem_of_getElem? e)) (fun e => Or.inr (List.mem_of_getElem? e))
theorem wn_z0 : Cond.eq (.static "java/lang/String" "COMPACT_STRINGS" "Z") (.int 1) ∈ flatC gN := List.mem_of_getElem? (i := 4) (by decide +kernel)
theorem wn_z1 : Cond.isRef (.static "jdk/internal/util/Preconditions" "SIOOBE_FORMATTER" "Ljava/util/function/BiFunction;") ∈ flatC gN := List.mem_of_getElem? (i := 5) (by decide +kernel)
theorem wn_da : Cond.arrayOf tmD .byte ∈ flatC gN := List.mem_of_getElem? (i := 10) (by decide +kernel)
theorem wn_dl : Cond.eq (.length tmD) (.int (Int32.ofNat 100)) ∈ flatC gN := List.mem_of_getElem? (i := 11) (by decide +kernel)
set_option maxRecDepth 40000 in
theorem wn_de_i : ∀ j : Nat, j < 100 → (flatC gN)[ixD.getD j 0]? = some (Cond.eq (.elem tmD (.int (Int32.ofNat j))) (.int (Int32.ofNat (48 + j % 10)))) := by decide +kernel
theorem wn_de : ∀ j : Nat, j < 100 → Cond.eq (.elem tmD (.int (Int32.ofNat j))) (.int (Int32.ofNat (48 + j % 10))) ∈ flatC gN := fun j hj => List.mem_of_getElem? (wn_de_i j hj)
theorem mwR : ∀ i : Nat, i < 16 → Cond.stringRef (stO i) (stI i) (stT i) ∈ lw_tbl := by
  intro i hi
  rcases (show i = 0 ∨ i = 1 ∨ i = 2 ∨ i = 3 ∨ i = 4 ∨ i = 5 ∨ i = 6 ∨ i = 7 ∨ i = 8 ∨ i = 9 ∨ i = 10 ∨ i = 11 ∨ i = 12 ∨ i = 13 ∨ i = 14 ∨ i = 15 by omega) with rfl | rfl | rfl | rfl | rfl | rfl | rfl | rfl | rfl | rfl | rfl | rfl | rfl | rfl | rfl | rfl
  · exact List.mem_of_getElem? (i := 755) (by decide +kernel)
  · exact List.mem_of_getElem? (i := 756) (by decide +kernel)
  · exact List.mem_of_getElem? (i := 757) (by decide +kernel)
  · exact List.mem_of_getElem? (i := 758) (by decide +kernel)
  · exact List.mem_of_getElem? (i := 759) (by decide +kernel)
  · exact List.mem_of_getElem? (i := 760) (by decide +kernel)
  · exact List.mem_of_getElem? (i := 1343) (by decide +kernel)
  · exact List.mem_of_getElem? (i := 1149) (by decide +kernel)
  · exact List.mem_of_getElem? (i := 1270) (by decide +kernel)
  · exact List.mem_of_getElem? (i := 1328) (by decide +kernel)
  · exact List.mem_of_getElem? (i := 1329) (by decide +kernel)
  · exact List.mem_of_getElem? (i := 1330) (by decide +kernel)
  · exact List.mem_of_getElem? (i := 1331) (by decide +kernel)
  · exact List.mem_of_getElem? (i := 1338) (by decide +kernel)
  · exact List.mem_of_getElem? (i := 1339) (by decide +kernel)
  · exact List.mem_of_getElem? (i := 1341) (by decide +kernel)
/-- what the tables and the Statement say of the start, by one E -/
theorem start_E {p : Program} {s : State} {m : MethodId} {meth : Method} {c : Code} {b L : Nat} {xs : Nat → Int32} (C0 : lw_At p s m meth c b L xs) : ∃ E : Ev, va_K E.2.1 vwCl (tysE E) s ∧ NW s ∧ va_AO SCF s ∧ XW E s s.heap ∧ (∀ q, AE E q ↔ s.heap.size ≤ q) ∧ eT E = 0 ∧ nX E = 1 ∧ eX E 0 = (b, (L, xs)) := by
  obtain ⟨hx, hb, hr, hml, hown, hts, hX, hbl, hlocks, hgv⟩ := C0
  have hs := flat_of_before _ hgv
  have hnA : ∀ a : Nat, a < s.heap.size → ¬ (fun q : Nat => s.heap.size ≤ q) a := fun a h => Nat.not_le.mpr h
  obtain ⟨c0, i0, K0⟩ := u_known (C := RX0) (T := TX0) (N := 3) (n := 3) hts inX0 (hts _ mw74)
  obtain ⟨c1, i1, K1⟩ := u_known (C := RX1) (T := TX1) (N := 4) (n := 4) hts inX1 (hts _ mw123)
  obtain ⟨c2, i2, K2⟩ := u_known (C := RX2) (T := TX2) (N := 4) (n := 4) hts inX2 (hts _ mw241)
  obtain ⟨c3, i3, K3⟩ := u_known (C := RX3) (T := TX3) (N := 3) (n := 3) hts inX3 (hts _ mw145)
  obtain ⟨c4, i4, K4⟩ := u_known (C := RX4) (T := TX4) (N := 2) (n := 2) hts inX4 (hts _ mw264)
  obtain ⟨c5, i5, K5⟩ := u_known (C := RX5) (T := TX5) (N := 4) (n := 4) hts inX5 (hts _ mw280)
  obtain ⟨c6, i6, K6⟩ := u_known (C := RX6) (T := TX6) (N := 3) (n := 3) hts inX6 (hts _ mw51)
  obtain ⟨c7, i7, K7⟩ := u_known (C := RX7) (T := TX7) (N := 14) (n := 14) hts inX7 (hts _ mw68)
  obtain ⟨c8, i8, K8⟩ := u_known (C := RX8) (T := TX8) (N := 2) (n := 2) hts inX8 (hts _ mw45)
  obtain ⟨c9, i9, K9⟩ := u_known (C := RX9) (T := TX9) (N := 7) (n := 7) hts inX9 (hts _ mw92)
  obtain ⟨c10, i10, K10⟩ := u_known (C := RX10) (T := TX10) (N := 10) (n := 10) hts inX10 (hts _ mw37)
  obtain ⟨c11, i11, K11⟩ := u_known (C := RJ0) (T := TJ0) (N := 4) (n := 4) hts inJ0 (hts _ mw1276)
  obtain ⟨c12, i12, K12⟩ := u_known (C := RJ4) (T := TJ4) (N := 4) (n := 4) hts inJ4 (hts _ mw1120)
  obtain ⟨dC, dI, hKc⟩ : ∃ (dC : Nat → ClassId) (dI : Nat → Nat → Nat), ∀ (k : Nat) (q : vw_C), vwCl[k]? = some q → u_Kn s q.1 q.2.1 q.2.2 (dC k) (dI k) := by
    refine ⟨fun k => if k = 0 then c0 else if k = 1 then c1 else if k = 2 then c2 else if k = 3 then c3 else if k = 4 then c4 else if k = 5 then c5 else if k = 6 then c6 else if k = 7 then c7 else if k = 8 then c8 else if k = 9 then c9 else if k = 10 then c10 else if k = 11 then c11 else c12, fun k => if k = 0 then i0 else if k = 1 then i1 else if k = 2 then i2 else if k = 3 then i3 else if k = 4 then i4 else if k = 5 then i5 else if k = 6 then i6 else if k = 7 then i7 else if k = 8 then i8 else if k = 9 then i9 else if k = 10 then i10 else if k = 11 then i11 else i12, ?_⟩
    intro k q hq
    match k, hq with
    | 0, hq => cases hq; exact K0
    | 1, hq => cases hq; exact K1
    | 2, hq => cases hq; exact K2
    | 3, hq => cases hq; exact K3
    | 4, hq => cases hq; exact K4
    | 5, hq => cases hq; exact K5
    | 6, hq => cases hq; exact K6
    | 7, hq => cases hq; exact K7
    | 8, hq => cases hq; exact K8
    | 9, hq => cases hq; exact K9
    | 10, hq => cases hq; exact K10
    | 11, hq => cases hq; exact K11
    | 12, hq => cases hq; exact K12
    | k + 13, hq => simp [vwCl] at hq
  obtain ⟨cA, kA, coA, a1, a2, a3⟩ := Cond.arrayClass_spec (hts _ mw278)
  obtain ⟨cB, kB, coB, b1, b2, b3⟩ := Cond.arrayClass_spec (hts _ mw66)
  obtain ⟨comp, cD, kD, d1, d2, d3, d4, d5⟩ := Cond.arrayOver_spec (hts _ mw247)
  obtain ⟨cY, kY, coY, y1, y2, y3⟩ := Cond.arrayClass_spec (hts _ mw860)
  obtain ⟨cL, kL, coL, l1, l2, l3⟩ := Cond.arrayClass_spec (hts _ mw1344)
  obtain ⟨adK, adV, hvS, hvE⟩ := vk_Sof (args := #[Value.ref b]) (s := s) (N := 16) (tm := tmS) (len := lenS) (byt := bytS) (A := fun q => s.heap.size ≤ q) (by decide) (fun i hi => hs _ (wn_ex i hi)) (fun i hi => hs _ (wn_co i hi)) (fun i hi => hs _ (wn_ar i hi)) (fun i hi => hs _ (wn_le i hi)) (fun i hi j hj => hs _ (wn_el i hi j hj)) (fun i j hi hj hij => (wn_ne i hi j hj hij).elim (fun h => Or.inl (hs _ h)) (fun h => Or.inr (hs _ h))) hnA
  obtain ⟨dg, hdg, hdT⟩ := va_Tof (args := #[Value.ref b]) (s := s) (tm := tmD) (ty := .byte) (N := 100) (f := fun j => .int (Int32.ofNat (48 + j % 10))) (A := fun q => s.heap.size ≤ q) (by decide) (hs _ wn_da) (va_eqt (hs _ wn_dl)) (fun j hj => va_eqt (hs _ (wn_de j hj))) hnA
  have hS16 : vk_S 16 (lenS ++ [lnS 15]) (bytS ++ [byS 15]) adK adV (fun q => s.heap.size ≤ q) s s.heap := ⟨fun i hi => by
    have h := hvS.1 i hi
    rw [← gd_lf lenS (lnS 15) 0 (show i < lenS.length from hi), ← gd_lf bytS (byS 15) [] (show i < bytS.length from hi)] at h
    exact h, hvS.2⟩
  refine ⟨((fun _ => 0), ((dC, dI), (cA, (cB, (cD, (adK, (adV, (0, (cY, (cL, ((fun q => s.heap.size ≤ q), ((fun _ => (b, (L, xs))), 1)))))))))))), ⟨hKc, ?_⟩, ?_, va_AO.of (hts _ mw247), ⟨va_Zof (hts _ mw775) (hts _ mw25) (va_eqi (hs _ wn_z0)) hnA, va_Zqof (hts _ mw791) (hts _ mw27) (hs _ wn_z1) hnA, hS16, fun i hi => vk_R.of (hts _ (mwR i hi)) (hvE i hi), ⟨dg, va_Zof (hts _ mw1259) (hts _ mw29) hdg hnA, hdT⟩, fun i hi => ⟨hX, Nat.not_le.mpr hbl⟩⟩, fun q => Iff.rfl, rfl, rfl, rfl⟩
  · intro k q hq
    match k, hq with
    | 0, hq => cases hq; exact ⟨fun n z => ⟨fun k h => (by cases h), kA, a2, coA, a3⟩, a1⟩
    | 1, hq => cases hq; exact ⟨fun n z => ⟨fun k h => (by cases h), kB, b2, coB, b3⟩, b1⟩
    | 2, hq => cases hq; exact ⟨fun n z => ⟨fun k h => (by cases h), kD, d3, comp, d4⟩, ⟨kD, comp, d3, d4, d1, d5⟩⟩
    | 3, hq => cases hq; exact ⟨fun n z => ⟨fun k h => (by cases h), kY, y2, coY, y3⟩, y1⟩
    | 4, hq => cases hq; exact ⟨fun n z => ⟨fun k h => (by cases h), kL, l2, coL, l3⟩, l1⟩
    | k + 5, hq => simp [tysE] at hq
  · intro w hw hn
    have h1 := hts w hw
    cases w <;> first | exact va_Nw.of rfl h1 | exact absurd hn (by simp [isNest])
theorem start_PV {s : State} {args : Array Value} (hts : ∀ w ∈ lw_tbl, w.before args s = true) : PV s := ⟨word_at (State.WarmedH.refl s) (Or.inl rfl) (sel_priv (hts _ mw1120) (hts _ mw1162) (hts _ mw1163) (hts _ mw1347)), word_at (State.WarmedH.refl s) (Or.inl rfl) (sel_priv (hts _ mw1120) (hts _ mw1212) (hts _ mw1213) (hts _ mw1349)), word_at (State.WarmedH.refl s) (Or.inl rfl) (sel_priv (hts _ mw1120) (hts _ mw1216) (hts _ mw1217) (hts _ mw1350))⟩
def CxL (E : Ev) (A : Nat → Prop) (p : Program) (m : MethodId) (c : Code) (cc : ByteArray) (nL : Nat) (s : State) (args : Array Value) (own : String) : Prop := CallFix p m c cc nL s args (lw_tbl.filter goodWord) own ∧ va_K E.2.1 vwCl (tysE E) s ∧ NW s ∧ va_AO SCF s ∧ (∀ q, s.heap.size ≤ q → A q)
section GL
variable {p : Program} {l : Launch} {e : Env} {R : Room} {s : State} {m : MethodId} {args : Array Value} {below : List Frame} {meth : Method} {c : Code} {H : Heap} {locs : List Loc} {cells slots : Nat} {Q : State → Prop} {cc : ByteArray} {pc : Nat} {ls : Array Slot} {rest : List Value} {nL : Nat} {own : String} {E : Ev} {A : Nat → Prop} {ws : va_W}
theorem o_new (X : CxL E A p m c cc nL s args own) (hW : WC E A ws s.heap H locs) {cj : Nat} {C : String} {T : u_T} {N : Nat} (hcl : vwCl[cj]? = some (C, T, N)) (hin : ∀ w ∈ u_ws C T N, w ∈ lw_tbl.filter goodWord) (ty : Nat → FieldType) (hty : ∀ k, k < N → parseFieldDescriptor (T k).2.2.1 = some (ty k)) (hdf : ∀ j, j < N → defaultValue (ty j) = vp_V (dflt cj) j) {index : Nat} (w1 : Cond.classLink own index C ∈ lw_tbl) (w2 : Cond.instantiable C N ∈ lw_tbl) (w3 : Cond.initialized C ∈ lw_tbl) (hc : cells + 1 ≤ R.cells) (hs : slots + N ≤ R.slots) (hdg : decode cc pc = .ok (.new index, 3))
    (kk : ∀ (q : Nat) (H1 : Heap), WC E A (ws ++ [(q, .inr (cj, dflt cj))]) s.heap H1 locs → W p l e R s m args below meth c H1 locs (cells + 1) (slots + N) Q (F0 m (pc + 3) ls (.ref q :: rest))) : W p l e R s m args below meth c H locs cells slots Q (F0 m pc ls rest) := by
  obtain ⟨⟨hx, hb, hml, hown, hts⟩, hK, hNW, hAO, hA⟩ := X
  exact va_new hx hb hts hin ty hty hown (hts _ (gw_in w1 rfl)) (hts _ (gw_in w2 rfl)) (hts _ (gw_in w3 rfl)) hK hW.1 hW.2.1 hW.2.2 hA hcl hdf hc hs hdg (fun q H1 a b d => kk q H1 ⟨a, b, d⟩)
theorem o_call {y : MethodName} {bytes : ByteArray} {maxL index nA d mc ms x cj q : Nat} {As : List Value} (X : CxL E A p m c cc nL s args own) (hW : WC E A (ws ++ [(q, .inr (cj, dflt cj))]) s.heap H locs) (hC : Mc l E y bytes maxL d mc ms x cj q H.size As) (w1 : Cond.methodLink own index y ∈ lw_tbl) (w2 : Cond.instanceMethod y ∈ lw_tbl) (w4 : Cond.initialized y.cls ∈ lw_tbl) (hg : GoodIn (lw_tbl.filter goodWord) (wsM y bytes maxL none)) (hy1 : y.name = "<init>") (hd : y.cls ≠ "java/lang/invoke/MethodHandle" ∧ y.cls ≠ "java/lang/invoke/VarHandle" ∧ (parseMethodDescriptor y.desc).map (fun d => d.parameters.length) = some nA) (hn : As.length = nA) (hR : d + 1 ≤ R.frames ∧ 8 + (maxL + 11) + 40 * d ≤ R.locals) (hls : ls.size = nL) {st : List Value} (hst : st = As.reverse ++ .ref q :: rest) (hWd : (rest.map fun v => v.category).sum ≤ 8) (hcs : cells + mc ≤ R.cells ∧ slots + ms ≤ R.slots) (hdg : decode cc pc = .ok (.invokespecial index, 3))
    (kk : ∀ (bs : Nat → Nat) (H1 : Heap) (locs1 : List Loc), bs 0 = q → WC E A (ws ++ blk E bs x cj) s.heap H1 locs1 → W p l e R s m args below meth c H1 locs1 (cells + mc) (slots + ms) Q (F0 m (pc + 3) ls rest)) : W p l e R s m args below meth c H locs cells slots Q (F0 m pc ls st) := by
  obtain ⟨⟨hx, hb, hml, hown, hts⟩, hK, hNW, hAO, hA⟩ := X
  obtain ⟨hP, hD, hS⟩ := hW
  have hPc := va_P_right hP
  have hPl := va_P_left hP
  have hDl := va_D_left hD
  have hlast : (ws ++ [(q, .inr (cj, dflt cj))])[ws.length]? = some (q, .inr (cj, dflt cj)) := by simp
  have hDc : va_D (fun _ => True) [(q, (.inr (cj, dflt cj) : va_E))] := ⟨fun i j p q hi hj _ => by
      have a1 := (List.getElem?_eq_some_iff.mp hi).1
      have a2 := (List.getElem?_eq_some_iff.mp hj).1
      simp only [List.length_cons, List.length_nil] at a1 a2
      omega, fun _ _ _ => trivial⟩
  have hf : ∀ z, va_A [(q, (.inr (cj, dflt cj) : va_E))] H.size z → A z := by
    intro z hz
    rcases hz with ⟨k, e, hk⟩ | hz
    · have hk0 : k = 0 := by
        have a1 := (List.getElem?_eq_some_iff.mp hk).1
        simp only [List.length_cons, List.length_nil] at a1
        omega
      subst hk0
      cases hk
      exact hD.2 _ _ hlast
    · exact hA z (Nat.le_trans hS.1 hz)
  refine va_callv (va_runI ⟨hx, hb, hml, hown, hts⟩ hC (cwI nA hts hg rfl rfl rfl (hts _ (gw_in w4 rfl)) (hts _ (gw_in w1 rfl)) (hts _ (gw_in w2 rfl)) hy1 hd hR) ⟨fun a U g mk q => ⟨q.1, q.2.1, q.2.2.1, va_K.moved (u := U) (U := U.calling g mk a) (Vm.Alike.refl U.vm) q.2.2.2.1, q.2.2.2.2.1, NW.same (u := U) (U := U.calling g mk a) rfl q.2.2.2.2.2.1, va_AO.moved (u := U) (U := U.calling g mk a) (Vm.Alike.refl U.vm) q.2.2.2.2.2.2⟩, fun U hU hW => ⟨rfl, by rw [hU], by rw [hU]; exact hPc, va_K.moved hW.alike hK, hDc, NW.warm hW hNW, va_AO.moved hW.alike hAO⟩⟩ rfl hn hls hst (lv_room hWd) hdg hcs) hS (fun q _ h => hf q h) hf (fun u t H1 locs1 ht hvm hw hB hz1 hk1 hS1 => ?_)
  have hout : ∀ (k : Nat) (z : Nat × va_E), ws[k]? = some z → z.1 < H.size ∧ z.1 ≠ q := by
    intro k z hk
    refine ⟨(hPl k z hk).lt, fun hzq => ?_⟩
    have h1 : (ws ++ [(q, .inr (cj, dflt cj))])[k]? = some z := by rw [List.getElem?_append_left (List.getElem?_eq_some_iff.mp hk).1]; exact hk
    have h2 := hD.1 k ws.length z _ h1 hlast hzq
    have h3 := (List.getElem?_eq_some_iff.mp hk).1
    omega
  have hnA : ∀ z, z < H.size → z ≠ q → ¬ va_A [(q, (.inr (cj, dflt cj) : va_E))] H.size z := by
    intro z h1 h2 h3
    rcases h3 with ⟨k, e, hk⟩ | h3
    · have hk0 : k = 0 := by
        have a1 := (List.getElem?_eq_some_iff.mp hk).1
        simp only [List.length_cons, List.length_nil] at a1
        omega
      subst hk0
      cases hk
      exact h2 rfl
    · omega
  refine kk u H1 locs1 hw ⟨va_P.app (fun k z hk => ?_) (by rw [← ht]; exact hB.1), va_D.app hDl ⟨hB.2.1, fun k z hk => hf _ (hB.2.2 k z hk)⟩ (fun i j a b hi hj hab => ?_), hS1⟩
  · have h1 := hout k z hk
    exact (hPl k z hk).kept (hk1 _ h1.1 (hnA _ h1.1 h1.2))
  · have h1 := hout i a hi
    exact hnA _ h1.1 h1.2 (by rw [hab]; exact hB.2.2 j b hj)
end GL
