set_option maxRecDepth 20000 in
set_option maxHeartbeats 4000000 in
/-- the law's walk: what the pure level owes of the first object's calls and of the second's -/
theorem law_walk {p : Program} {e : Env} {s : State} {m : MethodId} {below : List Frame} {meth : Method} {c : Code} (l : Launch) {b L : Nat} {xs : Nat → Int32} (C0 : lw_At p s m meth c b L xs) (hE : ∃ σ1, ∀ KX : St → Option (St × Int32), B_LE_8 KX iniK 0 (L, xs) = KX σ1)
    (hO : ∃ σ2 x3 x5 z, (∀ KX : St → Int64 → Int32 → Option (St × Int32), B_LO_950 KX iniK 0 (L, xs) = KX σ2 x3 x5) ∧ Q1 (fun σ x3 x5 => B_LT_1248 (fun σ => some (σ, (1 : Int32))) σ 0 x3 x5) (L, xs) FU σ2 0 (fun _ => 0) x3 x5 0 0 = some z) : W p l e room_1 s m #[Value.ref b] below meth c s.heap [] 0 0 (lw_Z below #[Value.ref b] s) (entryFrame m ([Value.ref b] : List Value).toArray 11) := by
  obtain ⟨E, hK, hNW, hAO, hXW, hAE, hT0, hn1, he0⟩ := start_E C0
  obtain ⟨hx, hb, hr, hml, hown, hts, hX, hbl, hlocks, hgv⟩ := id C0
  have hPV := start_PV hts
  have hl := lv_entry ([.ref b]) (n := 11) (Nat.le_of_ble_eq_true rfl)
  rw [lg_entry_eq]
  generalize (lg_sl ([.ref b]) ++ List.replicate (11 - (lg_sl ([.ref b])).length) Slot.unset).toArray = ls at hl ⊢
  have hl : lv_has ls 11 [(0, .ref b)] := hl
  have hf : CallFix p m c code 11 s #[Value.ref b] (lw_tbl.filter goodWord) R_law := ⟨hx, hb, hml, hown, fun w hw => hts w (List.mem_filter.mp hw).1⟩
  have hAn : ∀ q, s.heap.size ≤ q → AE E q := fun q h => (hAE q).mpr h
  have X : CxL E (AE E) p m c code 11 s #[Value.ref b] R_law := ⟨hf, hK, hNW, hAO, hAn⟩
  have hW0 : WC E (AE E) [] s.heap s.heap [] := ⟨fun k q h => by simp at h, ⟨fun i j p q h => by simp at h, fun k q h => by simp at h⟩, va_S.rf⟩
  refine o_new X hW0 (cj := 10) rfl fnX10 tyX10 tyX10_ok (by decide) mw36 mw37 mw12 (Nat.le_of_ble_eq_true rfl) (Nat.le_of_ble_eq_true rfl) dL_law_0 (fun q1 H hW => ?_)
  refine lv_dup hx hb dL_law_3 rfl ?_
  refine o_call (nA := 0) (As := []) (rest := [.ref q1]) X hW (C_X10_init l E (x := 0) ⟨lay10_0, by decide +kernel, fun r _ => by rw [Nat.zero_add, show repc 10 = 0 from rfl, Nat.zero_add]⟩ rfl) mw38 mw39 mw12 (gw_ok mw40 rfl) rfl (by decide +kernel) rfl ⟨Nat.le_of_ble_eq_true rfl, Nat.le_of_ble_eq_true rfl⟩ hl.1 rfl (Nat.le_of_ble_eq_true rfl) ⟨Nat.le_of_ble_eq_true rfl, Nat.le_of_ble_eq_true rfl⟩ dL_law_4 (fun bs H locs hb0 hW1 => ?_)
  rw [List.nil_append] at hW1
  subst hb0
  refine lv_astore_n (lv' := [(1, .ref (bs 0)), (0, .ref b)]) hx hb dL_law_7 rfl hl (by decide) rfl (fun ls hl => ?_)
  refine W.base ?_
  have hw0 : (0 : Nat) < nX (eJ E bs) ∧ (eX (eJ E bs) 0).2 = (L, xs) := ⟨by show 0 < nX E; rw [hn1]; decide, by show (eX E 0).2 = _; rw [he0]⟩
  have eb : (eX (eJ E bs) 0).1 = b := by show (eX E 0).1 = b; rw [he0]
  obtain ⟨σ1, hE⟩ := hE
  obtain ⟨σ2, x3, x5, z, hO1, hO2⟩ := hO
  have hBx : Bx (eJ E bs) p m meth c cL_law 11 (some .boolean) (s.setDrawn s.drawn) #[Value.ref b] RL := ⟨cx_drawn s.drawn ⟨hf, hK, hNW, hXW⟩, hr, hlocks⟩
  have hDr : Dr s (s.setDrawn s.drawn) := ⟨s.drawn, rfl, Drawn.sameBut.refl s.drawn lw_cs⟩
  have hG1 : GS (eJ E bs) iniK (s.setDrawn s.drawn).heap H locs := ⟨by rw [gW_ini]; exact hW1.1, by rw [gW_ini]; exact hW1.2.1, hW1.2.2⟩
  refine w_LE_8 hBx hDr hAn lay10_0 hw0 (fun σ => some (σ, (1 : Int32))) iniK H locs ls (σ1, 1) ?_ hG1 (by rw [eb]; exact lv_sub hl [1, 0] rfl) (hE _)
  intro s9 X9 hs9 σ9 H9 locs9 ls9 hG9 hl9 _
  have hPV9 := hPV
  obtain ⟨d9, rfl, hd9⟩ := hs9
  rw [eb] at hl9
  have hl := hl9
  have X2 : CxL E (AE E) p m c code 11 (s.setDrawn d9) #[Value.ref b] R_law := ⟨X9.1.1, hK, X9.1.2.2.1, hAO, hAn⟩
  have hW2 : WC E (AE E) [] (s.setDrawn d9).heap H9 locs9 := ⟨fun k q h => by simp at h, ⟨fun i j p q h => by simp at h, fun k q h => by simp at h⟩, hG9.2.2⟩
  refine o_new X2 hW2 (cj := 10) rfl fnX10 tyX10 tyX10_ok (by decide) mw36 mw37 mw12 (Nat.le_of_ble_eq_true rfl) (Nat.le_of_ble_eq_true rfl) dL_law_942 (fun q1 H hW => ?_)
  refine lv_dup hx hb dL_law_945 rfl ?_
  refine o_call (nA := 0) (As := []) (rest := [.ref q1]) X2 hW (C_X10_init l E (x := 0) ⟨lay10_0, by decide +kernel, fun r _ => by rw [Nat.zero_add, show repc 10 = 0 from rfl, Nat.zero_add]⟩ rfl) mw38 mw39 mw12 (gw_ok mw40 rfl) rfl (by decide +kernel) rfl ⟨Nat.le_of_ble_eq_true rfl, Nat.le_of_ble_eq_true rfl⟩ hl.1 rfl (Nat.le_of_ble_eq_true rfl) ⟨Nat.le_of_ble_eq_true rfl, Nat.le_of_ble_eq_true rfl⟩ dL_law_946 (fun bs2 H locs hb0 hW1 => ?_)
  rw [List.nil_append] at hW1
  subst hb0
  refine lv_astore_n (lv' := [(2, .ref (bs2 0)), (0, .ref b)]) hx hb dL_law_949 rfl hl (by decide) rfl (fun ls hl => ?_)
  have hw0 : (0 : Nat) < nX (eJ E bs2) ∧ (eX (eJ E bs2) 0).2 = (L, xs) := ⟨by show 0 < nX E; rw [hn1]; decide, by show (eX E 0).2 = _; rw [he0]⟩
  have eb : (eX (eJ E bs2) 0).1 = b := by show (eX E 0).1 = b; rw [he0]
  have hBx : Bx (eJ E bs2) p m meth c cL_law 11 (some .boolean) (s.setDrawn d9) #[Value.ref b] RL := ⟨⟨X9.1.1, hK, X9.1.2.2.1, X9.1.2.2.2⟩, hr, hlocks⟩
  have hDr : Dr s (s.setDrawn d9) := ⟨d9, rfl, hd9⟩
  have hG1 : GS (eJ E bs2) iniK (s.setDrawn d9).heap H locs := ⟨by rw [gW_ini]; exact hW1.1, by rw [gW_ini]; exact hW1.2.1, hW1.2.2⟩
  refine w_LO_950 hBx hDr hAn lay10_0 hw0 (fun σ y3 y5 => Q1 (fun σ x3 x5 => B_LT_1248 (fun σ => some (σ, (1 : Int32))) σ 0 x3 x5) (L, xs) FU σ 0 (fun _ => 0) y3 y5 0 0) iniK H locs ls z ?_ hG1 (by rw [eb]; exact lv_sub hl [1, 0] rfl) ((hO1 _).trans hO2)
  intro s8 X8 hs8 σ8 y3 y5 H8 locs8 ls8 hG8 hl8 hM8
  refine wQ0 (E := eJ E bs2) (CC := 554) (SS := 4605) hT0 hPV (Nat.le_of_ble_eq_true rfl) (Nat.le_of_ble_eq_true rfl) hAn lay10_0 hw0 ?_ s8 X8 hs8 σ8 y3 y5 H8 locs8 ls8 _ _ (Nat.le_of_ble_eq_true rfl) (Nat.le_of_ble_eq_true rfl) hG8 hl8 hM8
  intro s7 X7 hs7 σ7 u3 u5 H7 locs7 ls7 hG7 hl7 hM7
  refine w_LT_1248 X7 hs7 hAn (Nat.le_of_ble_eq_true rfl) (Nat.le_of_ble_eq_true rfl) lay10_0 (fun σ => some (σ, (1 : Int32))) σ7 u3 u5 H7 locs7 ls7 z ?_ hG7 hl7 hM7
  intro s6 X6 hs6 σ6 H6 locs6 ls6 hG6 hl6 _
  obtain ⟨d6, rfl, hd6⟩ := hs6
  refine lv_iconst (v := 1) hx hb dL_law_1293 (by decide) ?_
  refine lv_goto (tgt := 1298) hx hb dL_law_1294 (by decide) ?_
  refine va_forget (fun q hq => (hAE _).mp (hG6.2.2.2.2 q hq)) ?_
  exact W.widen (k := room_1.cells) (n := room_1.slots) (Nat.le_of_ble_eq_true rfl) (Nat.le_of_ble_eq_true rfl) (lw_ret hd6 hx hb hr hlocks dL_law_1298)
