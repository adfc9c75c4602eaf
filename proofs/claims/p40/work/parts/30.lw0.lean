section GLV
variable {p : Program} {l : Launch} {e : Env} {R : Room} {s s0 : State} {m : MethodId} {args : Array Value} {below : List Frame} {meth : Method} {c : Code} {H H0 : Heap} {locs : List Loc} {cells slots : Nat} {Q : State → Prop} {cc : ByteArray} {pc : Nat} {ls : Array Slot} {rest : List Value} {nL : Nat} {own : String} {E : Ev} {σ : St} {ret : Option FieldType}
theorem al_eq {x v : UInt64} (h : alike64 x v = true) (hn : isNaN64 v = false) : x = v := by
  rcases alike64_or h with e | ⟨-, e⟩
  · exact e
  · rw [hn] at e; cases e
theorem dr_an (hs0 : Dr s0 s) (h : ∀ q, s0.heap.size ≤ q → AE E q) : ∀ q, s.heap.size ≤ q → AE E q := by
  obtain ⟨d, rfl, -⟩ := hs0
  exact h
theorem g_callRef {α : Type} {K : St → Int32 → Option α} {z : α} {index k : Nat} (X : Bx E p m meth c cc nL ret s args own) (hs0 : Dr s0 s) (hAn : ∀ q, s0.heap.size ≤ q → AE E q) (hG : GS E σ s.heap H locs) (hL : lay 10 k) (w1 : Cond.methodLink own index yL_refused ∈ lw_tbl) (hR : 9 + 1 ≤ R.frames ∧ 8 + (9 + 11) + 40 * 9 ≤ R.locals) (hls : ls.size = nL) (hW : (rest.map fun v => v.category).sum ≤ 8) (hcs : cells + 1 ≤ R.cells ∧ slots + 2 ≤ R.slots) (hdg : decode cc pc = .ok (.invokestatic index, 3)) (hM : bcall (M_L_refused σ k) K = some z)
    (kk : ∀ (σ1 : St) (r : Int32) (s1 : State) (H1 : Heap) (locs1 : List Loc), Bx E p m meth c cc nL ret s1 args own → Dr s0 s1 → GS E σ1 s1.heap H1 locs1 → K σ1 r = some z → W p l e R s1 m args below meth c H1 locs1 (cells + 1) (slots + 2) Q (F0 m (pc + 3) ls (.int r :: rest))) : W p l e R s m args below meth c H locs cells slots Q (F0 m pc ls (.ref (E.1 k) :: rest)) := by
  have hAn1 := dr_an hs0 hAn
  obtain ⟨d, rfl, hd⟩ := hs0
  have X0 := X
  obtain ⟨⟨⟨hx, hb, hml, hown, hts⟩, hK, hNW, hXW⟩, hrt, hlk⟩ := X
  cases ho : M_L_refused σ k with
  | none => rw [ho] at hM; cases hM
  | some q1 =>
    rw [ho] at hM
    obtain ⟨σ1, r⟩ := q1
    have hC := C_L_refused l E ho hL
    have pre := GB_pre hK hNW hXW hG [.ref (E.1 k)]
    refine va_calliD hd (va_runS_D (As := [.ref (E.1 k)]) (rest := rest) ⟨hx, hb, hml, hown, hts⟩ hC ⟨callB_of 1 hts (gw_ok mw1337 rfl) rfl rfl rfl (hts _ (gw_in mw11 rfl)) (hts _ (gw_in w1 rfl)) (by decide +kernel) hR, hts _ (gw_in mw1336 rfl)⟩ ⟨fun a U g mk q => ⟨q.1, (GB_blind a U g mk ⟨q.1, q.2.1⟩).2, q.2.2⟩, fun U hU hW => ⟨(pre U hU hW).1, (pre U hU hW).2, fun z hz => hAn1 z (Nat.le_trans hG.2.2.1 (by rw [← hU]; exact hz))⟩⟩ rfl rfl hls rfl (lv_room hW) hdg hcs) hG.2.2 (fun q _ h => h) (fun q h => h) (fun r1 u t H1 locs1 ht hvm hw hB hz1 hk1 hS1 d1 hd1 => ?_)
    obtain ⟨rfl, rfl⟩ := hw
    exact kk _ _ (s0.setDrawn d1) H1 locs1 ⟨(show Cx E p m c cc nL ((s0.setDrawn d).setDrawn d1) args own from cx_drawn d1 X0.1), hrt, hlk⟩ ⟨d1, rfl, hd1⟩ ⟨by rw [← ht]; exact hB.1, hB.2.2.1, hS1⟩ hM
end GLV
