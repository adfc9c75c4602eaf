theorem stepOK_e {F : St → Option (St × Int32)} {l l2 : List Int32} {v : Int32} (h : stepOK F l v l2 = true) : ∃ τ, F (tz (rw l)) = some (τ, v) ∧ ∀ q, q < 111 → τ 249 q = rw l2 q := by
  unfold stepOK at h
  split at h
  · rename_i τ w e
    rw [Bool.and_eq_true, decide_eq_true_iff, List.all_eq_true] at h
    obtain ⟨rfl, h2⟩ := h
    exact ⟨τ, e, fun q hq => of_decide_eq_true (h2 q (List.mem_range.mpr hq))⟩
  · exact absurd h (by decide)
/-- a step of the first object's run -/
theorem Cs.es {σ : St} {u nx n : Nat} {L : Nat → Nat → Int32} {sv : Option (Nat → Int32)} {ft : Int32} {F : St → Option (St × Int32)} {l l2 : List Int32} {v : Int32} {x : Option (St × Int32)} (h : Cs σ (rw l) u nx L sv n ft) (hz : PC u nx σ (tz (rw l)) x (F (tz (rw l)))) (hq : ∀ τ, Co σ τ → ∃ σ1 v τ1, x = some (σ1, v) ∧ Co σ1 τ1) (h0 : 0 ≤ v) (hk : stepOK F l v l2 = true) : ∃ σ1, x = some (σ1, v) ∧ Cs σ1 (rw l2) (min (u + 1) 8) ((nx + 1) % 9) (psh (rw l) L) sv n ft := by
  obtain ⟨τ, e, hr⟩ := stepOK_e hk
  obtain ⟨σ1, e1, h1⟩ := h.chgv hz hq h0 e
  exact ⟨σ1, e1, h1.row (fun q hq => (hr q hq).symm)⟩
