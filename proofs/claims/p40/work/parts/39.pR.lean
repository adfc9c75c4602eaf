theorem u2_id {σ : St} {k j : Nat} {v : Int32} (h : σ k j = v) : u2 σ k j v = σ := by
  funext q
  by_cases e : q = k
  · subst e
    funext z
    by_cases e2 : z = j
    · subst e2; rw [u2_self]; exact h.symm
    · rw [u2_same e2]
  · rw [u2_ne e]
def tauI : St := fun k => if k = 248 then (fun j => if j = 14 then (-4) else 0) else tz bareR k
theorem ini_cs : Cw iniK bareR := by
  have b : bareS iniK = iniK := by
    unfold bareS
    rw [u2_id (show iniK 6 2 = 0 from by decide +kernel), u2_id (show iniK 9 6 = 0 from by decide +kernel), u2_id (show iniK 16 3 = 0 from by decide +kernel), u2_id (show iniK 20 2 = 0 from by decide +kernel), u2_id (show iniK 5 4 = 0 from by decide +kernel), u2_id (show iniK 5 5 = 0 from by decide +kernel), u2_id (show iniK 5 6 = 60 from by decide +kernel), u2_id (show iniK 5 7 = 20 from by decide +kernel), u2_id (show iniK 5 8 = 0 from by decide +kernel), u2_id (show iniK 5 9 = 0 from by decide +kernel), u2_id (show iniK 5 10 = 0 from by decide +kernel), u2_id (show iniK 5 11 = 0 from by decide +kernel), u2_id (show iniK 5 12 = 0 from by decide +kernel), u2_id (show iniK 5 13 = 0 from by decide +kernel)]
  have s := bare_sc (σ := iniK) (τ := tz bareR) (fun q _ => by rw [tz_now]; rfl)
  rw [b, tz_now] at s
  have t9 : tauI 249 = bareR := by
    show (if (249 : Nat) = 248 then _ else _) = _
    rw [if_neg (by decide), tz_now]
  have i1 : iniK 0 8 = 0 := by decide +kernel
  have i2 : iniK 59 3 = 0 := by decide +kernel
  have i3 : iniK 59 2 = 0 := by decide +kernel
  have i4 : iniK 241 1 = 0 := by decide +kernel
  have i5 : iniK 243 1 = 0 := by decide +kernel
  have i6 : iniK 0 9 = -4 := by decide +kernel
  have i7 : iniK 2 2 = 0 := by decide +kernel
  refine ⟨0, 0, fun _ => bareR, ⟨tauI, by rw [t9]; exact s, Or.inl ⟨i1, rfl⟩, ⟨0, 0, by omega, by omega, rfl, i2, i3, fun j hj => by omega⟩, ⟨0, by omega, i4, rfl, fun j hj => by omega⟩, ⟨0, by omega, i5, rfl, fun j hj => by omega⟩, ?_, ⟨0, by omega, i7, rfl, fun j hj => by omega⟩⟩, s, ⟨by omega, by omega, i2, i3⟩, fun j hj => by omega, i1, i4, i6⟩
  exact i6
theorem pure_o (A : Nat) (xs : Nat → Int32) : ∃ σ2 x3 x5 z, (∀ KX : St → Int64 → Int32 → Option (St × Int32), B_LO_950 KX iniK 0 (A, xs) = KX σ2 x3 x5) ∧ Q1 (fun σ x3 x5 => B_LT_1248 (fun σ => some (σ, (1 : Int32))) σ 0 x3 x5) (A, xs) FU σ2 0 (fun _ => 0) x3 x5 0 0 = some z := pure_o_of ini_cs A xs
