/-! the class' queries by its row alone: whatever else stands in the object -/
/-- only what lies ahead and the written line are others -/
def Fz (σ σ1 : St) : Prop := ∀ k, (k < 23 ∨ (41 ≤ k ∧ k ≠ 243 ∧ k ≠ 244)) → σ1 k = σ k
theorem Fz.rfl {σ : St} : Fz σ σ := fun _ _ => Eq.refl _
theorem Fz.trans {σ σ1 σ2 : St} (a : Fz σ σ1) (b : Fz σ1 σ2) : Fz σ σ2 := fun k hk => (b k hk).trans (a k hk)
theorem Fz.sc {σ σ1 : St} {r : Nat → Int32} (a : Fz σ σ1) (h : Sc σ 5 r) : Sc σ1 5 r := h.cg (fun k _ h2 => a k (by omega)) (fun _ _ => Eq.refl _)
def PZ {α β : Type} (σ τ : St) (x : Option (St × α)) (y : Option (St × β)) (Q : α → β → Prop) : Prop := ∃ σ1 τ1 v w, x = some (σ1, v) ∧ y = some (τ1, w) ∧ Q v w ∧ Fz σ σ1
theorem PZ.q {α β : Type} {σ τ : St} {x : Option (St × α)} {y : Option (St × β)} {Q : α → β → Prop} {v : α} {w : β} (e1 : x = some (σ, v)) (e2 : y = some (τ, w)) (hq : Q v w) : PZ σ τ x y Q := ⟨σ, τ, v, w, e1, e2, hq, Fz.rfl⟩
theorem Z_bundleOf {σ τ : St} (h : Sc σ 5 (τ 249)) (p : Int32) {z : Int32} (hz : okZ z = true) : PZ σ τ (M_X10_bundleOf σ 0 p z) (M_X11_bundleOf τ 248 p z) (fun v w => v = w) := by
  obtain ⟨nb, ns, nc, ni, r, i⟩ := id h
  have hb := i.hb
  unfold M_X10_bundleOf M_X11_bundleOf M_X0_polesOf M_X0_weeksOf
  simp only [Nat.zero_add]
  rcases h_bun r i p with ⟨e1, e2⟩ | ⟨s, hs, rfl, e1, e2⟩
  · simp only [e1, e2, bcall_some, ↓reduceIte]
    exact PZ.q rfl rfl rfl
  · rcases z_ok hz with rfl | rfl
    · simp (disch := omega) only [e1, e2, i10, bcall_some, blet_eq, bput_eq, at_2 (RS.B r), at_3 (RS.B r), at_5 (RS.B r), at_6 (RS.B r), at_7 (RS.B r), at_8 (RS.B r), at_9 (RS.B r), at_10 (RS.B r), at_12 (RS.B r), at_13 (RS.B r), at_14 (RS.B r), at_16 (RS.B r), at_17 (RS.B r), put_2 (RS.B r), put_3 (RS.B r), put_5 (RS.B r), put_6 (RS.B r), put_7 (RS.B r), put_8 (RS.B r), put_9 (RS.B r), put_10 (RS.B r), put_12 (RS.B r), put_13 (RS.B r), put_14 (RS.B r), put_16 (RS.B r), put_17 (RS.B r), x_ofl, x_of, x_setsl, x_sets, x_ld, x_ldl, x_stt, x_stl, x_where, oN_al, oN_la, oN_lm, u2_ne, u2_same, u2_self, (RS.cb r), (RS.cs r), (RS.cc r), (RS.ci r), (Iv.cb i), (Iv.cs i), (Iv.cc i), (Iv.ci i), (RS.a2 r), (RS.a3 r), (RS.a5 r), (RS.a6 r), (RS.a7 r), (RS.a8 r), (RS.a9 r), (RS.a10 r), (RS.a12 r), (RS.a13 r), (RS.a14 r), (RS.a16 r), (RS.a17 r), (RS.f4 r), (RS.f5 r), (RS.f6 r), (RS.f7 r), (RS.f8 r), (RS.f9 r), (RS.f10 r), (RS.f11 r), (RS.f12 r), (RS.f13 r), oN_leT, oN_leF, oN_ltT, oN_ltF, oN_leTl, oN_leFl, oN_ltTl, oN_ltFl, oN_lleT, oN_lleF, oN_lltT, oN_lltF, oN_m4, oN_nn, oN_nn2, mm_0, mm_s, oN_s1, oN_z1, m1_neg, m1_nn, m4_neg, i10, ↓reduceIte, if_true, if_false]
      exact PZ.q rfl rfl rfl
    · simp (disch := omega) only [e1, e2, i10, bcall_some, blet_eq, bput_eq, at_2 (RS.B r), at_3 (RS.B r), at_5 (RS.B r), at_6 (RS.B r), at_7 (RS.B r), at_8 (RS.B r), at_9 (RS.B r), at_10 (RS.B r), at_12 (RS.B r), at_13 (RS.B r), at_14 (RS.B r), at_16 (RS.B r), at_17 (RS.B r), put_2 (RS.B r), put_3 (RS.B r), put_5 (RS.B r), put_6 (RS.B r), put_7 (RS.B r), put_8 (RS.B r), put_9 (RS.B r), put_10 (RS.B r), put_12 (RS.B r), put_13 (RS.B r), put_14 (RS.B r), put_16 (RS.B r), put_17 (RS.B r), x_ofl, x_of, x_setsl, x_sets, x_ld, x_ldl, x_stt, x_stl, x_where, oN_al, oN_la, oN_lm, u2_ne, u2_same, u2_self, (RS.cb r), (RS.cs r), (RS.cc r), (RS.ci r), (Iv.cb i), (Iv.cs i), (Iv.cc i), (Iv.ci i), (RS.a2 r), (RS.a3 r), (RS.a5 r), (RS.a6 r), (RS.a7 r), (RS.a8 r), (RS.a9 r), (RS.a10 r), (RS.a12 r), (RS.a13 r), (RS.a14 r), (RS.a16 r), (RS.a17 r), (RS.f4 r), (RS.f5 r), (RS.f6 r), (RS.f7 r), (RS.f8 r), (RS.f9 r), (RS.f10 r), (RS.f11 r), (RS.f12 r), (RS.f13 r), oN_leT, oN_leF, oN_ltT, oN_ltF, oN_leTl, oN_leFl, oN_ltTl, oN_ltFl, oN_lleT, oN_lleF, oN_lltT, oN_lltF, oN_m4, oN_nn, oN_nn2, mm_0, mm_s, oN_s1, oN_z1, m1_neg, m1_nn, m4_neg, i10, ↓reduceIte, if_true, if_false]
      exact PZ.q rfl rfl rfl
theorem Z_strength {σ τ : St} (h : Sc σ 5 (τ 249)) (p : Int32) {z : Int32} (hz : okZ z = true) : PZ σ τ (M_X10_strength σ 0 p z) (M_X11_strength τ 248 p z) (fun v w => v = w) := by
  obtain ⟨nb, ns, nc, ni, r, i⟩ := id h
  unfold M_X10_strength M_X11_strength
  simp only [Nat.zero_add]
  rcases h_sto r i p with ⟨e1, e2⟩ | ⟨s, hs, rfl, e1, e2⟩
  · simp only [e1, e2, bcall_some, ↓reduceIte]
    exact PZ.q rfl rfl rfl
  · rcases z_ok hz with rfl | rfl
    · simp only [e1, e2, bcall_some, ↓reduceIte, i10, (q_str r i hs).1, (q_str r i hs).2]
      exact PZ.q rfl rfl rfl
    · simp only [e1, e2, bcall_some, ↓reduceIte, i10, q_steps r i hs, (q_str r i hs).2]
      exact PZ.q rfl rfl rfl
theorem Z_weakest {σ τ : St} (h : Sc σ 5 (τ 249)) : PZ σ τ (M_X10_weakest σ 0) (M_X11_weakest τ 248) (fun v w => v = w) := by
  obtain ⟨nb, ns, nc, ni, r, i⟩ := id h
  obtain ⟨v, e1, e2⟩ := q_weak r i
  unfold M_X10_weakest
  simp only [Nat.zero_add, e1, e2, bcall_some]
  exact PZ.q rfl rfl rfl
theorem Z_oldest {σ τ : St} (h : Sc σ 5 (τ 249)) (p : Int32) : PZ σ τ (M_X10_oldest σ 0 p) (M_X11_oldest τ 248 p) (fun v w => v = w) := by
  obtain ⟨nb, ns, nc, ni, r, i⟩ := id h
  obtain ⟨v, e1, e2⟩ := q_oldest r i p
  unfold M_X10_oldest
  simp only [Nat.zero_add, e1, e2, bcall_some]
  exact PZ.q rfl rfl rfl
theorem Z_wouldFall {σ τ : St} (h : Sc σ 5 (τ 249)) (p : Int32) : PZ σ τ (M_X10_wouldFall σ 0 p) (M_X11_wouldFall τ 248 p) (fun v w => v = w) := by
  obtain ⟨nb, ns, nc, ni, r, i⟩ := id h
  obtain ⟨v, e3, e4, _⟩ := q_falls r i p
  unfold M_X10_wouldFall M_X11_wouldFall
  simp only [Nat.zero_add]
  rcases in_pair (σ := σ) (τ := τ) p 8 10 with ⟨e1, e2, _⟩ | ⟨e1, e2, _⟩
  · simp only [e1, e2, bcall_some, ↓reduceIte]
    exact PZ.q rfl rfl rfl
  · simp only [e1, e2, e3, e4, bcall_some, ↓reduceIte, i10]
    exact PZ.q rfl rfl rfl
theorem Z_highest {σ τ : St} (h : Sc σ 5 (τ 249)) : PZ σ τ (M_X10_highest σ 0) (M_X11_highest τ 248) (fun v w => v = w) := by
  obtain ⟨nb, ns, nc, ni, r, i⟩ := id h
  unfold M_X10_highest M_X7_isWarned
  simp only [Nat.zero_add]
  have hs10 := i.hs
  by_cases c : (3 : Int32) ≤ τ 249 1
  · have c' : ¬ τ 249 1 < 3 := Int32.not_lt.mpr c
    have e2 : M_X11_highest τ 248 = some (τ, -4) := by
      unfold M_X11_highest
      obtain ⟨n, hn⟩ : ∃ n, FU = n + 1 := ⟨999, rfl⟩
      rw [hn]
      simp only [B_X11_highest_5]
      by_cases c0 : ns = 0
      · subst c0
        simp (disch := omega) only [c, show (Int32.ofNat 0 ≤ (0 : Int32)) = True from eq_true (by decide), bcall_some, blet_eq, bput_eq, at_2 (RS.B r), at_3 (RS.B r), at_5 (RS.B r), at_6 (RS.B r), at_7 (RS.B r), at_8 (RS.B r), at_9 (RS.B r), at_10 (RS.B r), at_12 (RS.B r), at_13 (RS.B r), at_14 (RS.B r), at_16 (RS.B r), at_17 (RS.B r), put_2 (RS.B r), put_3 (RS.B r), put_5 (RS.B r), put_6 (RS.B r), put_7 (RS.B r), put_8 (RS.B r), put_9 (RS.B r), put_10 (RS.B r), put_12 (RS.B r), put_13 (RS.B r), put_14 (RS.B r), put_16 (RS.B r), put_17 (RS.B r), x_ofl, x_of, x_setsl, x_sets, x_ld, x_ldl, x_stt, x_stl, x_where, oN_al, oN_la, oN_lm, u2_ne, u2_same, u2_self, (RS.cb r), (RS.cs r), (RS.cc r), (RS.ci r), (Iv.cb i), (Iv.cs i), (Iv.cc i), (Iv.ci i), (RS.a2 r), (RS.a3 r), (RS.a5 r), (RS.a6 r), (RS.a7 r), (RS.a8 r), (RS.a9 r), (RS.a10 r), (RS.a12 r), (RS.a13 r), (RS.a14 r), (RS.a16 r), (RS.a17 r), (RS.f4 r), (RS.f5 r), (RS.f6 r), (RS.f7 r), (RS.f8 r), (RS.f9 r), (RS.f10 r), (RS.f11 r), (RS.f12 r), (RS.f13 r), oN_leT, oN_leF, oN_ltT, oN_ltF, oN_leTl, oN_leFl, oN_ltTl, oN_ltFl, oN_lleT, oN_lleF, oN_lltT, oN_lltF, oN_m4, oN_nn, oN_nn2, mm_0, mm_s, oN_s1, oN_z1, m1_neg, m1_nn, m4_neg, i10, ↓reduceIte, if_true, if_false]
      · have c3 : (Int32.ofNat ns ≤ (0 : Int32)) = False := oN_leF (b := 0) (by omega) (by omega)
        simp (disch := omega) only [c, c3, bcall_some, blet_eq, bput_eq, at_2 (RS.B r), at_3 (RS.B r), at_5 (RS.B r), at_6 (RS.B r), at_7 (RS.B r), at_8 (RS.B r), at_9 (RS.B r), at_10 (RS.B r), at_12 (RS.B r), at_13 (RS.B r), at_14 (RS.B r), at_16 (RS.B r), at_17 (RS.B r), put_2 (RS.B r), put_3 (RS.B r), put_5 (RS.B r), put_6 (RS.B r), put_7 (RS.B r), put_8 (RS.B r), put_9 (RS.B r), put_10 (RS.B r), put_12 (RS.B r), put_13 (RS.B r), put_14 (RS.B r), put_16 (RS.B r), put_17 (RS.B r), x_ofl, x_of, x_setsl, x_sets, x_ld, x_ldl, x_stt, x_stl, x_where, oN_al, oN_la, oN_lm, u2_ne, u2_same, u2_self, (RS.cb r), (RS.cs r), (RS.cc r), (RS.ci r), (Iv.cb i), (Iv.cs i), (Iv.cc i), (Iv.ci i), (RS.a2 r), (RS.a3 r), (RS.a5 r), (RS.a6 r), (RS.a7 r), (RS.a8 r), (RS.a9 r), (RS.a10 r), (RS.a12 r), (RS.a13 r), (RS.a14 r), (RS.a16 r), (RS.a17 r), (RS.f4 r), (RS.f5 r), (RS.f6 r), (RS.f7 r), (RS.f8 r), (RS.f9 r), (RS.f10 r), (RS.f11 r), (RS.f12 r), (RS.f13 r), oN_leT, oN_leF, oN_ltT, oN_ltF, oN_leTl, oN_leFl, oN_ltTl, oN_ltFl, oN_lleT, oN_lleF, oN_lltT, oN_lltF, oN_m4, oN_nn, oN_nn2, mm_0, mm_s, oN_s1, oN_z1, m1_neg, m1_nn, m4_neg, i10, ↓reduceIte, if_true, if_false]
    simp (disch := omega) only [c', i10, e2, bcall_some, blet_eq, bput_eq, at_2 (RS.B r), at_3 (RS.B r), at_5 (RS.B r), at_6 (RS.B r), at_7 (RS.B r), at_8 (RS.B r), at_9 (RS.B r), at_10 (RS.B r), at_12 (RS.B r), at_13 (RS.B r), at_14 (RS.B r), at_16 (RS.B r), at_17 (RS.B r), put_2 (RS.B r), put_3 (RS.B r), put_5 (RS.B r), put_6 (RS.B r), put_7 (RS.B r), put_8 (RS.B r), put_9 (RS.B r), put_10 (RS.B r), put_12 (RS.B r), put_13 (RS.B r), put_14 (RS.B r), put_16 (RS.B r), put_17 (RS.B r), x_ofl, x_of, x_setsl, x_sets, x_ld, x_ldl, x_stt, x_stl, x_where, oN_al, oN_la, oN_lm, u2_ne, u2_same, u2_self, (RS.cb r), (RS.cs r), (RS.cc r), (RS.ci r), (Iv.cb i), (Iv.cs i), (Iv.cc i), (Iv.ci i), (RS.a2 r), (RS.a3 r), (RS.a5 r), (RS.a6 r), (RS.a7 r), (RS.a8 r), (RS.a9 r), (RS.a10 r), (RS.a12 r), (RS.a13 r), (RS.a14 r), (RS.a16 r), (RS.a17 r), (RS.f4 r), (RS.f5 r), (RS.f6 r), (RS.f7 r), (RS.f8 r), (RS.f9 r), (RS.f10 r), (RS.f11 r), (RS.f12 r), (RS.f13 r), oN_leT, oN_leF, oN_ltT, oN_ltF, oN_leTl, oN_leFl, oN_ltTl, oN_ltFl, oN_lleT, oN_lleF, oN_lltT, oN_lltF, oN_m4, oN_nn, oN_nn2, mm_0, mm_s, oN_s1, oN_z1, m1_neg, m1_nn, m4_neg, i10, ↓reduceIte, if_true, if_false]
    exact PZ.q rfl rfl rfl
  · have c' : τ 249 1 < 3 := Int32.not_le.mp c
    obtain ⟨v, e1, e2⟩ := q_high r i c
    simp (disch := omega) only [c', e1, e2, bcall_some, blet_eq, bput_eq, at_2 (RS.B r), at_3 (RS.B r), at_5 (RS.B r), at_6 (RS.B r), at_7 (RS.B r), at_8 (RS.B r), at_9 (RS.B r), at_10 (RS.B r), at_12 (RS.B r), at_13 (RS.B r), at_14 (RS.B r), at_16 (RS.B r), at_17 (RS.B r), put_2 (RS.B r), put_3 (RS.B r), put_5 (RS.B r), put_6 (RS.B r), put_7 (RS.B r), put_8 (RS.B r), put_9 (RS.B r), put_10 (RS.B r), put_12 (RS.B r), put_13 (RS.B r), put_14 (RS.B r), put_16 (RS.B r), put_17 (RS.B r), x_ofl, x_of, x_setsl, x_sets, x_ld, x_ldl, x_stt, x_stl, x_where, oN_al, oN_la, oN_lm, u2_ne, u2_same, u2_self, (RS.cb r), (RS.cs r), (RS.cc r), (RS.ci r), (Iv.cb i), (Iv.cs i), (Iv.cc i), (Iv.ci i), (RS.a2 r), (RS.a3 r), (RS.a5 r), (RS.a6 r), (RS.a7 r), (RS.a8 r), (RS.a9 r), (RS.a10 r), (RS.a12 r), (RS.a13 r), (RS.a14 r), (RS.a16 r), (RS.a17 r), (RS.f4 r), (RS.f5 r), (RS.f6 r), (RS.f7 r), (RS.f8 r), (RS.f9 r), (RS.f10 r), (RS.f11 r), (RS.f12 r), (RS.f13 r), oN_leT, oN_leF, oN_ltT, oN_ltF, oN_leTl, oN_leFl, oN_ltTl, oN_ltFl, oN_lleT, oN_lleF, oN_lltT, oN_lltF, oN_m4, oN_nn, oN_nn2, mm_0, mm_s, oN_s1, oN_z1, m1_neg, m1_nn, m4_neg, i10, ↓reduceIte, if_true, if_false]
    exact PZ.q rfl rfl rfl
theorem Z_work {σ τ : St} (h : Sc σ 5 (τ 249)) {z : Int32} (hz : okZ z = true) : PZ σ τ (M_X10_work σ 0 z) (M_X11_work τ 248 z) (fun v w => v = w) := by
  obtain ⟨nb, ns, nc, ni, r, i⟩ := id h
  obtain ⟨v, e1, e2⟩ := q_hours r i
  unfold M_X10_work M_X11_work
  simp only [Nat.zero_add]
  rcases z_ok hz with rfl | rfl
  · simp only [e1, e2, bcall_some, ↓reduceIte]
    exact PZ.q rfl rfl rfl
  · simp (disch := omega) only [i10, bcall_some, blet_eq, bput_eq, at_2 (RS.B r), at_3 (RS.B r), at_5 (RS.B r), at_6 (RS.B r), at_7 (RS.B r), at_8 (RS.B r), at_9 (RS.B r), at_10 (RS.B r), at_12 (RS.B r), at_13 (RS.B r), at_14 (RS.B r), at_16 (RS.B r), at_17 (RS.B r), put_2 (RS.B r), put_3 (RS.B r), put_5 (RS.B r), put_6 (RS.B r), put_7 (RS.B r), put_8 (RS.B r), put_9 (RS.B r), put_10 (RS.B r), put_12 (RS.B r), put_13 (RS.B r), put_14 (RS.B r), put_16 (RS.B r), put_17 (RS.B r), x_ofl, x_of, x_setsl, x_sets, x_ld, x_ldl, x_stt, x_stl, x_where, oN_al, oN_la, oN_lm, u2_ne, u2_same, u2_self, (RS.cb r), (RS.cs r), (RS.cc r), (RS.ci r), (Iv.cb i), (Iv.cs i), (Iv.cc i), (Iv.ci i), (RS.a2 r), (RS.a3 r), (RS.a5 r), (RS.a6 r), (RS.a7 r), (RS.a8 r), (RS.a9 r), (RS.a10 r), (RS.a12 r), (RS.a13 r), (RS.a14 r), (RS.a16 r), (RS.a17 r), (RS.f4 r), (RS.f5 r), (RS.f6 r), (RS.f7 r), (RS.f8 r), (RS.f9 r), (RS.f10 r), (RS.f11 r), (RS.f12 r), (RS.f13 r), oN_leT, oN_leF, oN_ltT, oN_ltF, oN_leTl, oN_leFl, oN_ltTl, oN_ltFl, oN_lleT, oN_lleF, oN_lltT, oN_lltF, oN_m4, oN_nn, oN_nn2, mm_0, mm_s, oN_s1, oN_z1, m1_neg, m1_nn, m4_neg, i10, ↓reduceIte, if_true, if_false]
    exact PZ.q rfl rfl rfl
theorem Z_meanStrength {σ τ : St} (h : Sc σ 5 (τ 249)) : PZ σ τ (M_X10_meanStrength σ 0) (M_X11_meanStrength τ 248) (fun v w => v = w) := by
  obtain ⟨nb, ns, nc, ni, r, i⟩ := id h
  obtain ⟨v, e1, e2⟩ := q_mean r i
  unfold M_X10_meanStrength M_X11_meanStrength
  simp only [Nat.zero_add]
  by_cases c : (Int32.ofNat ns = (0 : Int32))
  · simp (disch := omega) only [c, bcall_some, blet_eq, bput_eq, at_2 (RS.B r), at_3 (RS.B r), at_5 (RS.B r), at_6 (RS.B r), at_7 (RS.B r), at_8 (RS.B r), at_9 (RS.B r), at_10 (RS.B r), at_12 (RS.B r), at_13 (RS.B r), at_14 (RS.B r), at_16 (RS.B r), at_17 (RS.B r), put_2 (RS.B r), put_3 (RS.B r), put_5 (RS.B r), put_6 (RS.B r), put_7 (RS.B r), put_8 (RS.B r), put_9 (RS.B r), put_10 (RS.B r), put_12 (RS.B r), put_13 (RS.B r), put_14 (RS.B r), put_16 (RS.B r), put_17 (RS.B r), x_ofl, x_of, x_setsl, x_sets, x_ld, x_ldl, x_stt, x_stl, x_where, oN_al, oN_la, oN_lm, u2_ne, u2_same, u2_self, (RS.cb r), (RS.cs r), (RS.cc r), (RS.ci r), (Iv.cb i), (Iv.cs i), (Iv.cc i), (Iv.ci i), (RS.a2 r), (RS.a3 r), (RS.a5 r), (RS.a6 r), (RS.a7 r), (RS.a8 r), (RS.a9 r), (RS.a10 r), (RS.a12 r), (RS.a13 r), (RS.a14 r), (RS.a16 r), (RS.a17 r), (RS.f4 r), (RS.f5 r), (RS.f6 r), (RS.f7 r), (RS.f8 r), (RS.f9 r), (RS.f10 r), (RS.f11 r), (RS.f12 r), (RS.f13 r), oN_leT, oN_leF, oN_ltT, oN_ltF, oN_leTl, oN_leFl, oN_ltTl, oN_ltFl, oN_lleT, oN_lleF, oN_lltT, oN_lltF, oN_m4, oN_nn, oN_nn2, mm_0, mm_s, oN_s1, oN_z1, m1_neg, m1_nn, m4_neg, i10, ↓reduceIte, if_true, if_false]
    exact PZ.q rfl rfl rfl
  · simp (disch := omega) only [c, e1, e2, bcall_some, blet_eq, bput_eq, at_2 (RS.B r), at_3 (RS.B r), at_5 (RS.B r), at_6 (RS.B r), at_7 (RS.B r), at_8 (RS.B r), at_9 (RS.B r), at_10 (RS.B r), at_12 (RS.B r), at_13 (RS.B r), at_14 (RS.B r), at_16 (RS.B r), at_17 (RS.B r), put_2 (RS.B r), put_3 (RS.B r), put_5 (RS.B r), put_6 (RS.B r), put_7 (RS.B r), put_8 (RS.B r), put_9 (RS.B r), put_10 (RS.B r), put_12 (RS.B r), put_13 (RS.B r), put_14 (RS.B r), put_16 (RS.B r), put_17 (RS.B r), x_ofl, x_of, x_setsl, x_sets, x_ld, x_ldl, x_stt, x_stl, x_where, oN_al, oN_la, oN_lm, u2_ne, u2_same, u2_self, (RS.cb r), (RS.cs r), (RS.cc r), (RS.ci r), (Iv.cb i), (Iv.cs i), (Iv.cc i), (Iv.ci i), (RS.a2 r), (RS.a3 r), (RS.a5 r), (RS.a6 r), (RS.a7 r), (RS.a8 r), (RS.a9 r), (RS.a10 r), (RS.a12 r), (RS.a13 r), (RS.a14 r), (RS.a16 r), (RS.a17 r), (RS.f4 r), (RS.f5 r), (RS.f6 r), (RS.f7 r), (RS.f8 r), (RS.f9 r), (RS.f10 r), (RS.f11 r), (RS.f12 r), (RS.f13 r), oN_leT, oN_leF, oN_ltT, oN_ltF, oN_leTl, oN_leFl, oN_ltTl, oN_ltFl, oN_lleT, oN_lleF, oN_lltT, oN_lltF, oN_m4, oN_nn, oN_nn2, mm_0, mm_s, oN_s1, oN_z1, m1_neg, m1_nn, m4_neg, i10, ↓reduceIte, if_true, if_false]
    exact PZ.q rfl rfl rfl
theorem Z_doneShare {σ τ : St} (h : Sc σ 5 (τ 249)) : PZ σ τ (M_X10_doneShare σ 0) (M_X11_doneShare τ 248) (fun v w => v = w) := by
  obtain ⟨nb, ns, nc, ni, r, i⟩ := id h
  unfold M_X10_doneShare M_X11_doneShare
  simp only [Nat.zero_add]
  by_cases c : τ 249 12 = 0
  · simp (disch := omega) only [c, bcall_some, blet_eq, bput_eq, at_2 (RS.B r), at_3 (RS.B r), at_5 (RS.B r), at_6 (RS.B r), at_7 (RS.B r), at_8 (RS.B r), at_9 (RS.B r), at_10 (RS.B r), at_12 (RS.B r), at_13 (RS.B r), at_14 (RS.B r), at_16 (RS.B r), at_17 (RS.B r), put_2 (RS.B r), put_3 (RS.B r), put_5 (RS.B r), put_6 (RS.B r), put_7 (RS.B r), put_8 (RS.B r), put_9 (RS.B r), put_10 (RS.B r), put_12 (RS.B r), put_13 (RS.B r), put_14 (RS.B r), put_16 (RS.B r), put_17 (RS.B r), x_ofl, x_of, x_setsl, x_sets, x_ld, x_ldl, x_stt, x_stl, x_where, oN_al, oN_la, oN_lm, u2_ne, u2_same, u2_self, (RS.cb r), (RS.cs r), (RS.cc r), (RS.ci r), (Iv.cb i), (Iv.cs i), (Iv.cc i), (Iv.ci i), (RS.a2 r), (RS.a3 r), (RS.a5 r), (RS.a6 r), (RS.a7 r), (RS.a8 r), (RS.a9 r), (RS.a10 r), (RS.a12 r), (RS.a13 r), (RS.a14 r), (RS.a16 r), (RS.a17 r), (RS.f4 r), (RS.f5 r), (RS.f6 r), (RS.f7 r), (RS.f8 r), (RS.f9 r), (RS.f10 r), (RS.f11 r), (RS.f12 r), (RS.f13 r), oN_leT, oN_leF, oN_ltT, oN_ltF, oN_leTl, oN_leFl, oN_ltTl, oN_ltFl, oN_lleT, oN_lleF, oN_lltT, oN_lltF, oN_m4, oN_nn, oN_nn2, mm_0, mm_s, oN_s1, oN_z1, m1_neg, m1_nn, m4_neg, i10, ↓reduceIte, if_true, if_false]
    exact PZ.q rfl rfl rfl
  · simp (disch := omega) only [c, bcall_some, blet_eq, bput_eq, at_2 (RS.B r), at_3 (RS.B r), at_5 (RS.B r), at_6 (RS.B r), at_7 (RS.B r), at_8 (RS.B r), at_9 (RS.B r), at_10 (RS.B r), at_12 (RS.B r), at_13 (RS.B r), at_14 (RS.B r), at_16 (RS.B r), at_17 (RS.B r), put_2 (RS.B r), put_3 (RS.B r), put_5 (RS.B r), put_6 (RS.B r), put_7 (RS.B r), put_8 (RS.B r), put_9 (RS.B r), put_10 (RS.B r), put_12 (RS.B r), put_13 (RS.B r), put_14 (RS.B r), put_16 (RS.B r), put_17 (RS.B r), x_ofl, x_of, x_setsl, x_sets, x_ld, x_ldl, x_stt, x_stl, x_where, oN_al, oN_la, oN_lm, u2_ne, u2_same, u2_self, (RS.cb r), (RS.cs r), (RS.cc r), (RS.ci r), (Iv.cb i), (Iv.cs i), (Iv.cc i), (Iv.ci i), (RS.a2 r), (RS.a3 r), (RS.a5 r), (RS.a6 r), (RS.a7 r), (RS.a8 r), (RS.a9 r), (RS.a10 r), (RS.a12 r), (RS.a13 r), (RS.a14 r), (RS.a16 r), (RS.a17 r), (RS.f4 r), (RS.f5 r), (RS.f6 r), (RS.f7 r), (RS.f8 r), (RS.f9 r), (RS.f10 r), (RS.f11 r), (RS.f12 r), (RS.f13 r), oN_leT, oN_leF, oN_ltT, oN_ltF, oN_leTl, oN_leFl, oN_ltTl, oN_ltFl, oN_lleT, oN_lleF, oN_lltT, oN_lltF, oN_m4, oN_nn, oN_nn2, mm_0, mm_s, oN_s1, oN_z1, m1_neg, m1_nn, m4_neg, i10, ↓reduceIte, if_true, if_false]
    exact PZ.q rfl rfl rfl
theorem Z_storeyOf {σ τ : St} (h : Sc σ 5 (τ 249)) (p z : Int32) : PZ σ τ (M_X10_storeyOf σ 0 p z) (M_X11_storeyOf τ 248 p z) (fun v w => v = w) := by
  obtain ⟨nb, ns, nc, ni, r, i⟩ := id h
  have hs10 := i.hs
  unfold M_X10_storeyOf M_X11_storeyOf M_X9_polesOf M_X9_weeksOf M_X9_tieOf M_X9_hoursOf M_X9_loadsOf M_X9_isShut M_X9_shutterOf
  simp only [Nat.zero_add]
  rcases h_sto r i p with ⟨e1, e2⟩ | ⟨s, hs, rfl, e1, e2⟩
  · simp only [e1, e2, bcall_some, ↓reduceIte]
    exact PZ.q rfl rfl rfl
  · simp only [e1, e2, bcall_some, ↓reduceIte, i10]
    by_cases c : z.toInt < 0 ∨ 6 < z.toInt
    · rw [if_pos c, if_pos c]
      exact PZ.q rfl rfl rfl
    · rw [if_neg c, if_neg c]
      have hz : z = 0 ∨ z = 1 ∨ z = 2 ∨ z = 3 ∨ z = 4 ∨ z = 5 ∨ z = 6 := by
        have : z.toInt = (0 : Int32).toInt ∨ z.toInt = (1 : Int32).toInt ∨ z.toInt = (2 : Int32).toInt ∨ z.toInt = (3 : Int32).toInt ∨ z.toInt = (4 : Int32).toInt ∨ z.toInt = (5 : Int32).toInt ∨ z.toInt = (6 : Int32).toInt := by
          show z.toInt = 0 ∨ z.toInt = 1 ∨ z.toInt = 2 ∨ z.toInt = 3 ∨ z.toInt = 4 ∨ z.toInt = 5 ∨ z.toInt = 6
          omega
        simpa only [Int32.toInt_inj] using this
      have t0 : (0 : Int32).toInt = 0 := rfl
      have t1 : (1 : Int32).toInt = 1 := rfl
      have t2 : (2 : Int32).toInt = 2 := rfl
      have t3 : (3 : Int32).toInt = 3 := rfl
      have t4 : (4 : Int32).toInt = 4 := rfl
      have t5 : (5 : Int32).toInt = 5 := rfl
      have t6 : (6 : Int32).toInt = 6 := rfl
      rcases hz with rfl | rfl | rfl | rfl | rfl | rfl | rfl
      · rw [t0]; simp (disch := omega) only [show ((0 : Int) = 0) = True from eq_true rfl, bcall_some, blet_eq, bput_eq, at_2 (RS.B r), at_3 (RS.B r), at_5 (RS.B r), at_6 (RS.B r), at_7 (RS.B r), at_8 (RS.B r), at_9 (RS.B r), at_10 (RS.B r), at_12 (RS.B r), at_13 (RS.B r), at_14 (RS.B r), at_16 (RS.B r), at_17 (RS.B r), put_2 (RS.B r), put_3 (RS.B r), put_5 (RS.B r), put_6 (RS.B r), put_7 (RS.B r), put_8 (RS.B r), put_9 (RS.B r), put_10 (RS.B r), put_12 (RS.B r), put_13 (RS.B r), put_14 (RS.B r), put_16 (RS.B r), put_17 (RS.B r), x_ofl, x_of, x_setsl, x_sets, x_ld, x_ldl, x_stt, x_stl, x_where, oN_al, oN_la, oN_lm, u2_ne, u2_same, u2_self, (RS.cb r), (RS.cs r), (RS.cc r), (RS.ci r), (Iv.cb i), (Iv.cs i), (Iv.cc i), (Iv.ci i), (RS.a2 r), (RS.a3 r), (RS.a5 r), (RS.a6 r), (RS.a7 r), (RS.a8 r), (RS.a9 r), (RS.a10 r), (RS.a12 r), (RS.a13 r), (RS.a14 r), (RS.a16 r), (RS.a17 r), (RS.f4 r), (RS.f5 r), (RS.f6 r), (RS.f7 r), (RS.f8 r), (RS.f9 r), (RS.f10 r), (RS.f11 r), (RS.f12 r), (RS.f13 r), oN_leT, oN_leF, oN_ltT, oN_ltF, oN_leTl, oN_leFl, oN_ltTl, oN_ltFl, oN_lleT, oN_lleF, oN_lltT, oN_lltF, oN_m4, oN_nn, oN_nn2, mm_0, mm_s, oN_s1, oN_z1, m1_neg, m1_nn, m4_neg, i10, ↓reduceIte, if_true, if_false]
        exact PZ.q rfl rfl rfl
      · rw [t1]; simp (disch := omega) only [show ((1 : Int) = 0) = False from by decide, show ((1 : Int) = 1) = True from eq_true rfl, bcall_some, blet_eq, bput_eq, at_2 (RS.B r), at_3 (RS.B r), at_5 (RS.B r), at_6 (RS.B r), at_7 (RS.B r), at_8 (RS.B r), at_9 (RS.B r), at_10 (RS.B r), at_12 (RS.B r), at_13 (RS.B r), at_14 (RS.B r), at_16 (RS.B r), at_17 (RS.B r), put_2 (RS.B r), put_3 (RS.B r), put_5 (RS.B r), put_6 (RS.B r), put_7 (RS.B r), put_8 (RS.B r), put_9 (RS.B r), put_10 (RS.B r), put_12 (RS.B r), put_13 (RS.B r), put_14 (RS.B r), put_16 (RS.B r), put_17 (RS.B r), x_ofl, x_of, x_setsl, x_sets, x_ld, x_ldl, x_stt, x_stl, x_where, oN_al, oN_la, oN_lm, u2_ne, u2_same, u2_self, (RS.cb r), (RS.cs r), (RS.cc r), (RS.ci r), (Iv.cb i), (Iv.cs i), (Iv.cc i), (Iv.ci i), (RS.a2 r), (RS.a3 r), (RS.a5 r), (RS.a6 r), (RS.a7 r), (RS.a8 r), (RS.a9 r), (RS.a10 r), (RS.a12 r), (RS.a13 r), (RS.a14 r), (RS.a16 r), (RS.a17 r), (RS.f4 r), (RS.f5 r), (RS.f6 r), (RS.f7 r), (RS.f8 r), (RS.f9 r), (RS.f10 r), (RS.f11 r), (RS.f12 r), (RS.f13 r), oN_leT, oN_leF, oN_ltT, oN_ltF, oN_leTl, oN_leFl, oN_ltTl, oN_ltFl, oN_lleT, oN_lleF, oN_lltT, oN_lltF, oN_m4, oN_nn, oN_nn2, mm_0, mm_s, oN_s1, oN_z1, m1_neg, m1_nn, m4_neg, i10, ↓reduceIte, if_true, if_false]
        exact PZ.q rfl rfl rfl
      · rw [t2]; simp (disch := omega) only [show ((2 : Int) = 0) = False from by decide, show ((2 : Int) = 1) = False from by decide, show ((2 : Int) = 2) = True from eq_true rfl, bcall_some, blet_eq, bput_eq, at_2 (RS.B r), at_3 (RS.B r), at_5 (RS.B r), at_6 (RS.B r), at_7 (RS.B r), at_8 (RS.B r), at_9 (RS.B r), at_10 (RS.B r), at_12 (RS.B r), at_13 (RS.B r), at_14 (RS.B r), at_16 (RS.B r), at_17 (RS.B r), put_2 (RS.B r), put_3 (RS.B r), put_5 (RS.B r), put_6 (RS.B r), put_7 (RS.B r), put_8 (RS.B r), put_9 (RS.B r), put_10 (RS.B r), put_12 (RS.B r), put_13 (RS.B r), put_14 (RS.B r), put_16 (RS.B r), put_17 (RS.B r), x_ofl, x_of, x_setsl, x_sets, x_ld, x_ldl, x_stt, x_stl, x_where, oN_al, oN_la, oN_lm, u2_ne, u2_same, u2_self, (RS.cb r), (RS.cs r), (RS.cc r), (RS.ci r), (Iv.cb i), (Iv.cs i), (Iv.cc i), (Iv.ci i), (RS.a2 r), (RS.a3 r), (RS.a5 r), (RS.a6 r), (RS.a7 r), (RS.a8 r), (RS.a9 r), (RS.a10 r), (RS.a12 r), (RS.a13 r), (RS.a14 r), (RS.a16 r), (RS.a17 r), (RS.f4 r), (RS.f5 r), (RS.f6 r), (RS.f7 r), (RS.f8 r), (RS.f9 r), (RS.f10 r), (RS.f11 r), (RS.f12 r), (RS.f13 r), oN_leT, oN_leF, oN_ltT, oN_ltF, oN_leTl, oN_leFl, oN_ltTl, oN_ltFl, oN_lleT, oN_lleF, oN_lltT, oN_lltF, oN_m4, oN_nn, oN_nn2, mm_0, mm_s, oN_s1, oN_z1, m1_neg, m1_nn, m4_neg, i10, ↓reduceIte, if_true, if_false]
        exact PZ.q rfl rfl rfl
      · rw [t3]; simp (disch := omega) only [show ((3 : Int) = 0) = False from by decide, show ((3 : Int) = 1) = False from by decide, show ((3 : Int) = 2) = False from by decide, show ((3 : Int) = 3) = True from eq_true rfl, bcall_some, blet_eq, bput_eq, at_2 (RS.B r), at_3 (RS.B r), at_5 (RS.B r), at_6 (RS.B r), at_7 (RS.B r), at_8 (RS.B r), at_9 (RS.B r), at_10 (RS.B r), at_12 (RS.B r), at_13 (RS.B r), at_14 (RS.B r), at_16 (RS.B r), at_17 (RS.B r), put_2 (RS.B r), put_3 (RS.B r), put_5 (RS.B r), put_6 (RS.B r), put_7 (RS.B r), put_8 (RS.B r), put_9 (RS.B r), put_10 (RS.B r), put_12 (RS.B r), put_13 (RS.B r), put_14 (RS.B r), put_16 (RS.B r), put_17 (RS.B r), x_ofl, x_of, x_setsl, x_sets, x_ld, x_ldl, x_stt, x_stl, x_where, oN_al, oN_la, oN_lm, u2_ne, u2_same, u2_self, (RS.cb r), (RS.cs r), (RS.cc r), (RS.ci r), (Iv.cb i), (Iv.cs i), (Iv.cc i), (Iv.ci i), (RS.a2 r), (RS.a3 r), (RS.a5 r), (RS.a6 r), (RS.a7 r), (RS.a8 r), (RS.a9 r), (RS.a10 r), (RS.a12 r), (RS.a13 r), (RS.a14 r), (RS.a16 r), (RS.a17 r), (RS.f4 r), (RS.f5 r), (RS.f6 r), (RS.f7 r), (RS.f8 r), (RS.f9 r), (RS.f10 r), (RS.f11 r), (RS.f12 r), (RS.f13 r), oN_leT, oN_leF, oN_ltT, oN_ltF, oN_leTl, oN_leFl, oN_ltTl, oN_ltFl, oN_lleT, oN_lleF, oN_lltT, oN_lltF, oN_m4, oN_nn, oN_nn2, mm_0, mm_s, oN_s1, oN_z1, m1_neg, m1_nn, m4_neg, i10, ↓reduceIte, if_true, if_false]
        exact PZ.q rfl rfl rfl
      · rw [t4]; simp (disch := omega) only [show ((4 : Int) = 0) = False from by decide, show ((4 : Int) = 1) = False from by decide, show ((4 : Int) = 2) = False from by decide, show ((4 : Int) = 3) = False from by decide, show ((4 : Int) = 4) = True from eq_true rfl, bcall_some, blet_eq, bput_eq, at_2 (RS.B r), at_3 (RS.B r), at_5 (RS.B r), at_6 (RS.B r), at_7 (RS.B r), at_8 (RS.B r), at_9 (RS.B r), at_10 (RS.B r), at_12 (RS.B r), at_13 (RS.B r), at_14 (RS.B r), at_16 (RS.B r), at_17 (RS.B r), put_2 (RS.B r), put_3 (RS.B r), put_5 (RS.B r), put_6 (RS.B r), put_7 (RS.B r), put_8 (RS.B r), put_9 (RS.B r), put_10 (RS.B r), put_12 (RS.B r), put_13 (RS.B r), put_14 (RS.B r), put_16 (RS.B r), put_17 (RS.B r), x_ofl, x_of, x_setsl, x_sets, x_ld, x_ldl, x_stt, x_stl, x_where, oN_al, oN_la, oN_lm, u2_ne, u2_same, u2_self, (RS.cb r), (RS.cs r), (RS.cc r), (RS.ci r), (Iv.cb i), (Iv.cs i), (Iv.cc i), (Iv.ci i), (RS.a2 r), (RS.a3 r), (RS.a5 r), (RS.a6 r), (RS.a7 r), (RS.a8 r), (RS.a9 r), (RS.a10 r), (RS.a12 r), (RS.a13 r), (RS.a14 r), (RS.a16 r), (RS.a17 r), (RS.f4 r), (RS.f5 r), (RS.f6 r), (RS.f7 r), (RS.f8 r), (RS.f9 r), (RS.f10 r), (RS.f11 r), (RS.f12 r), (RS.f13 r), oN_leT, oN_leF, oN_ltT, oN_ltF, oN_leTl, oN_leFl, oN_ltTl, oN_ltFl, oN_lleT, oN_lleF, oN_lltT, oN_lltF, oN_m4, oN_nn, oN_nn2, mm_0, mm_s, oN_s1, oN_z1, m1_neg, m1_nn, m4_neg, i10, ↓reduceIte, if_true, if_false]
        exact PZ.q rfl rfl rfl
      · obtain ⟨g, hg, e⟩ := i.su s hs
        rcases g with _ | g
        · rw [t5]; simp (disch := omega) only [e, show ((5 : Int) = 0) = False from by decide, show ((5 : Int) = 1) = False from by decide, show ((5 : Int) = 2) = False from by decide, show ((5 : Int) = 3) = False from by decide, show ((5 : Int) = 4) = False from by decide, show ((5 : Int) = 5) = True from eq_true rfl, bcall_some, blet_eq, bput_eq, at_2 (RS.B r), at_3 (RS.B r), at_5 (RS.B r), at_6 (RS.B r), at_7 (RS.B r), at_8 (RS.B r), at_9 (RS.B r), at_10 (RS.B r), at_12 (RS.B r), at_13 (RS.B r), at_14 (RS.B r), at_16 (RS.B r), at_17 (RS.B r), put_2 (RS.B r), put_3 (RS.B r), put_5 (RS.B r), put_6 (RS.B r), put_7 (RS.B r), put_8 (RS.B r), put_9 (RS.B r), put_10 (RS.B r), put_12 (RS.B r), put_13 (RS.B r), put_14 (RS.B r), put_16 (RS.B r), put_17 (RS.B r), x_ofl, x_of, x_setsl, x_sets, x_ld, x_ldl, x_stt, x_stl, x_where, oN_al, oN_la, oN_lm, u2_ne, u2_same, u2_self, (RS.cb r), (RS.cs r), (RS.cc r), (RS.ci r), (Iv.cb i), (Iv.cs i), (Iv.cc i), (Iv.ci i), (RS.a2 r), (RS.a3 r), (RS.a5 r), (RS.a6 r), (RS.a7 r), (RS.a8 r), (RS.a9 r), (RS.a10 r), (RS.a12 r), (RS.a13 r), (RS.a14 r), (RS.a16 r), (RS.a17 r), (RS.f4 r), (RS.f5 r), (RS.f6 r), (RS.f7 r), (RS.f8 r), (RS.f9 r), (RS.f10 r), (RS.f11 r), (RS.f12 r), (RS.f13 r), oN_leT, oN_leF, oN_ltT, oN_ltF, oN_leTl, oN_leFl, oN_ltTl, oN_ltFl, oN_lleT, oN_lleF, oN_lltT, oN_lltF, oN_m4, oN_nn, oN_nn2, mm_0, mm_s, oN_s1, oN_z1, m1_neg, m1_nn, m4_neg, i10, ↓reduceIte, if_true, if_false]
          exact PZ.q rfl rfl rfl
        · rw [t5]; simp (disch := omega) only [e, i10, show ((5 : Int) = 0) = False from by decide, show ((5 : Int) = 1) = False from by decide, show ((5 : Int) = 2) = False from by decide, show ((5 : Int) = 3) = False from by decide, show ((5 : Int) = 4) = False from by decide, show ((5 : Int) = 5) = True from eq_true rfl, bcall_some, blet_eq, bput_eq, at_2 (RS.B r), at_3 (RS.B r), at_5 (RS.B r), at_6 (RS.B r), at_7 (RS.B r), at_8 (RS.B r), at_9 (RS.B r), at_10 (RS.B r), at_12 (RS.B r), at_13 (RS.B r), at_14 (RS.B r), at_16 (RS.B r), at_17 (RS.B r), put_2 (RS.B r), put_3 (RS.B r), put_5 (RS.B r), put_6 (RS.B r), put_7 (RS.B r), put_8 (RS.B r), put_9 (RS.B r), put_10 (RS.B r), put_12 (RS.B r), put_13 (RS.B r), put_14 (RS.B r), put_16 (RS.B r), put_17 (RS.B r), x_ofl, x_of, x_setsl, x_sets, x_ld, x_ldl, x_stt, x_stl, x_where, oN_al, oN_la, oN_lm, u2_ne, u2_same, u2_self, (RS.cb r), (RS.cs r), (RS.cc r), (RS.ci r), (Iv.cb i), (Iv.cs i), (Iv.cc i), (Iv.ci i), (RS.a2 r), (RS.a3 r), (RS.a5 r), (RS.a6 r), (RS.a7 r), (RS.a8 r), (RS.a9 r), (RS.a10 r), (RS.a12 r), (RS.a13 r), (RS.a14 r), (RS.a16 r), (RS.a17 r), (RS.f4 r), (RS.f5 r), (RS.f6 r), (RS.f7 r), (RS.f8 r), (RS.f9 r), (RS.f10 r), (RS.f11 r), (RS.f12 r), (RS.f13 r), oN_leT, oN_leF, oN_ltT, oN_ltF, oN_leTl, oN_leFl, oN_ltTl, oN_ltFl, oN_lleT, oN_lleF, oN_lltT, oN_lltF, oN_m4, oN_nn, oN_nn2, mm_0, mm_s, oN_s1, oN_z1, m1_neg, m1_nn, m4_neg, i10, ↓reduceIte, if_true, if_false]
          exact PZ.q rfl rfl rfl
      · obtain ⟨m, _, e3, e4⟩ := q_bits r i hs
        rw [t6]; simp only [e3, e4, bcall_some, ↓reduceIte, show ((6 : Int) = 0) = False from by decide, show ((6 : Int) = 1) = False from by decide, show ((6 : Int) = 2) = False from by decide, show ((6 : Int) = 3) = False from by decide, show ((6 : Int) = 4) = False from by decide, show ((6 : Int) = 5) = False from by decide, show ((6 : Int) = 6) = True from eq_true rfl]
        exact PZ.q rfl rfl rfl
theorem Z_account {σ τ : St} (h : Sc σ 5 (τ 249)) (p : Int32) (hp : p ≠ Int32.ofNat 17) (hq : p ≠ Int32.ofNat 18) : PZ σ τ (M_X10_account σ 0 p) (M_X11_account τ 248 p) (fun v w => v = w) := by
  obtain ⟨nb, ns, nc, ni, r, i⟩ := id h
  unfold M_X10_account M_X11_account
  simp only [Nat.zero_add]
  by_cases c : p.toInt < 0 ∨ 18 < p.toInt
  · rw [if_pos c, if_pos c]
    exact PZ.q rfl rfl rfl
  rw [if_neg c, if_neg c]
  obtain ⟨k, hk, rfl⟩ := sw_of (n := 18) (by decide) c
  have hk2 : k = 0 ∨ k = 1 ∨ k = 2 ∨ k = 3 ∨ k = 4 ∨ k = 5 ∨ k = 6 ∨ k = 7 ∨ k = 8 ∨ k = 9 ∨ k = 10 ∨ k = 11 ∨ k = 12 ∨ k = 13 ∨ k = 14 ∨ k = 15 ∨ k = 16 ∨ k = 17 ∨ k = 18 := by omega
  rcases hk2 with rfl | rfl | rfl | rfl | rfl | rfl | rfl | rfl | rfl | rfl | rfl | rfl | rfl | rfl | rfl | rfl | rfl | rfl | rfl
  · have tk : (Int32.ofNat 0).toInt = 0 := rfl
    rw [tk]
    simp only [show ((0 : Int) = 0) = True from eq_true rfl, ↓reduceIte]
    simp (disch := omega) only [i10, bcall_some, blet_eq, bput_eq, at_2 (RS.B r), at_3 (RS.B r), at_5 (RS.B r), at_6 (RS.B r), at_7 (RS.B r), at_8 (RS.B r), at_9 (RS.B r), at_10 (RS.B r), at_12 (RS.B r), at_13 (RS.B r), at_14 (RS.B r), at_16 (RS.B r), at_17 (RS.B r), put_2 (RS.B r), put_3 (RS.B r), put_5 (RS.B r), put_6 (RS.B r), put_7 (RS.B r), put_8 (RS.B r), put_9 (RS.B r), put_10 (RS.B r), put_12 (RS.B r), put_13 (RS.B r), put_14 (RS.B r), put_16 (RS.B r), put_17 (RS.B r), x_ofl, x_of, x_setsl, x_sets, x_ld, x_ldl, x_stt, x_stl, x_where, oN_al, oN_la, oN_lm, u2_ne, u2_same, u2_self, (RS.cb r), (RS.cs r), (RS.cc r), (RS.ci r), (Iv.cb i), (Iv.cs i), (Iv.cc i), (Iv.ci i), (RS.a2 r), (RS.a3 r), (RS.a5 r), (RS.a6 r), (RS.a7 r), (RS.a8 r), (RS.a9 r), (RS.a10 r), (RS.a12 r), (RS.a13 r), (RS.a14 r), (RS.a16 r), (RS.a17 r), (RS.f4 r), (RS.f5 r), (RS.f6 r), (RS.f7 r), (RS.f8 r), (RS.f9 r), (RS.f10 r), (RS.f11 r), (RS.f12 r), (RS.f13 r), oN_leT, oN_leF, oN_ltT, oN_ltF, oN_leTl, oN_leFl, oN_ltTl, oN_ltFl, oN_lleT, oN_lleF, oN_lltT, oN_lltF, oN_m4, oN_nn, oN_nn2, mm_0, mm_s, oN_s1, oN_z1, m1_neg, m1_nn, m4_neg, i10, ↓reduceIte, if_true, if_false]
    exact PZ.q rfl rfl rfl
  · have tk : (Int32.ofNat 1).toInt = 1 := rfl
    rw [tk]
    simp only [show ((1 : Int) = 0) = False from by decide, show ((1 : Int) = 1) = True from eq_true rfl, ↓reduceIte]
    simp (disch := omega) only [i10, bcall_some, blet_eq, bput_eq, at_2 (RS.B r), at_3 (RS.B r), at_5 (RS.B r), at_6 (RS.B r), at_7 (RS.B r), at_8 (RS.B r), at_9 (RS.B r), at_10 (RS.B r), at_12 (RS.B r), at_13 (RS.B r), at_14 (RS.B r), at_16 (RS.B r), at_17 (RS.B r), put_2 (RS.B r), put_3 (RS.B r), put_5 (RS.B r), put_6 (RS.B r), put_7 (RS.B r), put_8 (RS.B r), put_9 (RS.B r), put_10 (RS.B r), put_12 (RS.B r), put_13 (RS.B r), put_14 (RS.B r), put_16 (RS.B r), put_17 (RS.B r), x_ofl, x_of, x_setsl, x_sets, x_ld, x_ldl, x_stt, x_stl, x_where, oN_al, oN_la, oN_lm, u2_ne, u2_same, u2_self, (RS.cb r), (RS.cs r), (RS.cc r), (RS.ci r), (Iv.cb i), (Iv.cs i), (Iv.cc i), (Iv.ci i), (RS.a2 r), (RS.a3 r), (RS.a5 r), (RS.a6 r), (RS.a7 r), (RS.a8 r), (RS.a9 r), (RS.a10 r), (RS.a12 r), (RS.a13 r), (RS.a14 r), (RS.a16 r), (RS.a17 r), (RS.f4 r), (RS.f5 r), (RS.f6 r), (RS.f7 r), (RS.f8 r), (RS.f9 r), (RS.f10 r), (RS.f11 r), (RS.f12 r), (RS.f13 r), oN_leT, oN_leF, oN_ltT, oN_ltF, oN_leTl, oN_leFl, oN_ltTl, oN_ltFl, oN_lleT, oN_lleF, oN_lltT, oN_lltF, oN_m4, oN_nn, oN_nn2, mm_0, mm_s, oN_s1, oN_z1, m1_neg, m1_nn, m4_neg, i10, ↓reduceIte, if_true, if_false]
    exact PZ.q rfl rfl rfl
  · have tk : (Int32.ofNat 2).toInt = 2 := rfl
    rw [tk]
    simp only [show ((2 : Int) = 0) = False from by decide, show ((2 : Int) = 1) = False from by decide, show ((2 : Int) = 2) = True from eq_true rfl, ↓reduceIte]
    simp (disch := omega) only [i10, bcall_some, blet_eq, bput_eq, at_2 (RS.B r), at_3 (RS.B r), at_5 (RS.B r), at_6 (RS.B r), at_7 (RS.B r), at_8 (RS.B r), at_9 (RS.B r), at_10 (RS.B r), at_12 (RS.B r), at_13 (RS.B r), at_14 (RS.B r), at_16 (RS.B r), at_17 (RS.B r), put_2 (RS.B r), put_3 (RS.B r), put_5 (RS.B r), put_6 (RS.B r), put_7 (RS.B r), put_8 (RS.B r), put_9 (RS.B r), put_10 (RS.B r), put_12 (RS.B r), put_13 (RS.B r), put_14 (RS.B r), put_16 (RS.B r), put_17 (RS.B r), x_ofl, x_of, x_setsl, x_sets, x_ld, x_ldl, x_stt, x_stl, x_where, oN_al, oN_la, oN_lm, u2_ne, u2_same, u2_self, (RS.cb r), (RS.cs r), (RS.cc r), (RS.ci r), (Iv.cb i), (Iv.cs i), (Iv.cc i), (Iv.ci i), (RS.a2 r), (RS.a3 r), (RS.a5 r), (RS.a6 r), (RS.a7 r), (RS.a8 r), (RS.a9 r), (RS.a10 r), (RS.a12 r), (RS.a13 r), (RS.a14 r), (RS.a16 r), (RS.a17 r), (RS.f4 r), (RS.f5 r), (RS.f6 r), (RS.f7 r), (RS.f8 r), (RS.f9 r), (RS.f10 r), (RS.f11 r), (RS.f12 r), (RS.f13 r), oN_leT, oN_leF, oN_ltT, oN_ltF, oN_leTl, oN_leFl, oN_ltTl, oN_ltFl, oN_lleT, oN_lleF, oN_lltT, oN_lltF, oN_m4, oN_nn, oN_nn2, mm_0, mm_s, oN_s1, oN_z1, m1_neg, m1_nn, m4_neg, i10, ↓reduceIte, if_true, if_false]
    exact PZ.q rfl rfl rfl
  · have tk : (Int32.ofNat 3).toInt = 3 := rfl
    rw [tk]
    obtain ⟨v, e1, e2⟩ := q_poles r i
    simp only [show ((3 : Int) = 0) = False from by decide, show ((3 : Int) = 1) = False from by decide, show ((3 : Int) = 2) = False from by decide, show ((3 : Int) = 3) = True from eq_true rfl, ↓reduceIte, e1, e2, bcall_some]
    exact PZ.q rfl rfl rfl
  · have tk : (Int32.ofNat 4).toInt = 4 := rfl
    rw [tk]
    simp only [show ((4 : Int) = 0) = False from by decide, show ((4 : Int) = 1) = False from by decide, show ((4 : Int) = 2) = False from by decide, show ((4 : Int) = 3) = False from by decide, show ((4 : Int) = 4) = True from eq_true rfl, ↓reduceIte]
    simp (disch := omega) only [i10, bcall_some, blet_eq, bput_eq, at_2 (RS.B r), at_3 (RS.B r), at_5 (RS.B r), at_6 (RS.B r), at_7 (RS.B r), at_8 (RS.B r), at_9 (RS.B r), at_10 (RS.B r), at_12 (RS.B r), at_13 (RS.B r), at_14 (RS.B r), at_16 (RS.B r), at_17 (RS.B r), put_2 (RS.B r), put_3 (RS.B r), put_5 (RS.B r), put_6 (RS.B r), put_7 (RS.B r), put_8 (RS.B r), put_9 (RS.B r), put_10 (RS.B r), put_12 (RS.B r), put_13 (RS.B r), put_14 (RS.B r), put_16 (RS.B r), put_17 (RS.B r), x_ofl, x_of, x_setsl, x_sets, x_ld, x_ldl, x_stt, x_stl, x_where, oN_al, oN_la, oN_lm, u2_ne, u2_same, u2_self, (RS.cb r), (RS.cs r), (RS.cc r), (RS.ci r), (Iv.cb i), (Iv.cs i), (Iv.cc i), (Iv.ci i), (RS.a2 r), (RS.a3 r), (RS.a5 r), (RS.a6 r), (RS.a7 r), (RS.a8 r), (RS.a9 r), (RS.a10 r), (RS.a12 r), (RS.a13 r), (RS.a14 r), (RS.a16 r), (RS.a17 r), (RS.f4 r), (RS.f5 r), (RS.f6 r), (RS.f7 r), (RS.f8 r), (RS.f9 r), (RS.f10 r), (RS.f11 r), (RS.f12 r), (RS.f13 r), oN_leT, oN_leF, oN_ltT, oN_ltF, oN_leTl, oN_leFl, oN_ltTl, oN_ltFl, oN_lleT, oN_lleF, oN_lltT, oN_lltF, oN_m4, oN_nn, oN_nn2, mm_0, mm_s, oN_s1, oN_z1, m1_neg, m1_nn, m4_neg, i10, ↓reduceIte, if_true, if_false]
    exact PZ.q rfl rfl rfl
  · have tk : (Int32.ofNat 5).toInt = 5 := rfl
    rw [tk]
    obtain ⟨v, e1, e2⟩ := q_shut r i
    simp only [show ((5 : Int) = 0) = False from by decide, show ((5 : Int) = 1) = False from by decide, show ((5 : Int) = 2) = False from by decide, show ((5 : Int) = 3) = False from by decide, show ((5 : Int) = 4) = False from by decide, show ((5 : Int) = 5) = True from eq_true rfl, ↓reduceIte, e1, e2, bcall_some]
    exact PZ.q rfl rfl rfl
  · have tk : (Int32.ofNat 6).toInt = 6 := rfl
    rw [tk]
    obtain ⟨v, e1, e2⟩ := q_olds r i
    simp only [show ((6 : Int) = 0) = False from by decide, show ((6 : Int) = 1) = False from by decide, show ((6 : Int) = 2) = False from by decide, show ((6 : Int) = 3) = False from by decide, show ((6 : Int) = 4) = False from by decide, show ((6 : Int) = 5) = False from by decide, show ((6 : Int) = 6) = True from eq_true rfl, ↓reduceIte, e1, e2, bcall_some]
    exact PZ.q rfl rfl rfl
  · have tk : (Int32.ofNat 7).toInt = 7 := rfl
    rw [tk]
    simp only [show ((7 : Int) = 0) = False from by decide, show ((7 : Int) = 1) = False from by decide, show ((7 : Int) = 2) = False from by decide, show ((7 : Int) = 3) = False from by decide, show ((7 : Int) = 4) = False from by decide, show ((7 : Int) = 5) = False from by decide, show ((7 : Int) = 6) = False from by decide, show ((7 : Int) = 7) = True from eq_true rfl, ↓reduceIte]
    simp (disch := omega) only [i10, bcall_some, blet_eq, bput_eq, at_2 (RS.B r), at_3 (RS.B r), at_5 (RS.B r), at_6 (RS.B r), at_7 (RS.B r), at_8 (RS.B r), at_9 (RS.B r), at_10 (RS.B r), at_12 (RS.B r), at_13 (RS.B r), at_14 (RS.B r), at_16 (RS.B r), at_17 (RS.B r), put_2 (RS.B r), put_3 (RS.B r), put_5 (RS.B r), put_6 (RS.B r), put_7 (RS.B r), put_8 (RS.B r), put_9 (RS.B r), put_10 (RS.B r), put_12 (RS.B r), put_13 (RS.B r), put_14 (RS.B r), put_16 (RS.B r), put_17 (RS.B r), x_ofl, x_of, x_setsl, x_sets, x_ld, x_ldl, x_stt, x_stl, x_where, oN_al, oN_la, oN_lm, u2_ne, u2_same, u2_self, (RS.cb r), (RS.cs r), (RS.cc r), (RS.ci r), (Iv.cb i), (Iv.cs i), (Iv.cc i), (Iv.ci i), (RS.a2 r), (RS.a3 r), (RS.a5 r), (RS.a6 r), (RS.a7 r), (RS.a8 r), (RS.a9 r), (RS.a10 r), (RS.a12 r), (RS.a13 r), (RS.a14 r), (RS.a16 r), (RS.a17 r), (RS.f4 r), (RS.f5 r), (RS.f6 r), (RS.f7 r), (RS.f8 r), (RS.f9 r), (RS.f10 r), (RS.f11 r), (RS.f12 r), (RS.f13 r), oN_leT, oN_leF, oN_ltT, oN_ltF, oN_leTl, oN_leFl, oN_ltTl, oN_ltFl, oN_lleT, oN_lleF, oN_lltT, oN_lltF, oN_m4, oN_nn, oN_nn2, mm_0, mm_s, oN_s1, oN_z1, m1_neg, m1_nn, m4_neg, i10, ↓reduceIte, if_true, if_false]
    exact PZ.q rfl rfl rfl
  · have tk : (Int32.ofNat 8).toInt = 8 := rfl
    rw [tk]
    obtain ⟨v, e1, e2⟩ := q_ups r i
    simp only [show ((8 : Int) = 0) = False from by decide, show ((8 : Int) = 1) = False from by decide, show ((8 : Int) = 2) = False from by decide, show ((8 : Int) = 3) = False from by decide, show ((8 : Int) = 4) = False from by decide, show ((8 : Int) = 5) = False from by decide, show ((8 : Int) = 6) = False from by decide, show ((8 : Int) = 7) = False from by decide, show ((8 : Int) = 8) = True from eq_true rfl, ↓reduceIte, e1, e2, bcall_some]
    exact PZ.q rfl rfl rfl
  · have tk : (Int32.ofNat 9).toInt = 9 := rfl
    rw [tk]
    simp only [show ((9 : Int) = 0) = False from by decide, show ((9 : Int) = 1) = False from by decide, show ((9 : Int) = 2) = False from by decide, show ((9 : Int) = 3) = False from by decide, show ((9 : Int) = 4) = False from by decide, show ((9 : Int) = 5) = False from by decide, show ((9 : Int) = 6) = False from by decide, show ((9 : Int) = 7) = False from by decide, show ((9 : Int) = 8) = False from by decide, show ((9 : Int) = 9) = True from eq_true rfl, ↓reduceIte]
    simp (disch := omega) only [i10, bcall_some, blet_eq, bput_eq, at_2 (RS.B r), at_3 (RS.B r), at_5 (RS.B r), at_6 (RS.B r), at_7 (RS.B r), at_8 (RS.B r), at_9 (RS.B r), at_10 (RS.B r), at_12 (RS.B r), at_13 (RS.B r), at_14 (RS.B r), at_16 (RS.B r), at_17 (RS.B r), put_2 (RS.B r), put_3 (RS.B r), put_5 (RS.B r), put_6 (RS.B r), put_7 (RS.B r), put_8 (RS.B r), put_9 (RS.B r), put_10 (RS.B r), put_12 (RS.B r), put_13 (RS.B r), put_14 (RS.B r), put_16 (RS.B r), put_17 (RS.B r), x_ofl, x_of, x_setsl, x_sets, x_ld, x_ldl, x_stt, x_stl, x_where, oN_al, oN_la, oN_lm, u2_ne, u2_same, u2_self, (RS.cb r), (RS.cs r), (RS.cc r), (RS.ci r), (Iv.cb i), (Iv.cs i), (Iv.cc i), (Iv.ci i), (RS.a2 r), (RS.a3 r), (RS.a5 r), (RS.a6 r), (RS.a7 r), (RS.a8 r), (RS.a9 r), (RS.a10 r), (RS.a12 r), (RS.a13 r), (RS.a14 r), (RS.a16 r), (RS.a17 r), (RS.f4 r), (RS.f5 r), (RS.f6 r), (RS.f7 r), (RS.f8 r), (RS.f9 r), (RS.f10 r), (RS.f11 r), (RS.f12 r), (RS.f13 r), oN_leT, oN_leF, oN_ltT, oN_ltF, oN_leTl, oN_leFl, oN_ltTl, oN_ltFl, oN_lleT, oN_lleF, oN_lltT, oN_lltF, oN_m4, oN_nn, oN_nn2, mm_0, mm_s, oN_s1, oN_z1, m1_neg, m1_nn, m4_neg, i10, ↓reduceIte, if_true, if_false]
    exact PZ.q rfl rfl rfl
  · have tk : (Int32.ofNat 10).toInt = 10 := rfl
    rw [tk]
    simp only [show ((10 : Int) = 0) = False from by decide, show ((10 : Int) = 1) = False from by decide, show ((10 : Int) = 2) = False from by decide, show ((10 : Int) = 3) = False from by decide, show ((10 : Int) = 4) = False from by decide, show ((10 : Int) = 5) = False from by decide, show ((10 : Int) = 6) = False from by decide, show ((10 : Int) = 7) = False from by decide, show ((10 : Int) = 8) = False from by decide, show ((10 : Int) = 9) = False from by decide, show ((10 : Int) = 10) = True from eq_true rfl, ↓reduceIte]
    simp (disch := omega) only [i10, bcall_some, blet_eq, bput_eq, at_2 (RS.B r), at_3 (RS.B r), at_5 (RS.B r), at_6 (RS.B r), at_7 (RS.B r), at_8 (RS.B r), at_9 (RS.B r), at_10 (RS.B r), at_12 (RS.B r), at_13 (RS.B r), at_14 (RS.B r), at_16 (RS.B r), at_17 (RS.B r), put_2 (RS.B r), put_3 (RS.B r), put_5 (RS.B r), put_6 (RS.B r), put_7 (RS.B r), put_8 (RS.B r), put_9 (RS.B r), put_10 (RS.B r), put_12 (RS.B r), put_13 (RS.B r), put_14 (RS.B r), put_16 (RS.B r), put_17 (RS.B r), x_ofl, x_of, x_setsl, x_sets, x_ld, x_ldl, x_stt, x_stl, x_where, oN_al, oN_la, oN_lm, u2_ne, u2_same, u2_self, (RS.cb r), (RS.cs r), (RS.cc r), (RS.ci r), (Iv.cb i), (Iv.cs i), (Iv.cc i), (Iv.ci i), (RS.a2 r), (RS.a3 r), (RS.a5 r), (RS.a6 r), (RS.a7 r), (RS.a8 r), (RS.a9 r), (RS.a10 r), (RS.a12 r), (RS.a13 r), (RS.a14 r), (RS.a16 r), (RS.a17 r), (RS.f4 r), (RS.f5 r), (RS.f6 r), (RS.f7 r), (RS.f8 r), (RS.f9 r), (RS.f10 r), (RS.f11 r), (RS.f12 r), (RS.f13 r), oN_leT, oN_leF, oN_ltT, oN_ltF, oN_leTl, oN_leFl, oN_ltTl, oN_ltFl, oN_lleT, oN_lleF, oN_lltT, oN_lltF, oN_m4, oN_nn, oN_nn2, mm_0, mm_s, oN_s1, oN_z1, m1_neg, m1_nn, m4_neg, i10, ↓reduceIte, if_true, if_false]
    exact PZ.q rfl rfl rfl
  · have tk : (Int32.ofNat 11).toInt = 11 := rfl
    rw [tk]
    obtain ⟨v, e1, e2⟩ := q_loads r i
    simp only [show ((11 : Int) = 0) = False from by decide, show ((11 : Int) = 1) = False from by decide, show ((11 : Int) = 2) = False from by decide, show ((11 : Int) = 3) = False from by decide, show ((11 : Int) = 4) = False from by decide, show ((11 : Int) = 5) = False from by decide, show ((11 : Int) = 6) = False from by decide, show ((11 : Int) = 7) = False from by decide, show ((11 : Int) = 8) = False from by decide, show ((11 : Int) = 9) = False from by decide, show ((11 : Int) = 10) = False from by decide, show ((11 : Int) = 11) = True from eq_true rfl, ↓reduceIte, e1, e2, bcall_some]
    exact PZ.q rfl rfl rfl
  · have tk : (Int32.ofNat 12).toInt = 12 := rfl
    rw [tk]
    simp only [show ((12 : Int) = 0) = False from by decide, show ((12 : Int) = 1) = False from by decide, show ((12 : Int) = 2) = False from by decide, show ((12 : Int) = 3) = False from by decide, show ((12 : Int) = 4) = False from by decide, show ((12 : Int) = 5) = False from by decide, show ((12 : Int) = 6) = False from by decide, show ((12 : Int) = 7) = False from by decide, show ((12 : Int) = 8) = False from by decide, show ((12 : Int) = 9) = False from by decide, show ((12 : Int) = 10) = False from by decide, show ((12 : Int) = 11) = False from by decide, show ((12 : Int) = 12) = True from eq_true rfl, ↓reduceIte]
    simp (disch := omega) only [i10, bcall_some, blet_eq, bput_eq, at_2 (RS.B r), at_3 (RS.B r), at_5 (RS.B r), at_6 (RS.B r), at_7 (RS.B r), at_8 (RS.B r), at_9 (RS.B r), at_10 (RS.B r), at_12 (RS.B r), at_13 (RS.B r), at_14 (RS.B r), at_16 (RS.B r), at_17 (RS.B r), put_2 (RS.B r), put_3 (RS.B r), put_5 (RS.B r), put_6 (RS.B r), put_7 (RS.B r), put_8 (RS.B r), put_9 (RS.B r), put_10 (RS.B r), put_12 (RS.B r), put_13 (RS.B r), put_14 (RS.B r), put_16 (RS.B r), put_17 (RS.B r), x_ofl, x_of, x_setsl, x_sets, x_ld, x_ldl, x_stt, x_stl, x_where, oN_al, oN_la, oN_lm, u2_ne, u2_same, u2_self, (RS.cb r), (RS.cs r), (RS.cc r), (RS.ci r), (Iv.cb i), (Iv.cs i), (Iv.cc i), (Iv.ci i), (RS.a2 r), (RS.a3 r), (RS.a5 r), (RS.a6 r), (RS.a7 r), (RS.a8 r), (RS.a9 r), (RS.a10 r), (RS.a12 r), (RS.a13 r), (RS.a14 r), (RS.a16 r), (RS.a17 r), (RS.f4 r), (RS.f5 r), (RS.f6 r), (RS.f7 r), (RS.f8 r), (RS.f9 r), (RS.f10 r), (RS.f11 r), (RS.f12 r), (RS.f13 r), oN_leT, oN_leF, oN_ltT, oN_ltF, oN_leTl, oN_leFl, oN_ltTl, oN_ltFl, oN_lleT, oN_lleF, oN_lltT, oN_lltF, oN_m4, oN_nn, oN_nn2, mm_0, mm_s, oN_s1, oN_z1, m1_neg, m1_nn, m4_neg, i10, ↓reduceIte, if_true, if_false]
    exact PZ.q rfl rfl rfl
  · have tk : (Int32.ofNat 13).toInt = 13 := rfl
    rw [tk]
    simp only [show ((13 : Int) = 0) = False from by decide, show ((13 : Int) = 1) = False from by decide, show ((13 : Int) = 2) = False from by decide, show ((13 : Int) = 3) = False from by decide, show ((13 : Int) = 4) = False from by decide, show ((13 : Int) = 5) = False from by decide, show ((13 : Int) = 6) = False from by decide, show ((13 : Int) = 7) = False from by decide, show ((13 : Int) = 8) = False from by decide, show ((13 : Int) = 9) = False from by decide, show ((13 : Int) = 10) = False from by decide, show ((13 : Int) = 11) = False from by decide, show ((13 : Int) = 12) = False from by decide, show ((13 : Int) = 13) = True from eq_true rfl, ↓reduceIte]
    simp (disch := omega) only [i10, bcall_some, blet_eq, bput_eq, at_2 (RS.B r), at_3 (RS.B r), at_5 (RS.B r), at_6 (RS.B r), at_7 (RS.B r), at_8 (RS.B r), at_9 (RS.B r), at_10 (RS.B r), at_12 (RS.B r), at_13 (RS.B r), at_14 (RS.B r), at_16 (RS.B r), at_17 (RS.B r), put_2 (RS.B r), put_3 (RS.B r), put_5 (RS.B r), put_6 (RS.B r), put_7 (RS.B r), put_8 (RS.B r), put_9 (RS.B r), put_10 (RS.B r), put_12 (RS.B r), put_13 (RS.B r), put_14 (RS.B r), put_16 (RS.B r), put_17 (RS.B r), x_ofl, x_of, x_setsl, x_sets, x_ld, x_ldl, x_stt, x_stl, x_where, oN_al, oN_la, oN_lm, u2_ne, u2_same, u2_self, (RS.cb r), (RS.cs r), (RS.cc r), (RS.ci r), (Iv.cb i), (Iv.cs i), (Iv.cc i), (Iv.ci i), (RS.a2 r), (RS.a3 r), (RS.a5 r), (RS.a6 r), (RS.a7 r), (RS.a8 r), (RS.a9 r), (RS.a10 r), (RS.a12 r), (RS.a13 r), (RS.a14 r), (RS.a16 r), (RS.a17 r), (RS.f4 r), (RS.f5 r), (RS.f6 r), (RS.f7 r), (RS.f8 r), (RS.f9 r), (RS.f10 r), (RS.f11 r), (RS.f12 r), (RS.f13 r), oN_leT, oN_leF, oN_ltT, oN_ltF, oN_leTl, oN_leFl, oN_ltTl, oN_ltFl, oN_lleT, oN_lleF, oN_lltT, oN_lltF, oN_m4, oN_nn, oN_nn2, mm_0, mm_s, oN_s1, oN_z1, m1_neg, m1_nn, m4_neg, i10, ↓reduceIte, if_true, if_false]
    exact PZ.q rfl rfl rfl
  · have tk : (Int32.ofNat 14).toInt = 14 := rfl
    rw [tk]
    simp only [show ((14 : Int) = 0) = False from by decide, show ((14 : Int) = 1) = False from by decide, show ((14 : Int) = 2) = False from by decide, show ((14 : Int) = 3) = False from by decide, show ((14 : Int) = 4) = False from by decide, show ((14 : Int) = 5) = False from by decide, show ((14 : Int) = 6) = False from by decide, show ((14 : Int) = 7) = False from by decide, show ((14 : Int) = 8) = False from by decide, show ((14 : Int) = 9) = False from by decide, show ((14 : Int) = 10) = False from by decide, show ((14 : Int) = 11) = False from by decide, show ((14 : Int) = 12) = False from by decide, show ((14 : Int) = 13) = False from by decide, show ((14 : Int) = 14) = True from eq_true rfl, ↓reduceIte]
    simp (disch := omega) only [i10, bcall_some, blet_eq, bput_eq, at_2 (RS.B r), at_3 (RS.B r), at_5 (RS.B r), at_6 (RS.B r), at_7 (RS.B r), at_8 (RS.B r), at_9 (RS.B r), at_10 (RS.B r), at_12 (RS.B r), at_13 (RS.B r), at_14 (RS.B r), at_16 (RS.B r), at_17 (RS.B r), put_2 (RS.B r), put_3 (RS.B r), put_5 (RS.B r), put_6 (RS.B r), put_7 (RS.B r), put_8 (RS.B r), put_9 (RS.B r), put_10 (RS.B r), put_12 (RS.B r), put_13 (RS.B r), put_14 (RS.B r), put_16 (RS.B r), put_17 (RS.B r), x_ofl, x_of, x_setsl, x_sets, x_ld, x_ldl, x_stt, x_stl, x_where, oN_al, oN_la, oN_lm, u2_ne, u2_same, u2_self, (RS.cb r), (RS.cs r), (RS.cc r), (RS.ci r), (Iv.cb i), (Iv.cs i), (Iv.cc i), (Iv.ci i), (RS.a2 r), (RS.a3 r), (RS.a5 r), (RS.a6 r), (RS.a7 r), (RS.a8 r), (RS.a9 r), (RS.a10 r), (RS.a12 r), (RS.a13 r), (RS.a14 r), (RS.a16 r), (RS.a17 r), (RS.f4 r), (RS.f5 r), (RS.f6 r), (RS.f7 r), (RS.f8 r), (RS.f9 r), (RS.f10 r), (RS.f11 r), (RS.f12 r), (RS.f13 r), oN_leT, oN_leF, oN_ltT, oN_ltF, oN_leTl, oN_leFl, oN_ltTl, oN_ltFl, oN_lleT, oN_lleF, oN_lltT, oN_lltF, oN_m4, oN_nn, oN_nn2, mm_0, mm_s, oN_s1, oN_z1, m1_neg, m1_nn, m4_neg, i10, ↓reduceIte, if_true, if_false]
    exact PZ.q rfl rfl rfl
  · have tk : (Int32.ofNat 15).toInt = 15 := rfl
    rw [tk]
    simp only [show ((15 : Int) = 0) = False from by decide, show ((15 : Int) = 1) = False from by decide, show ((15 : Int) = 2) = False from by decide, show ((15 : Int) = 3) = False from by decide, show ((15 : Int) = 4) = False from by decide, show ((15 : Int) = 5) = False from by decide, show ((15 : Int) = 6) = False from by decide, show ((15 : Int) = 7) = False from by decide, show ((15 : Int) = 8) = False from by decide, show ((15 : Int) = 9) = False from by decide, show ((15 : Int) = 10) = False from by decide, show ((15 : Int) = 11) = False from by decide, show ((15 : Int) = 12) = False from by decide, show ((15 : Int) = 13) = False from by decide, show ((15 : Int) = 14) = False from by decide, show ((15 : Int) = 15) = True from eq_true rfl, ↓reduceIte]
    simp (disch := omega) only [i10, bcall_some, blet_eq, bput_eq, at_2 (RS.B r), at_3 (RS.B r), at_5 (RS.B r), at_6 (RS.B r), at_7 (RS.B r), at_8 (RS.B r), at_9 (RS.B r), at_10 (RS.B r), at_12 (RS.B r), at_13 (RS.B r), at_14 (RS.B r), at_16 (RS.B r), at_17 (RS.B r), put_2 (RS.B r), put_3 (RS.B r), put_5 (RS.B r), put_6 (RS.B r), put_7 (RS.B r), put_8 (RS.B r), put_9 (RS.B r), put_10 (RS.B r), put_12 (RS.B r), put_13 (RS.B r), put_14 (RS.B r), put_16 (RS.B r), put_17 (RS.B r), x_ofl, x_of, x_setsl, x_sets, x_ld, x_ldl, x_stt, x_stl, x_where, oN_al, oN_la, oN_lm, u2_ne, u2_same, u2_self, (RS.cb r), (RS.cs r), (RS.cc r), (RS.ci r), (Iv.cb i), (Iv.cs i), (Iv.cc i), (Iv.ci i), (RS.a2 r), (RS.a3 r), (RS.a5 r), (RS.a6 r), (RS.a7 r), (RS.a8 r), (RS.a9 r), (RS.a10 r), (RS.a12 r), (RS.a13 r), (RS.a14 r), (RS.a16 r), (RS.a17 r), (RS.f4 r), (RS.f5 r), (RS.f6 r), (RS.f7 r), (RS.f8 r), (RS.f9 r), (RS.f10 r), (RS.f11 r), (RS.f12 r), (RS.f13 r), oN_leT, oN_leF, oN_ltT, oN_ltF, oN_leTl, oN_leFl, oN_ltTl, oN_ltFl, oN_lleT, oN_lleF, oN_lltT, oN_lltF, oN_m4, oN_nn, oN_nn2, mm_0, mm_s, oN_s1, oN_z1, m1_neg, m1_nn, m4_neg, i10, ↓reduceIte, if_true, if_false]
    exact PZ.q rfl rfl rfl
  · have tk : (Int32.ofNat 16).toInt = 16 := rfl
    rw [tk]
    simp only [show ((16 : Int) = 0) = False from by decide, show ((16 : Int) = 1) = False from by decide, show ((16 : Int) = 2) = False from by decide, show ((16 : Int) = 3) = False from by decide, show ((16 : Int) = 4) = False from by decide, show ((16 : Int) = 5) = False from by decide, show ((16 : Int) = 6) = False from by decide, show ((16 : Int) = 7) = False from by decide, show ((16 : Int) = 8) = False from by decide, show ((16 : Int) = 9) = False from by decide, show ((16 : Int) = 10) = False from by decide, show ((16 : Int) = 11) = False from by decide, show ((16 : Int) = 12) = False from by decide, show ((16 : Int) = 13) = False from by decide, show ((16 : Int) = 14) = False from by decide, show ((16 : Int) = 15) = False from by decide, show ((16 : Int) = 16) = True from eq_true rfl, ↓reduceIte]
    simp (disch := omega) only [i10, bcall_some, blet_eq, bput_eq, at_2 (RS.B r), at_3 (RS.B r), at_5 (RS.B r), at_6 (RS.B r), at_7 (RS.B r), at_8 (RS.B r), at_9 (RS.B r), at_10 (RS.B r), at_12 (RS.B r), at_13 (RS.B r), at_14 (RS.B r), at_16 (RS.B r), at_17 (RS.B r), put_2 (RS.B r), put_3 (RS.B r), put_5 (RS.B r), put_6 (RS.B r), put_7 (RS.B r), put_8 (RS.B r), put_9 (RS.B r), put_10 (RS.B r), put_12 (RS.B r), put_13 (RS.B r), put_14 (RS.B r), put_16 (RS.B r), put_17 (RS.B r), x_ofl, x_of, x_setsl, x_sets, x_ld, x_ldl, x_stt, x_stl, x_where, oN_al, oN_la, oN_lm, u2_ne, u2_same, u2_self, (RS.cb r), (RS.cs r), (RS.cc r), (RS.ci r), (Iv.cb i), (Iv.cs i), (Iv.cc i), (Iv.ci i), (RS.a2 r), (RS.a3 r), (RS.a5 r), (RS.a6 r), (RS.a7 r), (RS.a8 r), (RS.a9 r), (RS.a10 r), (RS.a12 r), (RS.a13 r), (RS.a14 r), (RS.a16 r), (RS.a17 r), (RS.f4 r), (RS.f5 r), (RS.f6 r), (RS.f7 r), (RS.f8 r), (RS.f9 r), (RS.f10 r), (RS.f11 r), (RS.f12 r), (RS.f13 r), oN_leT, oN_leF, oN_ltT, oN_ltF, oN_leTl, oN_leFl, oN_ltTl, oN_ltFl, oN_lleT, oN_lleF, oN_lltT, oN_lltF, oN_m4, oN_nn, oN_nn2, mm_0, mm_s, oN_s1, oN_z1, m1_neg, m1_nn, m4_neg, i10, ↓reduceIte, if_true, if_false]
    exact PZ.q rfl rfl rfl
  · exact absurd rfl hp
  · exact absurd rfl hq
theorem Z_inspectorOf {σ τ : St} (h : Sc σ 5 (τ 249)) (p z : Int32) : PZ σ τ (M_X10_inspectorOf σ 0 p z) (M_X11_inspectorOf τ 248 p z) (fun v w => v = w) := by
  obtain ⟨nb, ns, nc, ni, r, i⟩ := id h
  have hi3 := i.hi
  have ni1 : ¬ ((1 : Int32) = 0) := by decide
  unfold M_X10_inspectorOf M_X11_inspectorOf
  simp only [Nat.zero_add]
  rcases h_ins r i p with ⟨e1, e2⟩ | ⟨j, hj, rfl, e1, e2⟩
  · simp only [e1, e2, bcall_some, ↓reduceIte]
    exact PZ.q rfl rfl rfl
  rw [bcall_of e1, bcall_of e2, if_neg ni1, if_neg ni1]
  by_cases c : z.toInt < 0 ∨ 2 < z.toInt
  · rw [if_pos c, if_pos c]
    exact PZ.q rfl rfl rfl
  rw [if_neg c, if_neg c]
  obtain ⟨k, hk, rfl⟩ := sw_of (n := 2) (by decide) c
  have hk2 : k = 0 ∨ k = 1 ∨ k = 2 := by omega
  rcases hk2 with rfl | rfl | rfl
  · have tk : (Int32.ofNat 0).toInt = 0 := rfl
    rw [tk]
    simp only [show ((0 : Int) = 0) = True from eq_true rfl, ↓reduceIte]
    simp (disch := omega) only [M_X3_noseOf, M_X3_findsOf, bcall_some, blet_eq, bput_eq, at_2 (RS.B r), at_3 (RS.B r), at_5 (RS.B r), at_6 (RS.B r), at_7 (RS.B r), at_8 (RS.B r), at_9 (RS.B r), at_10 (RS.B r), at_12 (RS.B r), at_13 (RS.B r), at_14 (RS.B r), at_16 (RS.B r), at_17 (RS.B r), put_2 (RS.B r), put_3 (RS.B r), put_5 (RS.B r), put_6 (RS.B r), put_7 (RS.B r), put_8 (RS.B r), put_9 (RS.B r), put_10 (RS.B r), put_12 (RS.B r), put_13 (RS.B r), put_14 (RS.B r), put_16 (RS.B r), put_17 (RS.B r), x_ofl, x_of, x_setsl, x_sets, x_ld, x_ldl, x_stt, x_stl, x_where, oN_al, oN_la, oN_lm, u2_ne, u2_same, u2_self, (RS.cb r), (RS.cs r), (RS.cc r), (RS.ci r), (Iv.cb i), (Iv.cs i), (Iv.cc i), (Iv.ci i), (RS.a2 r), (RS.a3 r), (RS.a5 r), (RS.a6 r), (RS.a7 r), (RS.a8 r), (RS.a9 r), (RS.a10 r), (RS.a12 r), (RS.a13 r), (RS.a14 r), (RS.a16 r), (RS.a17 r), (RS.f4 r), (RS.f5 r), (RS.f6 r), (RS.f7 r), (RS.f8 r), (RS.f9 r), (RS.f10 r), (RS.f11 r), (RS.f12 r), (RS.f13 r), oN_leT, oN_leF, oN_ltT, oN_ltF, oN_leTl, oN_leFl, oN_ltTl, oN_ltFl, oN_lleT, oN_lleF, oN_lltT, oN_lltF, oN_m4, oN_nn, oN_nn2, mm_0, mm_s, oN_s1, oN_z1, m1_neg, m1_nn, m4_neg, i10, ↓reduceIte, if_true, if_false]
    exact PZ.q rfl rfl rfl
  · have tk : (Int32.ofNat 1).toInt = 1 := rfl
    rw [tk]
    obtain ⟨v, e3, e4⟩ := q_shutBy r i hj
    simp only [show ((1 : Int) = 0) = False from by decide, show ((1 : Int) = 1) = True from eq_true rfl, ↓reduceIte, e3, e4, bcall_some]
    exact PZ.q rfl rfl rfl
  · have tk : (Int32.ofNat 2).toInt = 2 := rfl
    rw [tk]
    simp only [show ((2 : Int) = 0) = False from by decide, show ((2 : Int) = 1) = False from by decide, show ((2 : Int) = 2) = True from eq_true rfl, ↓reduceIte]
    simp (disch := omega) only [M_X3_noseOf, M_X3_findsOf, bcall_some, blet_eq, bput_eq, at_2 (RS.B r), at_3 (RS.B r), at_5 (RS.B r), at_6 (RS.B r), at_7 (RS.B r), at_8 (RS.B r), at_9 (RS.B r), at_10 (RS.B r), at_12 (RS.B r), at_13 (RS.B r), at_14 (RS.B r), at_16 (RS.B r), at_17 (RS.B r), put_2 (RS.B r), put_3 (RS.B r), put_5 (RS.B r), put_6 (RS.B r), put_7 (RS.B r), put_8 (RS.B r), put_9 (RS.B r), put_10 (RS.B r), put_12 (RS.B r), put_13 (RS.B r), put_14 (RS.B r), put_16 (RS.B r), put_17 (RS.B r), x_ofl, x_of, x_setsl, x_sets, x_ld, x_ldl, x_stt, x_stl, x_where, oN_al, oN_la, oN_lm, u2_ne, u2_same, u2_self, (RS.cb r), (RS.cs r), (RS.cc r), (RS.ci r), (Iv.cb i), (Iv.cs i), (Iv.cc i), (Iv.ci i), (RS.a2 r), (RS.a3 r), (RS.a5 r), (RS.a6 r), (RS.a7 r), (RS.a8 r), (RS.a9 r), (RS.a10 r), (RS.a12 r), (RS.a13 r), (RS.a14 r), (RS.a16 r), (RS.a17 r), (RS.f4 r), (RS.f5 r), (RS.f6 r), (RS.f7 r), (RS.f8 r), (RS.f9 r), (RS.f10 r), (RS.f11 r), (RS.f12 r), (RS.f13 r), oN_leT, oN_leF, oN_ltT, oN_ltF, oN_leTl, oN_leFl, oN_ltTl, oN_ltFl, oN_lleT, oN_lleF, oN_lltT, oN_lltF, oN_m4, oN_nn, oN_nn2, mm_0, mm_s, oN_s1, oN_z1, m1_neg, m1_nn, m4_neg, i10, ↓reduceIte, if_true, if_false]
    exact PZ.q rfl rfl rfl
theorem La.pz {σ τ σ0 τ0 : St} {x y : Option (St × Int32)} (hs : ∀ q, (q < 23 ∨ 41 ≤ q) → σ0 q = σ q) (hL : La σ0 τ0 τ0 x y) : PZ σ τ x y (fun v w => v = w) := by
  obtain ⟨σ1, τ1, v, e1, e2, f1, f2, f3⟩ := hL
  exact ⟨σ1, τ1, v, v, e1, e2, rfl, fun k hk => by rw [f1 k (by omega), hs k (by omega)]⟩
theorem ahead_ez (σ : St) : ∃ σ1, M_X7_take σ 23 5 = some (σ1, 0) ∧ (∀ r, Sc σ 5 r → Sc σ1 23 r) ∧ (∀ q, (q < 23 ∨ 41 ≤ q) → σ1 q = σ q) := by
  obtain ⟨σ1, t1, t2, t3⟩ := take_sc σ (k := 23) (a := 5) B23 B5 (by omega)
  exact ⟨σ1, t1, t2, fun q hq => t3 q (by omega)⟩
theorem Z_oldIn {σ τ : St} (h : Sc σ 5 (τ 249)) (p : Int32) : PZ σ τ (M_X10_oldIn σ 0 p) (M_X11_oldIn τ 248 p) (fun v w => v = w) := by
  obtain ⟨nb, ns, nc, ni, r, i⟩ := id h
  have hs10 := i.hs
  have ni1 : ¬ ((1 : Int32) = 0) := by decide
  unfold M_X10_oldIn M_X11_oldIn
  simp only [Nat.zero_add]
  rcases h_sto r i p with ⟨e1, e2⟩ | ⟨s, hs, rfl, e1, e2⟩
  · simp only [e1, e2, bcall_some, ↓reduceIte]
    exact PZ.q rfl rfl rfl
  obtain ⟨σ0, t1, t2, t3⟩ := ahead_ez σ
  obtain ⟨τ0, k1, k2, k3⟩ := thinks_ex τ
  rw [bcall_of e1, bcall_of e2, if_neg ni1, if_neg ni1, bcall_of t1, bcall_of k1]
  refine La.pz (τ0 := τ0) t3 ?_
  have z := t2 _ h
  obtain ⟨nb, ns0, nc, ni, r0, i0⟩ := z
  have z0 : RS σ0 23 (τ0 249) nb ns0 nc ni := by rw [k2 249 (by decide)]; exact r0
  have z1 : Iv (τ0 249) nb ns0 nc ni := by rw [k2 249 (by decide)]; exact i0
  -- one step
  have stp : ∀ (n m d : Nat) (σ1 τ1 : St), d ≤ 21 → (∃ ns1, RS σ1 23 (τ1 249) nb ns1 nc ni ∧ Iv (τ1 249) nb ns1 nc ni ∧ (∀ q, (q < 23 ∨ 41 ≤ q) → σ1 q = σ0 q) ∧ (∀ k, k ≠ 249 → τ1 k = τ0 k) ∧ Tq d (τ1 249) ns1) → La σ0 τ0 τ0 (B_X10_oldIn_29 (n + 1) σ1 0 (Int32.ofNat s) (Int32.ofNat d)) (B_X11_oldIn_16 (m + 1) τ1 248 (Int32.ofNat s) (Int32.ofNat d)) ∨ (d < 21 ∧ ∃ σ2 τ2, B_X10_oldIn_29 (n + 1) σ1 0 (Int32.ofNat s) (Int32.ofNat d) = B_X10_oldIn_29 n σ2 0 (Int32.ofNat s) (Int32.ofNat (d + 1)) ∧ B_X11_oldIn_16 (m + 1) τ1 248 (Int32.ofNat s) (Int32.ofNat d) = B_X11_oldIn_16 m τ2 248 (Int32.ofNat s) (Int32.ofNat (d + 1)) ∧ ∃ ns1, RS σ2 23 (τ2 249) nb ns1 nc ni ∧ Iv (τ2 249) nb ns1 nc ni ∧ (∀ q, (q < 23 ∨ 41 ≤ q) → σ2 q = σ0 q) ∧ (∀ k, k ≠ 249 → τ2 k = τ0 k) ∧ Tq (d + 1) (τ2 249) ns1) := by
    rintro n m d σ1 τ1 hd ⟨ns1, r1, i1, f1, f2, hT⟩
    have hs1 := i1.hs
    have hd60 : ¬ ((60 : Int32) < Int32.ofNat d) := fun q => (oN_lltF (n := 60) (by decide) (by show d ≤ 60; omega)).mp q
    simp only [B_X10_oldIn_29, B_X11_oldIn_16, Nat.zero_add]
    rw [if_neg hd60]
    rcases h_sto r1 i1 (Int32.ofNat s) with ⟨a1, a2⟩ | ⟨s2, hs2, es, a1, a2⟩
    · rw [bcall_of a1, bcall_of a2, if_pos rfl, if_pos rfl, bcall_of a2]
      exact Or.inl (La.done rfl (by simp only [↓reduceIte]) f1 f2 rfl)
    · have es2 : s2 = s := by
        rw [oN_eq (by omega) (by omega)] at es; omega
      subst es2
      obtain ⟨t, ht, htd, et⟩ := hT s2 hs2
      have a3 : M_X11_of τ1 248 (Int32.ofNat s2) 2 = some (τ1, Int32.ofNat t) := by
        rw [x_ofl (n := 2) (by show 30 + 6 * s2 + 2 < 111; omega)]
        exact congrArg (fun z => some (τ1, z)) et
      have a4 : M_X10_at σ1 (23 + 4 + 3) (Int32.ofNat s2) = some (σ1, Int32.ofNat t) := by
        rw [at_7 B23 (by omega), r1.a7 s2 hs2, et]
      rw [bcall_of a1, bcall_of a2, if_neg ni1, if_neg ni1, bcall_of a3]
      by_cases c : t ≤ 20
      · have b1 : M_X9_isOld σ1 (23 + 4) (Int32.ofNat s2) = some (σ1, 0) := by
          unfold M_X9_isOld
          rw [bcall_of a4, if_pos (of_eq_true (oN_leTl (n := 20) (by decide) c))]
        obtain ⟨σ2, τ2, f, ns2, p1, p2, p3, r2, i2, g1, g2, g3, g4⟩ := passDay r1 i1
        rw [bcall_of b1, if_pos rfl, if_neg (fun q => (oN_lltF (n := 20) (by decide) c).mp q), bcall_of p1, bcall_of p2, blet_eq, blet_eq, oN_al]
        refine Or.inr ⟨by omega, σ2, τ2, rfl, rfl, ns2, r2, i2, fun q hq => by rw [g1 q (by omega), f1 q hq], fun k hk => by rw [g2 k hk, f2 k hk], g4 d (by omega) hT⟩
      · have b1 : M_X9_isOld σ1 (23 + 4) (Int32.ofNat s2) = some (σ1, 1) := by
          unfold M_X9_isOld
          rw [bcall_of a4, if_neg (fun q => (oN_leFl (n := 20) (by omega) (by show 20 < t; omega)).mp q)]
        rw [bcall_of b1, if_neg ni1, if_pos (of_eq_true (oN_lltT (n := 20) (by omega) (by show 20 < t; omega))), bcall_of a2]
        refine Or.inl (La.done rfl ?_ f1 f2 rfl)
        simp only [i10, ↓reduceIte]
  refine two (F := fun n a x => B_X10_oldIn_29 n a 0 (Int32.ofNat s) x) (G := fun n a x => B_X11_oldIn_16 n a 248 (Int32.ofNat s) x) (I := fun d σ1 τ1 => ∃ ns1, RS σ1 23 (τ1 249) nb ns1 nc ni ∧ Iv (τ1 249) nb ns1 nc ni ∧ (∀ q, (q < 23 ∨ 41 ≤ q) → σ1 q = σ0 q) ∧ (∀ k, k ≠ 249 → τ1 k = τ0 k) ∧ Tq d (τ1 249) ns1) (P := fun x y => La σ0 τ0 τ0 x y) (N := 21) ?_ ?_ 21 0 FU FU σ0 τ0 (by omega) (FU_lt (by omega)) (FU_lt (by omega)) ⟨ns0, z0, z1, fun _ _ => rfl, fun _ _ => rfl, fun j hj => by
      obtain ⟨t, ht, et⟩ := z1.tt j hj
      exact ⟨t, ht, by omega, et⟩⟩
  · intro n m σ1 τ1 hI
    rcases stp n m 21 σ1 τ1 (by omega) hI with q | ⟨q, _⟩
    · exact q
    · omega
  · intro n m d σ1 τ1 hd hI
    rcases stp n m d σ1 τ1 (by omega) hI with q | ⟨_, σ2, τ2, q1, q2, q3⟩
    · exact Or.inl q
    · exact Or.inr ⟨σ2, τ2, q1, q2, q3⟩
theorem Z_doneIn {σ τ : St} (h : Sc σ 5 (τ 249)) (p : Int32) : PZ σ τ (M_X10_doneIn σ 0 p) (M_X11_doneIn τ 248 p) (fun v w => v = w) := by
  obtain ⟨nb, ns, nc, ni, r, i⟩ := id h
  have hs10 := i.hs
  have ni1 : ¬ ((1 : Int32) = 0) := by decide
  unfold M_X10_doneIn M_X11_doneIn
  simp only [Nat.zero_add]
  rcases h_sto r i p with ⟨e1, e2⟩ | ⟨s, hs, rfl, e1, e2⟩
  · simp only [e1, e2, bcall_some, ↓reduceIte]
    exact PZ.q rfl rfl rfl
  obtain ⟨σ0, t1, t2, t3⟩ := ahead_ez σ
  obtain ⟨τ0, k1, k2, k3⟩ := thinks_ex τ
  rw [bcall_of e1, bcall_of e2, if_neg ni1, if_neg ni1, bcall_of t1, bcall_of k1]
  refine La.pz (τ0 := τ0) t3 ?_
  have z := t2 _ h
  obtain ⟨nb, ns0, nc, ni, r0, i0⟩ := z
  have z0 : RS σ0 23 (τ0 249) nb ns0 nc ni := by rw [k2 249 (by decide)]; exact r0
  have z1 : Iv (τ0 249) nb ns0 nc ni := by rw [k2 249 (by decide)]; exact i0
  refine two (F := fun n a x => B_X10_doneIn_29 n a 0 (Int32.ofNat s) x) (G := fun n a x => B_X11_doneIn_16 n a 248 (Int32.ofNat s) x) (I := fun d σ1 τ1 => ∃ ns1, RS σ1 23 (τ1 249) nb ns1 nc ni ∧ Iv (τ1 249) nb ns1 nc ni ∧ (∀ q, (q < 23 ∨ 41 ≤ q) → σ1 q = σ0 q) ∧ (∀ k, k ≠ 249 → τ1 k = τ0 k)) (P := fun x y => La σ0 τ0 τ0 x y) (N := 61) ?_ ?_ 61 0 FU FU σ0 τ0 (by omega) (FU_lt (by omega)) (FU_lt (by omega)) ⟨ns0, z0, z1, fun _ _ => rfl, fun _ _ => rfl⟩
  · rintro n m σ1 τ1 ⟨ns1, r1, i1, f1, f2⟩
    have h61 : (60 : Int32) < Int32.ofNat 61 := by decide
    simp only [B_X10_doneIn_29, B_X11_doneIn_16, B_X11_doneIn_50]
    rw [if_pos h61, if_pos h61, if_pos h61]
    refine La.done rfl ?_ f1 f2 rfl
    simp only [↓reduceIte]
  · rintro n m d σ1 τ1 hd ⟨ns1, r1, i1, f1, f2⟩
    have hs1 := i1.hs
    have hd60 : ¬ ((60 : Int32) < Int32.ofNat d) := fun q => (oN_lltF (n := 60) (by decide) (by show d ≤ 60; omega)).mp q
    simp only [B_X10_doneIn_29, B_X11_doneIn_16, B_X11_doneIn_50, Nat.zero_add]
    rw [if_neg hd60, if_neg hd60]
    rcases h_sto r1 i1 (Int32.ofNat s) with ⟨a1, a2⟩ | ⟨s2, hs2, es, a1, a2⟩
    · rw [bcall_of a1, bcall_of a2, if_pos rfl, if_pos rfl, if_neg hd60, bcall_of a2, if_pos rfl]
      refine Or.inl (La.done rfl ?_ f1 f2 rfl)
      simp only [↓reduceIte]
    · have es2 : s2 = s := by
        rw [oN_eq (by omega) (by omega)] at es; omega
      subst es2
      obtain ⟨t, ht, et⟩ := i1.sh s2 hs2
      have a3 : M_X11_of τ1 248 (Int32.ofNat s2) 3 = some (τ1, Int32.ofNat t) := by
        rw [x_ofl (n := 3) (by show 30 + 6 * s2 + 3 < 111; omega)]
        exact congrArg (fun z => some (τ1, z)) et
      have a4 : M_X9_hoursOf σ1 (23 + 4) (Int32.ofNat s2) = some (σ1, Int32.ofNat t) := by
        unfold M_X9_hoursOf
        rw [at_8 B23 (by omega), r1.a8 s2 hs2, et, bcall_some]
      rw [bcall_of a1, bcall_of a2, if_neg ni1, if_neg ni1, bcall_of a3, bcall_of a4]
      by_cases c : t = 0
      · subst c
        rw [if_pos (show Int32.ofNat 0 = (0 : Int32) from rfl), if_pos (show Int32.ofNat 0 ≤ (0 : Int32) from by decide), if_neg hd60, bcall_of a2, if_neg ni1]
        refine Or.inl (La.done rfl ?_ f1 f2 rfl)
        simp only [i10, ↓reduceIte]
      · obtain ⟨σ2, τ2, f, ns2, p1, p2, p3, r2, i2, g1, g2, g3, g4⟩ := passDay r1 i1
        rw [if_neg (fun q => (oN_eqFl (n := 0) (by omega) (by decide) c).mp q), if_neg (fun q => (oN_leFl (n := 0) (by omega) (by show 0 < t; omega)).mp q), bcall_of p1, bcall_of p2, blet_eq, blet_eq, oN_al]
        exact Or.inr ⟨σ2, τ2, rfl, rfl, ns2, r2, i2, fun q hq => by rw [g1 q (by omega), f1 q hq], fun k hk => by rw [g2 k hk, f2 k hk]⟩
theorem zw_today {σ τ : St} {nb ns nc ni c0 : Nat} (r : RS σ 5 (τ 249) nb ns nc ni) (i : Iv (τ 249) nb ns nc ni) (hc0 : c0 < nc) : ∃ σ1 v, M_X10_worksToday σ 0 (Int32.ofNat c0) = some (σ1, v) ∧ M_X11_wouldWork τ 248 (Int32.ofNat c0) = some (τ, v) ∧ (v = 0 ∨ v = 1) ∧ ∀ q, (q < 23 ∨ 41 ≤ q) → σ1 q = σ q := by
  have hc5 := i.hc
  have hs10 := i.hs
  have ni1 : ¬ ((1 : Int32) = 0) := by decide
  obtain ⟨σ0, t1, t2, t3⟩ := take_ok σ (k := 23) (a := 5) B23 B5 (by omega)
  have r0 := t2 _ nb ns nc ni i.hb i.hs i.hc i.hi r
  unfold M_X10_worksToday M_X11_wouldWork
  simp only [Nat.zero_add]
  rw [bcall_of t1]
  rcases q_works r i hc0 with ⟨_, e2, e3⟩ | ⟨_, e2, s, hs, hp, ho, w, v⟩
  · obtain ⟨σ1, f1, f2⟩ := w_no r0 i hc0 e3
    rw [bcall_of e2, if_pos rfl]
    exact ⟨σ1, 0, f1, rfl, Or.inl rfl, fun q hq => by rw [f2 q hq, t3 q (by omega)]⟩
  · obtain ⟨σ1, v, f1, f2, f3, f4⟩ := w_yes r0 i hc0 hs hp ho
    have a3 : M_X11_of τ 248 (Int32.ofNat s) 3 = some (τ, τ 249 (30 + 6 * s + 3)) := x_ofl (n := 3) (by show 30 + 6 * s + 3 < 111; omega)
    have a4 : M_X11_of τ 248 (Int32.ofNat s) 4 = some (τ, τ 249 (30 + 6 * s + 4)) := x_ofl (n := 4) (by show 30 + 6 * s + 4 < 111; omega)
    rw [bcall_of e2, if_neg ni1, bcall_of (x_where (τ := τ) (c := c0) (by omega)), hp, oN_s1, bcall_of a3, bcall_of a4]
    exact ⟨σ1, v, f1, f2, f3, fun q hq => by rw [f4 q hq, t3 q (by omega)]⟩
theorem Z_crewOf {σ τ : St} (h : Sc σ 5 (τ 249)) (p z : Int32) : PZ σ τ (M_X10_crewOf σ 0 p z) (M_X11_crewOf τ 248 p z) (fun v w => v = w) := by
  obtain ⟨nb, ns, nc, ni, r, i⟩ := id h
  have hc5 := i.hc
  have hs10 := i.hs
  have ni1 : ¬ ((1 : Int32) = 0) := by decide
  unfold M_X10_crewOf M_X11_crewOf
  simp only [Nat.zero_add]
  rcases h_crw r i p with ⟨e1, e2⟩ | ⟨j, hj, rfl, e1, e2⟩
  · simp only [e1, e2, bcall_some, ↓reduceIte]
    exact PZ.q rfl rfl rfl
  rw [bcall_of e1, bcall_of e2, if_neg ni1, if_neg ni1]
  by_cases c : z.toInt < 0 ∨ 3 < z.toInt
  · rw [if_pos c, if_pos c]
    exact PZ.q rfl rfl rfl
  rw [if_neg c, if_neg c]
  obtain ⟨k, hk, rfl⟩ := sw_of (n := 3) (by decide) c
  have hk2 : k = 0 ∨ k = 1 ∨ k = 2 ∨ k = 3 := by omega
  rcases hk2 with rfl | rfl | rfl | rfl
  · rw [show (Int32.ofNat 0).toInt = 0 from rfl]
    simp only [show ((0 : Int) = 0) = True from eq_true rfl, ↓reduceIte]
    simp (disch := omega) only [M_X1_skillOf, bcall_some, blet_eq, bput_eq, at_2 (RS.B r), at_3 (RS.B r), at_5 (RS.B r), at_6 (RS.B r), at_7 (RS.B r), at_8 (RS.B r), at_9 (RS.B r), at_10 (RS.B r), at_12 (RS.B r), at_13 (RS.B r), at_14 (RS.B r), at_16 (RS.B r), at_17 (RS.B r), put_2 (RS.B r), put_3 (RS.B r), put_5 (RS.B r), put_6 (RS.B r), put_7 (RS.B r), put_8 (RS.B r), put_9 (RS.B r), put_10 (RS.B r), put_12 (RS.B r), put_13 (RS.B r), put_14 (RS.B r), put_16 (RS.B r), put_17 (RS.B r), x_ofl, x_of, x_setsl, x_sets, x_ld, x_ldl, x_stt, x_stl, x_where, oN_al, oN_la, oN_lm, u2_ne, u2_same, u2_self, (RS.cb r), (RS.cs r), (RS.cc r), (RS.ci r), (Iv.cb i), (Iv.cs i), (Iv.cc i), (Iv.ci i), (RS.a2 r), (RS.a3 r), (RS.a5 r), (RS.a6 r), (RS.a7 r), (RS.a8 r), (RS.a9 r), (RS.a10 r), (RS.a12 r), (RS.a13 r), (RS.a14 r), (RS.a16 r), (RS.a17 r), (RS.f4 r), (RS.f5 r), (RS.f6 r), (RS.f7 r), (RS.f8 r), (RS.f9 r), (RS.f10 r), (RS.f11 r), (RS.f12 r), (RS.f13 r), oN_leT, oN_leF, oN_ltT, oN_ltF, oN_leTl, oN_leFl, oN_ltTl, oN_ltFl, oN_lleT, oN_lleF, oN_lltT, oN_lltF, oN_m4, oN_nn, oN_nn2, mm_0, mm_s, oN_s1, oN_z1, m1_neg, m1_nn, m4_neg, i10, ↓reduceIte, if_true, if_false]
    exact PZ.q rfl rfl rfl
  · rw [show (Int32.ofNat 1).toInt = 1 from rfl]
    simp only [show ((1 : Int) = 0) = False from by decide, show ((1 : Int) = 1) = True from eq_true rfl, ↓reduceIte]
    obtain ⟨g, hg, eg⟩ := i.cp j hj
    rcases g with _ | g
    · simp (disch := omega) only [M_X1_placeOf, eg, bcall_some, blet_eq, bput_eq, at_2 (RS.B r), at_3 (RS.B r), at_5 (RS.B r), at_6 (RS.B r), at_7 (RS.B r), at_8 (RS.B r), at_9 (RS.B r), at_10 (RS.B r), at_12 (RS.B r), at_13 (RS.B r), at_14 (RS.B r), at_16 (RS.B r), at_17 (RS.B r), put_2 (RS.B r), put_3 (RS.B r), put_5 (RS.B r), put_6 (RS.B r), put_7 (RS.B r), put_8 (RS.B r), put_9 (RS.B r), put_10 (RS.B r), put_12 (RS.B r), put_13 (RS.B r), put_14 (RS.B r), put_16 (RS.B r), put_17 (RS.B r), x_ofl, x_of, x_setsl, x_sets, x_ld, x_ldl, x_stt, x_stl, x_where, oN_al, oN_la, oN_lm, u2_ne, u2_same, u2_self, (RS.cb r), (RS.cs r), (RS.cc r), (RS.ci r), (Iv.cb i), (Iv.cs i), (Iv.cc i), (Iv.ci i), (RS.a2 r), (RS.a3 r), (RS.a5 r), (RS.a6 r), (RS.a7 r), (RS.a8 r), (RS.a9 r), (RS.a10 r), (RS.a12 r), (RS.a13 r), (RS.a14 r), (RS.a16 r), (RS.a17 r), (RS.f4 r), (RS.f5 r), (RS.f6 r), (RS.f7 r), (RS.f8 r), (RS.f9 r), (RS.f10 r), (RS.f11 r), (RS.f12 r), (RS.f13 r), oN_leT, oN_leF, oN_ltT, oN_ltF, oN_leTl, oN_leFl, oN_ltTl, oN_ltFl, oN_lleT, oN_lleF, oN_lltT, oN_lltF, oN_m4, oN_nn, oN_nn2, mm_0, mm_s, oN_s1, oN_z1, m1_neg, m1_nn, m4_neg, i10, ↓reduceIte, if_true, if_false]
      exact PZ.q rfl rfl rfl
    · simp (disch := omega) only [M_X1_placeOf, eg, bcall_some, blet_eq, bput_eq, at_2 (RS.B r), at_3 (RS.B r), at_5 (RS.B r), at_6 (RS.B r), at_7 (RS.B r), at_8 (RS.B r), at_9 (RS.B r), at_10 (RS.B r), at_12 (RS.B r), at_13 (RS.B r), at_14 (RS.B r), at_16 (RS.B r), at_17 (RS.B r), put_2 (RS.B r), put_3 (RS.B r), put_5 (RS.B r), put_6 (RS.B r), put_7 (RS.B r), put_8 (RS.B r), put_9 (RS.B r), put_10 (RS.B r), put_12 (RS.B r), put_13 (RS.B r), put_14 (RS.B r), put_16 (RS.B r), put_17 (RS.B r), x_ofl, x_of, x_setsl, x_sets, x_ld, x_ldl, x_stt, x_stl, x_where, oN_al, oN_la, oN_lm, u2_ne, u2_same, u2_self, (RS.cb r), (RS.cs r), (RS.cc r), (RS.ci r), (Iv.cb i), (Iv.cs i), (Iv.cc i), (Iv.ci i), (RS.a2 r), (RS.a3 r), (RS.a5 r), (RS.a6 r), (RS.a7 r), (RS.a8 r), (RS.a9 r), (RS.a10 r), (RS.a12 r), (RS.a13 r), (RS.a14 r), (RS.a16 r), (RS.a17 r), (RS.f4 r), (RS.f5 r), (RS.f6 r), (RS.f7 r), (RS.f8 r), (RS.f9 r), (RS.f10 r), (RS.f11 r), (RS.f12 r), (RS.f13 r), oN_leT, oN_leF, oN_ltT, oN_ltF, oN_leTl, oN_leFl, oN_ltTl, oN_ltFl, oN_lleT, oN_lleF, oN_lltT, oN_lltF, oN_m4, oN_nn, oN_nn2, mm_0, mm_s, oN_s1, oN_z1, m1_neg, m1_nn, m4_neg, i10, ↓reduceIte, if_true, if_false]
      exact PZ.q rfl rfl rfl
  · obtain ⟨σ1, v, f1, f2, f3, f4⟩ := zw_today r i hj
    rw [show (Int32.ofNat 2).toInt = 2 from rfl]
    simp only [show ((2 : Int) = 0) = False from by decide, show ((2 : Int) = 1) = False from by decide, show ((2 : Int) = 2) = True from eq_true rfl, ↓reduceIte]
    rw [bcall_of f1, bcall_of f2]
    rcases f3 with rfl | rfl
    · rw [if_pos rfl, if_pos rfl]
      exact ⟨σ1, τ, 0, 0, rfl, rfl, rfl, fun k hk => f4 k (by omega)⟩
    · rw [if_neg ni1, if_neg ni1]
      exact ⟨σ1, τ, 1, 1, rfl, rfl, rfl, fun k hk => f4 k (by omega)⟩
  · rw [show (Int32.ofNat 3).toInt = 3 from rfl]
    simp only [show ((3 : Int) = 0) = False from by decide, show ((3 : Int) = 1) = False from by decide, show ((3 : Int) = 2) = False from by decide, show ((3 : Int) = 3) = True from eq_true rfl, ↓reduceIte]
    simp (disch := omega) only [M_X1_hoursOf, bcall_some, blet_eq, bput_eq, at_2 (RS.B r), at_3 (RS.B r), at_5 (RS.B r), at_6 (RS.B r), at_7 (RS.B r), at_8 (RS.B r), at_9 (RS.B r), at_10 (RS.B r), at_12 (RS.B r), at_13 (RS.B r), at_14 (RS.B r), at_16 (RS.B r), at_17 (RS.B r), put_2 (RS.B r), put_3 (RS.B r), put_5 (RS.B r), put_6 (RS.B r), put_7 (RS.B r), put_8 (RS.B r), put_9 (RS.B r), put_10 (RS.B r), put_12 (RS.B r), put_13 (RS.B r), put_14 (RS.B r), put_16 (RS.B r), put_17 (RS.B r), x_ofl, x_of, x_setsl, x_sets, x_ld, x_ldl, x_stt, x_stl, x_where, oN_al, oN_la, oN_lm, u2_ne, u2_same, u2_self, (RS.cb r), (RS.cs r), (RS.cc r), (RS.ci r), (Iv.cb i), (Iv.cs i), (Iv.cc i), (Iv.ci i), (RS.a2 r), (RS.a3 r), (RS.a5 r), (RS.a6 r), (RS.a7 r), (RS.a8 r), (RS.a9 r), (RS.a10 r), (RS.a12 r), (RS.a13 r), (RS.a14 r), (RS.a16 r), (RS.a17 r), (RS.f4 r), (RS.f5 r), (RS.f6 r), (RS.f7 r), (RS.f8 r), (RS.f9 r), (RS.f10 r), (RS.f11 r), (RS.f12 r), (RS.f13 r), oN_leT, oN_leF, oN_ltT, oN_ltF, oN_leTl, oN_leFl, oN_ltTl, oN_ltFl, oN_lleT, oN_lleF, oN_lltT, oN_lltF, oN_m4, oN_nn, oN_nn2, mm_0, mm_s, oN_s1, oN_z1, m1_neg, m1_nn, m4_neg, i10, ↓reduceIte, if_true, if_false]
    exact PZ.q rfl rfl rfl
/-- the line is written: as the picture writes it -/
def PDz (σ τ : St) (x y : Option (St × Int32)) : Prop := ∃ σ1 τ1 v, x = some (σ1, v) ∧ y = some (τ1, v) ∧ Pli σ1 τ1 ∧ σ1 243 1 = v ∧ τ1 248 8 = v ∧ Fz σ σ1
theorem Z_describe {σ τ : St} (h : Sc σ 5 (τ 249)) : PDz σ τ (M_X10_describe σ 0) (M_X11_describe τ 248)  := by
  obtain ⟨nb, ns, nc, ni, r, i⟩ := id h
  have hs10 := i.hs
  have fin : ∀ (n : Nat) (a b : St), n ≤ 180 → Dl σ τ n a b → PDz σ τ (some (a, a 243 1)) (some (b, b 248 8))  := fun n a b hn D =>
    ⟨a, b, Int32.ofNat n, by rw [D.l1], by rw [D.l2], ⟨n, hn, D.l1, D.l2, D.ch⟩, D.l1, D.l2, fun k hk => D.fs k (by omega) (by omega)⟩
  have D0 : Dl σ τ 0 (u2 σ 243 1 0) (u2 τ 248 8 0) := ⟨by rw [u2_self]; rfl, by rw [u2_self]; rfl, fun j hj => by omega, fun k h1 h2 => by rw [u2_ne h1], fun k h1 h2 => by rw [u2_ne h1], fun q hq => by rw [u2_same hq]⟩
  unfold M_X10_describe M_X11_describe M_X4_makeEmpty
  simp only [Nat.zero_add]
  have x3 : ∀ (b : St) (K : Int32 → Option (St × Int32)), b 249 = τ 249 → bald b (248 + 1) 3 K = K (Int32.ofNat ns) := fun b K e => by rw [x_ldl (by decide), e]; exact congrArg K i.cs
  rw [bput_eq, bcall_some, bput_eq, x3 _ _ (u2_ne (by decide)), u2_ne (show 5 + 4 ≠ 243 by decide), r.cs, blet_eq, blet_eq]
  have key := two (F := fun n a x => B_X10_describe_20 n a 0 (Int32.ofNat ns - 1 - x)) (G := fun n b x => B_X11_describe_14 n b 248 (Int32.ofNat ns - 1 - x)) (I := fun q a b => ∃ n, n ≤ 16 * q ∧ Dl σ τ n a b) (P := fun x y => PDz σ τ x y ) (N := ns) (by
    rintro k1 k2 a b ⟨n, hn, D⟩
    simp only [B_X10_describe_20, B_X11_describe_14, Nat.zero_add]
    rw [idx_c, if_pos (show (-1 : Int32) < 0 from by decide), if_pos (show (-1 : Int32) < 0 from by decide), D.fs (5 + 4) (by decide) (by decide), r.cs]
    by_cases c : ns = 0
    · subst c
      obtain ⟨s1, t1, p1, q1, D1⟩ := D.put (by omega) 98 (by decide)
      obtain ⟨s2, t2, p2, q2, D2⟩ := D1.put (by omega) 97 (by decide)
      obtain ⟨s3, t3, p3, q3, D3⟩ := D2.put (by omega) 114 (by decide)
      obtain ⟨s4, t4, p4, q4, D4⟩ := D3.put (by omega) 101 (by decide)
      have p1 : M_X4_put a 243 (98 : Int32) = some (s1, 0) := p1
      have p2 : M_X4_put s1 243 (97 : Int32) = some (s2, 0) := p2
      have p3 : M_X4_put s2 243 (114 : Int32) = some (s3, 0) := p3
      have p4 : M_X4_put s3 243 (101 : Int32) = some (s4, 0) := p4
      have a1 : M_X10_writeBare a 0 = some (s4, 0) := by
        unfold M_X10_writeBare
        simp only [Nat.zero_add]
        rw [bcall_of p1, bcall_of p2, bcall_of p3, bcall_of p4]
      have stp : ∀ (n j : Nat) (b b1 : St) (ch : Int32), b 249 = τ 249 → j < 4 → chr 6 j = ch → M_X11_writes b 248 ch = some (b1, 0) → B_X11_describe_138 (n + 1) b 248 (Int32.ofNat j) = B_X11_describe_138 n b1 248 (Int32.ofNat (j + 1)) := fun n j b b1 ch e hj hc hw => by
        simp only [B_X11_describe_138]
        rw [if_neg (fun z => (oN_lleF (n := 4) (by decide) hj).mp z), x3 b _ e, if_pos (show Int32.ofNat 0 = (0 : Int32) from rfl), bcall_of (char_at b (z := 6) (j := j) (by decide) hj), hc, bcall_of hw, blet_eq, oN_al]
      have e1 : B_X11_describe_138 FU b 248 0 = some (t4, t4 248 8) := by
        refine (stp 999 0 b t1 _ (D.ft 249 (by decide) (by decide)) (by decide) bare4.1 q1).trans ?_
        refine (stp 998 1 t1 t2 _ (D1.ft 249 (by decide) (by decide)) (by decide) bare4.2.1 q2).trans ?_
        refine (stp 997 2 t2 t3 _ (D2.ft 249 (by decide) (by decide)) (by decide) bare4.2.2.1 q3).trans ?_
        refine (stp 996 3 t3 t4 _ (D3.ft 249 (by decide) (by decide)) (by decide) bare4.2.2.2 q4).trans ?_
        obtain ⟨d, hd⟩ : ∃ d, 996 = d + 1 := ⟨995, rfl⟩
        rw [hd]
        simp only [B_X11_describe_138]
        rw [if_pos (by decide)]
      rw [if_pos (by decide), bcall_of a1, e1]
      exact fin _ _ _ (by omega) D4
    · have e1 : B_X11_describe_138 FU b 248 0 = some (b, b 248 8) := by
        obtain ⟨d, hd⟩ : ∃ d, FU = d + 1 := ⟨999, rfl⟩
        rw [hd]
        simp only [B_X11_describe_138]
        rw [if_neg (by decide), x3 b _ (D.ft 249 (by decide) (by decide)), if_neg (fun z => (oN_eqFl (n := 0) (by omega) (by decide) c).mp z)]
      rw [if_neg (fun z => (oN_eqFl (n := 0) (by omega) (by decide) c).mp z), e1]
      exact fin _ _ _ (by omega) D) (by
    rintro k1 k2 q a b hq ⟨n, hn, D⟩
    obtain ⟨s1, t1, n1, p1, q1, D1, m1⟩ := d_storey r i (show ns - 1 - q < ns by omega) D (by omega) k2
    have e2 : B_X10_describe_20 (k1 + 1) a 0 (Int32.ofNat (ns - 1 - q)) = (if Int32.ofNat (ns - 1 - q) ≤ 0 then (blet (Int32.ofNat (ns - 1 - q) + (-1 : Int32)) fun v => B_X10_describe_20 k1 s1 0 v) else (bcall (M_X4_put s1 243 (32 : Int32)) fun σ10 _ => blet (Int32.ofNat (ns - 1 - q) + (-1 : Int32)) fun v => B_X10_describe_20 k1 σ10 0 v)) := by
      simp only [B_X10_describe_20, Nat.zero_add]
      rw [if_neg (fun z => (oN_nn (a := ns - 1 - q) (by omega)).mp z), bcall_of p1]
    rw [idx_a hq, e2, q1]
    unfold Tl
    have e9 : Int32.ofNat (ns - 1 - q) + -1 = Int32.ofNat ns - 1 - Int32.ofNat (q + 1) := by rw [← sub_step, idx_a hq]
    by_cases c : ns - 1 - q = 0
    · rw [c] at e9
      rw [c, if_pos (by decide), if_pos (by decide), blet_eq, blet_eq]
      refine Or.inr ⟨s1, t1, ?_, ?_, n1, by omega, D1⟩
      · exact congrArg (fun z => B_X10_describe_20 k1 s1 0 z) e9
      · exact congrArg (fun z => B_X11_describe_14 k2 t1 248 z) e9
    · obtain ⟨s2, t2, p2, q2, D2⟩ := D1.put (by omega) 32 (by decide)
      have p2 : M_X4_put s1 243 (32 : Int32) = some (s2, 0) := p2
      have q2 : M_X11_writes t1 248 (32 : Int32) = some (t2, 0) := q2
      rw [if_neg (fun z => (oN_leFl (n := 0) (by omega) (by show 0 < ns - 1 - q; omega)).mp z), if_neg (fun z => (oN_leFl (n := 0) (by omega) (by show 0 < ns - 1 - q; omega)).mp z), bcall_of p2, bcall_of q2, blet_eq, blet_eq]
      refine Or.inr ⟨s2, t2, ?_, ?_, n1 + 1, by omega, D2⟩
      · exact congrArg (fun z => B_X10_describe_20 k1 s2 0 z) e9
      · exact congrArg (fun z => B_X11_describe_14 k2 t2 248 z) e9) ns 0 FU FU (u2 σ 243 1 0) (u2 τ 248 8 0) (by omega) (FU_lt (by omega)) (FU_lt (by omega)) ⟨0, by omega, D0⟩
  have e0 : Int32.ofNat ns - 1 - Int32.ofNat 0 = Int32.ofNat ns - 1 := by
    have : Int32.ofNat 0 = 0 := rfl
    rw [this]
    grind
  simp only [e0] at key
  exact key
