/-! the queries, call by call -/
theorem z_ok {v : Int32} (h : okZ v = true) : v = 0 ∨ v = 1 := by
  unfold okZ at h
  rcases (Bool.or_eq_true _ _).mp h with h | h
  · exact Or.inl (by simpa using h)
  · exact Or.inr (by simpa using h)
theorem in_pair {σ τ : St} (x a b : Int32) : (M_X10_isWithin σ x a b = some (σ, 0) ∧ M_X11_in τ x a b = some (τ, 0) ∧ ¬ (a ≤ x ∧ x ≤ b)) ∨ (M_X10_isWithin σ x a b = some (σ, 1) ∧ M_X11_in τ x a b = some (τ, 1) ∧ a ≤ x ∧ x ≤ b) := by
  unfold M_X10_isWithin M_X11_in
  by_cases c : x < a
  · rw [if_pos c, if_pos c]
    exact Or.inl ⟨rfl, rfl, fun q => absurd (Int32.not_lt.mpr q.1) (fun z => z c)⟩
  · rw [if_neg c, if_neg c]
    by_cases c2 : b < x
    · rw [if_pos c2, if_pos c2]
      exact Or.inl ⟨rfl, rfl, fun q => absurd (Int32.not_lt.mpr q.2) (fun z => z c2)⟩
    · rw [if_neg c2, if_neg c2]
      exact Or.inr ⟨rfl, rfl, Int32.not_lt.mp c, Int32.not_lt.mp c2⟩
theorem Q_fault {σ τ : St} (h : Co σ τ) : Pair σ τ (M_X10_fault σ 0) (M_X11_fault τ 248) (fun v w => v = w) := Pair.q h rfl rfl h.fl
theorem Q_bundleOf {σ τ : St} (h : Co σ τ) (p : Int32) {z : Int32} (hz : okZ z = true) : Pair σ τ (M_X10_bundleOf σ 0 p z) (M_X11_bundleOf τ 248 p z) (fun v w => v = w) := by
  obtain ⟨nb, ns, nc, ni, r, i⟩ := h.now
  have hb := i.hb
  unfold M_X10_bundleOf M_X11_bundleOf M_X0_polesOf M_X0_weeksOf
  simp only [Nat.zero_add]
  rcases h_bun r i p with ⟨e1, e2⟩ | ⟨s, hs, rfl, e1, e2⟩
  · simp only [e1, e2, bcall_some, ↓reduceIte]
    exact Pair.q h rfl rfl rfl
  · rcases z_ok hz with rfl | rfl
    · simp (disch := omega) only [e1, e2, i10, bcall_some, blet_eq, bput_eq, at_2 (RS.B r), at_3 (RS.B r), at_5 (RS.B r), at_6 (RS.B r), at_7 (RS.B r), at_8 (RS.B r), at_9 (RS.B r), at_10 (RS.B r), at_12 (RS.B r), at_13 (RS.B r), at_14 (RS.B r), at_16 (RS.B r), at_17 (RS.B r), put_2 (RS.B r), put_3 (RS.B r), put_5 (RS.B r), put_6 (RS.B r), put_7 (RS.B r), put_8 (RS.B r), put_9 (RS.B r), put_10 (RS.B r), put_12 (RS.B r), put_13 (RS.B r), put_14 (RS.B r), put_16 (RS.B r), put_17 (RS.B r), x_ofl, x_of, x_setsl, x_sets, x_ld, x_ldl, x_stt, x_stl, x_where, oN_al, oN_la, oN_lm, u2_ne, u2_same, u2_self, (RS.cb r), (RS.cs r), (RS.cc r), (RS.ci r), (Iv.cb i), (Iv.cs i), (Iv.cc i), (Iv.ci i), (RS.a2 r), (RS.a3 r), (RS.a5 r), (RS.a6 r), (RS.a7 r), (RS.a8 r), (RS.a9 r), (RS.a10 r), (RS.a12 r), (RS.a13 r), (RS.a14 r), (RS.a16 r), (RS.a17 r), (RS.f4 r), (RS.f5 r), (RS.f6 r), (RS.f7 r), (RS.f8 r), (RS.f9 r), (RS.f10 r), (RS.f11 r), (RS.f12 r), (RS.f13 r), oN_leT, oN_leF, oN_ltT, oN_ltF, oN_leTl, oN_leFl, oN_ltTl, oN_ltFl, oN_lleT, oN_lleF, oN_lltT, oN_lltF, oN_m4, oN_nn, oN_nn2, mm_0, mm_s, oN_s1, oN_z1, m1_neg, m1_nn, m4_neg, i10, ↓reduceIte, if_true, if_false]
      exact Pair.q h rfl rfl rfl
    · simp (disch := omega) only [e1, e2, i10, bcall_some, blet_eq, bput_eq, at_2 (RS.B r), at_3 (RS.B r), at_5 (RS.B r), at_6 (RS.B r), at_7 (RS.B r), at_8 (RS.B r), at_9 (RS.B r), at_10 (RS.B r), at_12 (RS.B r), at_13 (RS.B r), at_14 (RS.B r), at_16 (RS.B r), at_17 (RS.B r), put_2 (RS.B r), put_3 (RS.B r), put_5 (RS.B r), put_6 (RS.B r), put_7 (RS.B r), put_8 (RS.B r), put_9 (RS.B r), put_10 (RS.B r), put_12 (RS.B r), put_13 (RS.B r), put_14 (RS.B r), put_16 (RS.B r), put_17 (RS.B r), x_ofl, x_of, x_setsl, x_sets, x_ld, x_ldl, x_stt, x_stl, x_where, oN_al, oN_la, oN_lm, u2_ne, u2_same, u2_self, (RS.cb r), (RS.cs r), (RS.cc r), (RS.ci r), (Iv.cb i), (Iv.cs i), (Iv.cc i), (Iv.ci i), (RS.a2 r), (RS.a3 r), (RS.a5 r), (RS.a6 r), (RS.a7 r), (RS.a8 r), (RS.a9 r), (RS.a10 r), (RS.a12 r), (RS.a13 r), (RS.a14 r), (RS.a16 r), (RS.a17 r), (RS.f4 r), (RS.f5 r), (RS.f6 r), (RS.f7 r), (RS.f8 r), (RS.f9 r), (RS.f10 r), (RS.f11 r), (RS.f12 r), (RS.f13 r), oN_leT, oN_leF, oN_ltT, oN_ltF, oN_leTl, oN_leFl, oN_ltTl, oN_ltFl, oN_lleT, oN_lleF, oN_lltT, oN_lltF, oN_m4, oN_nn, oN_nn2, mm_0, mm_s, oN_s1, oN_z1, m1_neg, m1_nn, m4_neg, i10, ↓reduceIte, if_true, if_false]
      exact Pair.q h rfl rfl rfl
theorem Q_strength {σ τ : St} (h : Co σ τ) (p : Int32) {z : Int32} (hz : okZ z = true) : Pair σ τ (M_X10_strength σ 0 p z) (M_X11_strength τ 248 p z) (fun v w => v = w) := by
  obtain ⟨nb, ns, nc, ni, r, i⟩ := h.now
  unfold M_X10_strength M_X11_strength
  simp only [Nat.zero_add]
  rcases h_sto r i p with ⟨e1, e2⟩ | ⟨s, hs, rfl, e1, e2⟩
  · simp only [e1, e2, bcall_some, ↓reduceIte]
    exact Pair.q h rfl rfl rfl
  · rcases z_ok hz with rfl | rfl
    · simp only [e1, e2, bcall_some, ↓reduceIte, i10, (q_str r i hs).1, (q_str r i hs).2]
      exact Pair.q h rfl rfl rfl
    · simp only [e1, e2, bcall_some, ↓reduceIte, i10, q_steps r i hs, (q_str r i hs).2]
      exact Pair.q h rfl rfl rfl
theorem Q_weakest {σ τ : St} (h : Co σ τ) : Pair σ τ (M_X10_weakest σ 0) (M_X11_weakest τ 248) (fun v w => v = w) := by
  obtain ⟨nb, ns, nc, ni, r, i⟩ := h.now
  obtain ⟨v, e1, e2⟩ := q_weak r i
  unfold M_X10_weakest
  simp only [Nat.zero_add, e1, e2, bcall_some]
  exact Pair.q h rfl rfl rfl
theorem Q_oldest {σ τ : St} (h : Co σ τ) (p : Int32) : Pair σ τ (M_X10_oldest σ 0 p) (M_X11_oldest τ 248 p) (fun v w => v = w) := by
  obtain ⟨nb, ns, nc, ni, r, i⟩ := h.now
  obtain ⟨v, e1, e2⟩ := q_oldest r i p
  unfold M_X10_oldest
  simp only [Nat.zero_add, e1, e2, bcall_some]
  exact Pair.q h rfl rfl rfl
theorem Q_wouldFall {σ τ : St} (h : Co σ τ) (p : Int32) : Pair σ τ (M_X10_wouldFall σ 0 p) (M_X11_wouldFall τ 248 p) (fun v w => v = w) := by
  obtain ⟨nb, ns, nc, ni, r, i⟩ := h.now
  obtain ⟨v, e3, e4, _⟩ := q_falls r i p
  unfold M_X10_wouldFall M_X11_wouldFall
  simp only [Nat.zero_add]
  rcases in_pair (σ := σ) (τ := τ) p 8 10 with ⟨e1, e2, _⟩ | ⟨e1, e2, _⟩
  · simp only [e1, e2, bcall_some, ↓reduceIte]
    exact Pair.q h rfl rfl rfl
  · simp only [e1, e2, e3, e4, bcall_some, ↓reduceIte, i10]
    exact Pair.q h rfl rfl rfl
theorem Q_highest {σ τ : St} (h : Co σ τ) : Pair σ τ (M_X10_highest σ 0) (M_X11_highest τ 248) (fun v w => v = w) := by
  obtain ⟨nb, ns, nc, ni, r, i⟩ := h.now
  unfold M_X10_highest M_X7_isWarned
  simp only [Nat.zero_add]
  have hs10 := i.hs
  by_cases c : (3 : Int32) ≤ τ 249 1
  · have c' : ¬ τ 249 1 < 3 := Int32.not_lt.mpr c
    have e2 : M_X11_highest τ 248 = some (τ, -4) := by
      unfold M_X11_highest
      obtain ⟨n, hn⟩ : ∃ n, FU = n + 1 := ⟨999, rfl⟩
      rw [hn]
      simp only [B_X11_highest_5]
      by_cases c0 : ns = 0
      · subst c0
        simp (disch := omega) only [c, show (Int32.ofNat 0 ≤ (0 : Int32)) = True from eq_true (by decide), bcall_some, blet_eq, bput_eq, at_2 (RS.B r), at_3 (RS.B r), at_5 (RS.B r), at_6 (RS.B r), at_7 (RS.B r), at_8 (RS.B r), at_9 (RS.B r), at_10 (RS.B r), at_12 (RS.B r), at_13 (RS.B r), at_14 (RS.B r), at_16 (RS.B r), at_17 (RS.B r), put_2 (RS.B r), put_3 (RS.B r), put_5 (RS.B r), put_6 (RS.B r), put_7 (RS.B r), put_8 (RS.B r), put_9 (RS.B r), put_10 (RS.B r), put_12 (RS.B r), put_13 (RS.B r), put_14 (RS.B r), put_16 (RS.B r), put_17 (RS.B r), x_ofl, x_of, x_setsl, x_sets, x_ld, x_ldl, x_stt, x_stl, x_where, oN_al, oN_la, oN_lm, u2_ne, u2_same, u2_self, (RS.cb r), (RS.cs r), (RS.cc r), (RS.ci r), (Iv.cb i), (Iv.cs i), (Iv.cc i), (Iv.ci i), (RS.a2 r), (RS.a3 r), (RS.a5 r), (RS.a6 r), (RS.a7 r), (RS.a8 r), (RS.a9 r), (RS.a10 r), (RS.a12 r), (RS.a13 r), (RS.a14 r), (RS.a16 r), (RS.a17 r), (RS.f4 r), (RS.f5 r), (RS.f6 r), (RS.f7 r), (RS.f8 r), (RS.f9 r), (RS.f10 r), (RS.f11 r), (RS.f12 r), (RS.f13 r), oN_leT, oN_leF, oN_ltT, oN_ltF, oN_leTl, oN_leFl, oN_ltTl, oN_ltFl, oN_lleT, oN_lleF, oN_lltT, oN_lltF, oN_m4, oN_nn, oN_nn2, mm_0, mm_s, oN_s1, oN_z1, m1_neg, m1_nn, m4_neg, i10, ↓reduceIte, if_true, if_false]
      · have c3 : (Int32.ofNat ns ≤ (0 : Int32)) = False := oN_leF (b := 0) (by omega) (by omega)
        simp (disch := omega) only [c, c3, bcall_some, blet_eq, bput_eq, at_2 (RS.B r), at_3 (RS.B r), at_5 (RS.B r), at_6 (RS.B r), at_7 (RS.B r), at_8 (RS.B r), at_9 (RS.B r), at_10 (RS.B r), at_12 (RS.B r), at_13 (RS.B r), at_14 (RS.B r), at_16 (RS.B r), at_17 (RS.B r), put_2 (RS.B r), put_3 (RS.B r), put_5 (RS.B r), put_6 (RS.B r), put_7 (RS.B r), put_8 (RS.B r), put_9 (RS.B r), put_10 (RS.B r), put_12 (RS.B r), put_13 (RS.B r), put_14 (RS.B r), put_16 (RS.B r), put_17 (RS.B r), x_ofl, x_of, x_setsl, x_sets, x_ld, x_ldl, x_stt, x_stl, x_where, oN_al, oN_la, oN_lm, u2_ne, u2_same, u2_self, (RS.cb r), (RS.cs r), (RS.cc r), (RS.ci r), (Iv.cb i), (Iv.cs i), (Iv.cc i), (Iv.ci i), (RS.a2 r), (RS.a3 r), (RS.a5 r), (RS.a6 r), (RS.a7 r), (RS.a8 r), (RS.a9 r), (RS.a10 r), (RS.a12 r), (RS.a13 r), (RS.a14 r), (RS.a16 r), (RS.a17 r), (RS.f4 r), (RS.f5 r), (RS.f6 r), (RS.f7 r), (RS.f8 r), (RS.f9 r), (RS.f10 r), (RS.f11 r), (RS.f12 r), (RS.f13 r), oN_leT, oN_leF, oN_ltT, oN_ltF, oN_leTl, oN_leFl, oN_ltTl, oN_ltFl, oN_lleT, oN_lleF, oN_lltT, oN_lltF, oN_m4, oN_nn, oN_nn2, mm_0, mm_s, oN_s1, oN_z1, m1_neg, m1_nn, m4_neg, i10, ↓reduceIte, if_true, if_false]
    simp (disch := omega) only [c', i10, e2, bcall_some, blet_eq, bput_eq, at_2 (RS.B r), at_3 (RS.B r), at_5 (RS.B r), at_6 (RS.B r), at_7 (RS.B r), at_8 (RS.B r), at_9 (RS.B r), at_10 (RS.B r), at_12 (RS.B r), at_13 (RS.B r), at_14 (RS.B r), at_16 (RS.B r), at_17 (RS.B r), put_2 (RS.B r), put_3 (RS.B r), put_5 (RS.B r), put_6 (RS.B r), put_7 (RS.B r), put_8 (RS.B r), put_9 (RS.B r), put_10 (RS.B r), put_12 (RS.B r), put_13 (RS.B r), put_14 (RS.B r), put_16 (RS.B r), put_17 (RS.B r), x_ofl, x_of, x_setsl, x_sets, x_ld, x_ldl, x_stt, x_stl, x_where, oN_al, oN_la, oN_lm, u2_ne, u2_same, u2_self, (RS.cb r), (RS.cs r), (RS.cc r), (RS.ci r), (Iv.cb i), (Iv.cs i), (Iv.cc i), (Iv.ci i), (RS.a2 r), (RS.a3 r), (RS.a5 r), (RS.a6 r), (RS.a7 r), (RS.a8 r), (RS.a9 r), (RS.a10 r), (RS.a12 r), (RS.a13 r), (RS.a14 r), (RS.a16 r), (RS.a17 r), (RS.f4 r), (RS.f5 r), (RS.f6 r), (RS.f7 r), (RS.f8 r), (RS.f9 r), (RS.f10 r), (RS.f11 r), (RS.f12 r), (RS.f13 r), oN_leT, oN_leF, oN_ltT, oN_ltF, oN_leTl, oN_leFl, oN_ltTl, oN_ltFl, oN_lleT, oN_lleF, oN_lltT, oN_lltF, oN_m4, oN_nn, oN_nn2, mm_0, mm_s, oN_s1, oN_z1, m1_neg, m1_nn, m4_neg, i10, ↓reduceIte, if_true, if_false]
    exact Pair.q h rfl rfl rfl
  · have c' : τ 249 1 < 3 := Int32.not_le.mp c
    obtain ⟨v, e1, e2⟩ := q_high r i c
    simp (disch := omega) only [c', e1, e2, bcall_some, blet_eq, bput_eq, at_2 (RS.B r), at_3 (RS.B r), at_5 (RS.B r), at_6 (RS.B r), at_7 (RS.B r), at_8 (RS.B r), at_9 (RS.B r), at_10 (RS.B r), at_12 (RS.B r), at_13 (RS.B r), at_14 (RS.B r), at_16 (RS.B r), at_17 (RS.B r), put_2 (RS.B r), put_3 (RS.B r), put_5 (RS.B r), put_6 (RS.B r), put_7 (RS.B r), put_8 (RS.B r), put_9 (RS.B r), put_10 (RS.B r), put_12 (RS.B r), put_13 (RS.B r), put_14 (RS.B r), put_16 (RS.B r), put_17 (RS.B r), x_ofl, x_of, x_setsl, x_sets, x_ld, x_ldl, x_stt, x_stl, x_where, oN_al, oN_la, oN_lm, u2_ne, u2_same, u2_self, (RS.cb r), (RS.cs r), (RS.cc r), (RS.ci r), (Iv.cb i), (Iv.cs i), (Iv.cc i), (Iv.ci i), (RS.a2 r), (RS.a3 r), (RS.a5 r), (RS.a6 r), (RS.a7 r), (RS.a8 r), (RS.a9 r), (RS.a10 r), (RS.a12 r), (RS.a13 r), (RS.a14 r), (RS.a16 r), (RS.a17 r), (RS.f4 r), (RS.f5 r), (RS.f6 r), (RS.f7 r), (RS.f8 r), (RS.f9 r), (RS.f10 r), (RS.f11 r), (RS.f12 r), (RS.f13 r), oN_leT, oN_leF, oN_ltT, oN_ltF, oN_leTl, oN_leFl, oN_ltTl, oN_ltFl, oN_lleT, oN_lleF, oN_lltT, oN_lltF, oN_m4, oN_nn, oN_nn2, mm_0, mm_s, oN_s1, oN_z1, m1_neg, m1_nn, m4_neg, i10, ↓reduceIte, if_true, if_false]
    exact Pair.q h rfl rfl rfl
theorem Q_work {σ τ : St} (h : Co σ τ) {z : Int32} (hz : okZ z = true) : Pair σ τ (M_X10_work σ 0 z) (M_X11_work τ 248 z) (fun v w => v = w) := by
  obtain ⟨nb, ns, nc, ni, r, i⟩ := h.now
  obtain ⟨v, e1, e2⟩ := q_hours r i
  unfold M_X10_work M_X11_work
  simp only [Nat.zero_add]
  rcases z_ok hz with rfl | rfl
  · simp only [e1, e2, bcall_some, ↓reduceIte]
    exact Pair.q h rfl rfl rfl
  · simp (disch := omega) only [i10, bcall_some, blet_eq, bput_eq, at_2 (RS.B r), at_3 (RS.B r), at_5 (RS.B r), at_6 (RS.B r), at_7 (RS.B r), at_8 (RS.B r), at_9 (RS.B r), at_10 (RS.B r), at_12 (RS.B r), at_13 (RS.B r), at_14 (RS.B r), at_16 (RS.B r), at_17 (RS.B r), put_2 (RS.B r), put_3 (RS.B r), put_5 (RS.B r), put_6 (RS.B r), put_7 (RS.B r), put_8 (RS.B r), put_9 (RS.B r), put_10 (RS.B r), put_12 (RS.B r), put_13 (RS.B r), put_14 (RS.B r), put_16 (RS.B r), put_17 (RS.B r), x_ofl, x_of, x_setsl, x_sets, x_ld, x_ldl, x_stt, x_stl, x_where, oN_al, oN_la, oN_lm, u2_ne, u2_same, u2_self, (RS.cb r), (RS.cs r), (RS.cc r), (RS.ci r), (Iv.cb i), (Iv.cs i), (Iv.cc i), (Iv.ci i), (RS.a2 r), (RS.a3 r), (RS.a5 r), (RS.a6 r), (RS.a7 r), (RS.a8 r), (RS.a9 r), (RS.a10 r), (RS.a12 r), (RS.a13 r), (RS.a14 r), (RS.a16 r), (RS.a17 r), (RS.f4 r), (RS.f5 r), (RS.f6 r), (RS.f7 r), (RS.f8 r), (RS.f9 r), (RS.f10 r), (RS.f11 r), (RS.f12 r), (RS.f13 r), oN_leT, oN_leF, oN_ltT, oN_ltF, oN_leTl, oN_leFl, oN_ltTl, oN_ltFl, oN_lleT, oN_lleF, oN_lltT, oN_lltF, oN_m4, oN_nn, oN_nn2, mm_0, mm_s, oN_s1, oN_z1, m1_neg, m1_nn, m4_neg, i10, ↓reduceIte, if_true, if_false]
    exact Pair.q h rfl rfl rfl
theorem Q_meanStrength {σ τ : St} (h : Co σ τ) : Pair σ τ (M_X10_meanStrength σ 0) (M_X11_meanStrength τ 248) (fun v w => v = w) := by
  obtain ⟨nb, ns, nc, ni, r, i⟩ := h.now
  obtain ⟨v, e1, e2⟩ := q_mean r i
  unfold M_X10_meanStrength M_X11_meanStrength
  simp only [Nat.zero_add]
  by_cases c : (Int32.ofNat ns = (0 : Int32))
  · simp (disch := omega) only [c, bcall_some, blet_eq, bput_eq, at_2 (RS.B r), at_3 (RS.B r), at_5 (RS.B r), at_6 (RS.B r), at_7 (RS.B r), at_8 (RS.B r), at_9 (RS.B r), at_10 (RS.B r), at_12 (RS.B r), at_13 (RS.B r), at_14 (RS.B r), at_16 (RS.B r), at_17 (RS.B r), put_2 (RS.B r), put_3 (RS.B r), put_5 (RS.B r), put_6 (RS.B r), put_7 (RS.B r), put_8 (RS.B r), put_9 (RS.B r), put_10 (RS.B r), put_12 (RS.B r), put_13 (RS.B r), put_14 (RS.B r), put_16 (RS.B r), put_17 (RS.B r), x_ofl, x_of, x_setsl, x_sets, x_ld, x_ldl, x_stt, x_stl, x_where, oN_al, oN_la, oN_lm, u2_ne, u2_same, u2_self, (RS.cb r), (RS.cs r), (RS.cc r), (RS.ci r), (Iv.cb i), (Iv.cs i), (Iv.cc i), (Iv.ci i), (RS.a2 r), (RS.a3 r), (RS.a5 r), (RS.a6 r), (RS.a7 r), (RS.a8 r), (RS.a9 r), (RS.a10 r), (RS.a12 r), (RS.a13 r), (RS.a14 r), (RS.a16 r), (RS.a17 r), (RS.f4 r), (RS.f5 r), (RS.f6 r), (RS.f7 r), (RS.f8 r), (RS.f9 r), (RS.f10 r), (RS.f11 r), (RS.f12 r), (RS.f13 r), oN_leT, oN_leF, oN_ltT, oN_ltF, oN_leTl, oN_leFl, oN_ltTl, oN_ltFl, oN_lleT, oN_lleF, oN_lltT, oN_lltF, oN_m4, oN_nn, oN_nn2, mm_0, mm_s, oN_s1, oN_z1, m1_neg, m1_nn, m4_neg, i10, ↓reduceIte, if_true, if_false]
    exact Pair.q h rfl rfl rfl
  · simp (disch := omega) only [c, e1, e2, bcall_some, blet_eq, bput_eq, at_2 (RS.B r), at_3 (RS.B r), at_5 (RS.B r), at_6 (RS.B r), at_7 (RS.B r), at_8 (RS.B r), at_9 (RS.B r), at_10 (RS.B r), at_12 (RS.B r), at_13 (RS.B r), at_14 (RS.B r), at_16 (RS.B r), at_17 (RS.B r), put_2 (RS.B r), put_3 (RS.B r), put_5 (RS.B r), put_6 (RS.B r), put_7 (RS.B r), put_8 (RS.B r), put_9 (RS.B r), put_10 (RS.B r), put_12 (RS.B r), put_13 (RS.B r), put_14 (RS.B r), put_16 (RS.B r), put_17 (RS.B r), x_ofl, x_of, x_setsl, x_sets, x_ld, x_ldl, x_stt, x_stl, x_where, oN_al, oN_la, oN_lm, u2_ne, u2_same, u2_self, (RS.cb r), (RS.cs r), (RS.cc r), (RS.ci r), (Iv.cb i), (Iv.cs i), (Iv.cc i), (Iv.ci i), (RS.a2 r), (RS.a3 r), (RS.a5 r), (RS.a6 r), (RS.a7 r), (RS.a8 r), (RS.a9 r), (RS.a10 r), (RS.a12 r), (RS.a13 r), (RS.a14 r), (RS.a16 r), (RS.a17 r), (RS.f4 r), (RS.f5 r), (RS.f6 r), (RS.f7 r), (RS.f8 r), (RS.f9 r), (RS.f10 r), (RS.f11 r), (RS.f12 r), (RS.f13 r), oN_leT, oN_leF, oN_ltT, oN_ltF, oN_leTl, oN_leFl, oN_ltTl, oN_ltFl, oN_lleT, oN_lleF, oN_lltT, oN_lltF, oN_m4, oN_nn, oN_nn2, mm_0, mm_s, oN_s1, oN_z1, m1_neg, m1_nn, m4_neg, i10, ↓reduceIte, if_true, if_false]
    exact Pair.q h rfl rfl rfl
theorem Q_doneShare {σ τ : St} (h : Co σ τ) : Pair σ τ (M_X10_doneShare σ 0) (M_X11_doneShare τ 248) (fun v w => v = w) := by
  obtain ⟨nb, ns, nc, ni, r, i⟩ := h.now
  unfold M_X10_doneShare M_X11_doneShare
  simp only [Nat.zero_add]
  by_cases c : τ 249 12 = 0
  · simp (disch := omega) only [c, bcall_some, blet_eq, bput_eq, at_2 (RS.B r), at_3 (RS.B r), at_5 (RS.B r), at_6 (RS.B r), at_7 (RS.B r), at_8 (RS.B r), at_9 (RS.B r), at_10 (RS.B r), at_12 (RS.B r), at_13 (RS.B r), at_14 (RS.B r), at_16 (RS.B r), at_17 (RS.B r), put_2 (RS.B r), put_3 (RS.B r), put_5 (RS.B r), put_6 (RS.B r), put_7 (RS.B r), put_8 (RS.B r), put_9 (RS.B r), put_10 (RS.B r), put_12 (RS.B r), put_13 (RS.B r), put_14 (RS.B r), put_16 (RS.B r), put_17 (RS.B r), x_ofl, x_of, x_setsl, x_sets, x_ld, x_ldl, x_stt, x_stl, x_where, oN_al, oN_la, oN_lm, u2_ne, u2_same, u2_self, (RS.cb r), (RS.cs r), (RS.cc r), (RS.ci r), (Iv.cb i), (Iv.cs i), (Iv.cc i), (Iv.ci i), (RS.a2 r), (RS.a3 r), (RS.a5 r), (RS.a6 r), (RS.a7 r), (RS.a8 r), (RS.a9 r), (RS.a10 r), (RS.a12 r), (RS.a13 r), (RS.a14 r), (RS.a16 r), (RS.a17 r), (RS.f4 r), (RS.f5 r), (RS.f6 r), (RS.f7 r), (RS.f8 r), (RS.f9 r), (RS.f10 r), (RS.f11 r), (RS.f12 r), (RS.f13 r), oN_leT, oN_leF, oN_ltT, oN_ltF, oN_leTl, oN_leFl, oN_ltTl, oN_ltFl, oN_lleT, oN_lleF, oN_lltT, oN_lltF, oN_m4, oN_nn, oN_nn2, mm_0, mm_s, oN_s1, oN_z1, m1_neg, m1_nn, m4_neg, i10, ↓reduceIte, if_true, if_false]
    exact Pair.q h rfl rfl rfl
  · simp (disch := omega) only [c, bcall_some, blet_eq, bput_eq, at_2 (RS.B r), at_3 (RS.B r), at_5 (RS.B r), at_6 (RS.B r), at_7 (RS.B r), at_8 (RS.B r), at_9 (RS.B r), at_10 (RS.B r), at_12 (RS.B r), at_13 (RS.B r), at_14 (RS.B r), at_16 (RS.B r), at_17 (RS.B r), put_2 (RS.B r), put_3 (RS.B r), put_5 (RS.B r), put_6 (RS.B r), put_7 (RS.B r), put_8 (RS.B r), put_9 (RS.B r), put_10 (RS.B r), put_12 (RS.B r), put_13 (RS.B r), put_14 (RS.B r), put_16 (RS.B r), put_17 (RS.B r), x_ofl, x_of, x_setsl, x_sets, x_ld, x_ldl, x_stt, x_stl, x_where, oN_al, oN_la, oN_lm, u2_ne, u2_same, u2_self, (RS.cb r), (RS.cs r), (RS.cc r), (RS.ci r), (Iv.cb i), (Iv.cs i), (Iv.cc i), (Iv.ci i), (RS.a2 r), (RS.a3 r), (RS.a5 r), (RS.a6 r), (RS.a7 r), (RS.a8 r), (RS.a9 r), (RS.a10 r), (RS.a12 r), (RS.a13 r), (RS.a14 r), (RS.a16 r), (RS.a17 r), (RS.f4 r), (RS.f5 r), (RS.f6 r), (RS.f7 r), (RS.f8 r), (RS.f9 r), (RS.f10 r), (RS.f11 r), (RS.f12 r), (RS.f13 r), oN_leT, oN_leF, oN_ltT, oN_ltF, oN_leTl, oN_leFl, oN_ltTl, oN_ltFl, oN_lleT, oN_lleF, oN_lltT, oN_lltF, oN_m4, oN_nn, oN_nn2, mm_0, mm_s, oN_s1, oN_z1, m1_neg, m1_nn, m4_neg, i10, ↓reduceIte, if_true, if_false]
    exact Pair.q h rfl rfl rfl
theorem Q_reason {σ τ : St} (h : Co σ τ) (p : Int32) {z : Int32} (hz : okZ z = true) : Pair σ τ (M_X10_reason σ 0 p z) (M_X11_reason τ 248 p z) (fun v w => v = w) := by
  obtain ⟨d, hd, e1, e2, e3⟩ := h.re
  unfold M_X10_reason M_X11_reason M_X6_tell
  simp only [Nat.zero_add, Nat.reduceAdd]
  rw [e1, e2]
  by_cases c : 0 ≤ p
  · rw [if_pos c, if_pos c]
    by_cases c2 : Int32.ofNat d ≤ p
    · rw [if_neg (Int32.not_lt.mpr c2), if_pos c2]
      exact Pair.q h rfl rfl rfl
    · rw [if_pos (Int32.not_le.mp c2), if_neg c2]
      obtain ⟨s, hs, rfl⟩ := oN_of_range (by omega) (Int32.not_lt.mpr c) c2
      have l3 : ln 3 = 3 := by decide +kernel
      have l4 : ln 4 = 3 := by decide +kernel
      have l257 : ln 257 = 8 := by decide +kernel
      rcases z_ok hz with rfl | rfl
      · rw [if_pos rfl, if_pos rfl, at_nat (by omega), oN_lm, oN_al, bald_nat (by omega)]
        exact Pair.q h rfl rfl (e3 s hs).1
      · rw [if_neg (by decide), if_neg (by decide), at_nat (by omega), oN_lm, oN_al, bald_nat (by omega)]
        exact Pair.q h rfl rfl (e3 s hs).2
  · rw [if_neg c, if_neg c]
    exact Pair.q h rfl rfl rfl
theorem Q_written {σ τ : St} (h : Co σ τ) (p : Int32) : Pair σ τ (M_X10_written σ 0 p) (M_X11_written τ 248 p) (fun v w => v = w) := by
  obtain ⟨n, hn, e1, e2, e3⟩ := h.lin
  unfold M_X10_written M_X11_written M_X4_signAt
  simp only [Nat.zero_add]
  rw [e1, e2, x_in (by omega)]
  by_cases c : p < 0
  · simp only [c, ↓reduceIte, bcall_some]
    exact Pair.q h rfl rfl rfl
  · by_cases c2 : Int32.ofNat n ≤ p
    · simp only [c, c2, Int32.not_lt.mpr c2, ↓reduceIte, bcall_some]
      exact Pair.q h rfl rfl rfl
    · obtain ⟨s, hs, rfl⟩ := oN_of_range (by omega) c c2
      obtain ⟨g, hg, e4, e5⟩ := e3 s hs
      have l244 : ln 244 = 200 := by decide +kernel
      have l254 : ln 254 = 180 := by decide +kernel
      have hk : okC (Int32.ofNat g) = true := by
        unfold okC
        rw [decide_eq_true (by rw [oN_nn2 (by omega)]; trivial), decide_eq_true (by rw [oN_leTl (by decide) (by show g ≤ 65535; omega)]; trivial)]; rfl
      rw [if_neg c, if_neg c, if_pos (Int32.not_le.mp c2), if_neg c2]
      simp only [bcall_some, i10, ↓reduceIte, Nat.reduceAdd]
      rw [if_neg c, if_neg c2, if_neg (oN_nle (by rw [l244]; omega) (by omega) (by rw [l244]; omega)), bald_nat (by omega), e4]
      simp only [bchk, hk, ↓reduceIte, bcall_some, i10]
      rw [bald_nat (by omega), e5]
      exact Pair.q h rfl rfl rfl
theorem Q_storeyOf {σ τ : St} (h : Co σ τ) (p z : Int32) : Pair σ τ (M_X10_storeyOf σ 0 p z) (M_X11_storeyOf τ 248 p z) (fun v w => v = w) := by
  obtain ⟨nb, ns, nc, ni, r, i⟩ := h.now
  have hs10 := i.hs
  unfold M_X10_storeyOf M_X11_storeyOf M_X9_polesOf M_X9_weeksOf M_X9_tieOf M_X9_hoursOf M_X9_loadsOf M_X9_isShut M_X9_shutterOf
  simp only [Nat.zero_add]
  rcases h_sto r i p with ⟨e1, e2⟩ | ⟨s, hs, rfl, e1, e2⟩
  · simp only [e1, e2, bcall_some, ↓reduceIte]
    exact Pair.q h rfl rfl rfl
  · simp only [e1, e2, bcall_some, ↓reduceIte, i10]
    by_cases c : z.toInt < 0 ∨ 6 < z.toInt
    · rw [if_pos c, if_pos c]
      exact Pair.q h rfl rfl rfl
    · rw [if_neg c, if_neg c]
      have hz : z = 0 ∨ z = 1 ∨ z = 2 ∨ z = 3 ∨ z = 4 ∨ z = 5 ∨ z = 6 := by
        have : z.toInt = (0 : Int32).toInt ∨ z.toInt = (1 : Int32).toInt ∨ z.toInt = (2 : Int32).toInt ∨ z.toInt = (3 : Int32).toInt ∨ z.toInt = (4 : Int32).toInt ∨ z.toInt = (5 : Int32).toInt ∨ z.toInt = (6 : Int32).toInt := by
          show z.toInt = 0 ∨ z.toInt = 1 ∨ z.toInt = 2 ∨ z.toInt = 3 ∨ z.toInt = 4 ∨ z.toInt = 5 ∨ z.toInt = 6
          omega
        simpa only [Int32.toInt_inj] using this
      have t0 : (0 : Int32).toInt = 0 := rfl
      have t1 : (1 : Int32).toInt = 1 := rfl
      have t2 : (2 : Int32).toInt = 2 := rfl
      have t3 : (3 : Int32).toInt = 3 := rfl
      have t4 : (4 : Int32).toInt = 4 := rfl
      have t5 : (5 : Int32).toInt = 5 := rfl
      have t6 : (6 : Int32).toInt = 6 := rfl
      rcases hz with rfl | rfl | rfl | rfl | rfl | rfl | rfl
      · rw [t0]; simp (disch := omega) only [show ((0 : Int) = 0) = True from eq_true rfl, bcall_some, blet_eq, bput_eq, at_2 (RS.B r), at_3 (RS.B r), at_5 (RS.B r), at_6 (RS.B r), at_7 (RS.B r), at_8 (RS.B r), at_9 (RS.B r), at_10 (RS.B r), at_12 (RS.B r), at_13 (RS.B r), at_14 (RS.B r), at_16 (RS.B r), at_17 (RS.B r), put_2 (RS.B r), put_3 (RS.B r), put_5 (RS.B r), put_6 (RS.B r), put_7 (RS.B r), put_8 (RS.B r), put_9 (RS.B r), put_10 (RS.B r), put_12 (RS.B r), put_13 (RS.B r), put_14 (RS.B r), put_16 (RS.B r), put_17 (RS.B r), x_ofl, x_of, x_setsl, x_sets, x_ld, x_ldl, x_stt, x_stl, x_where, oN_al, oN_la, oN_lm, u2_ne, u2_same, u2_self, (RS.cb r), (RS.cs r), (RS.cc r), (RS.ci r), (Iv.cb i), (Iv.cs i), (Iv.cc i), (Iv.ci i), (RS.a2 r), (RS.a3 r), (RS.a5 r), (RS.a6 r), (RS.a7 r), (RS.a8 r), (RS.a9 r), (RS.a10 r), (RS.a12 r), (RS.a13 r), (RS.a14 r), (RS.a16 r), (RS.a17 r), (RS.f4 r), (RS.f5 r), (RS.f6 r), (RS.f7 r), (RS.f8 r), (RS.f9 r), (RS.f10 r), (RS.f11 r), (RS.f12 r), (RS.f13 r), oN_leT, oN_leF, oN_ltT, oN_ltF, oN_leTl, oN_leFl, oN_ltTl, oN_ltFl, oN_lleT, oN_lleF, oN_lltT, oN_lltF, oN_m4, oN_nn, oN_nn2, mm_0, mm_s, oN_s1, oN_z1, m1_neg, m1_nn, m4_neg, i10, ↓reduceIte, if_true, if_false]
        exact Pair.q h rfl rfl rfl
      · rw [t1]; simp (disch := omega) only [show ((1 : Int) = 0) = False from by decide, show ((1 : Int) = 1) = True from eq_true rfl, bcall_some, blet_eq, bput_eq, at_2 (RS.B r), at_3 (RS.B r), at_5 (RS.B r), at_6 (RS.B r), at_7 (RS.B r), at_8 (RS.B r), at_9 (RS.B r), at_10 (RS.B r), at_12 (RS.B r), at_13 (RS.B r), at_14 (RS.B r), at_16 (RS.B r), at_17 (RS.B r), put_2 (RS.B r), put_3 (RS.B r), put_5 (RS.B r), put_6 (RS.B r), put_7 (RS.B r), put_8 (RS.B r), put_9 (RS.B r), put_10 (RS.B r), put_12 (RS.B r), put_13 (RS.B r), put_14 (RS.B r), put_16 (RS.B r), put_17 (RS.B r), x_ofl, x_of, x_setsl, x_sets, x_ld, x_ldl, x_stt, x_stl, x_where, oN_al, oN_la, oN_lm, u2_ne, u2_same, u2_self, (RS.cb r), (RS.cs r), (RS.cc r), (RS.ci r), (Iv.cb i), (Iv.cs i), (Iv.cc i), (Iv.ci i), (RS.a2 r), (RS.a3 r), (RS.a5 r), (RS.a6 r), (RS.a7 r), (RS.a8 r), (RS.a9 r), (RS.a10 r), (RS.a12 r), (RS.a13 r), (RS.a14 r), (RS.a16 r), (RS.a17 r), (RS.f4 r), (RS.f5 r), (RS.f6 r), (RS.f7 r), (RS.f8 r), (RS.f9 r), (RS.f10 r), (RS.f11 r), (RS.f12 r), (RS.f13 r), oN_leT, oN_leF, oN_ltT, oN_ltF, oN_leTl, oN_leFl, oN_ltTl, oN_ltFl, oN_lleT, oN_lleF, oN_lltT, oN_lltF, oN_m4, oN_nn, oN_nn2, mm_0, mm_s, oN_s1, oN_z1, m1_neg, m1_nn, m4_neg, i10, ↓reduceIte, if_true, if_false]
        exact Pair.q h rfl rfl rfl
      · rw [t2]; simp (disch := omega) only [show ((2 : Int) = 0) = False from by decide, show ((2 : Int) = 1) = False from by decide, show ((2 : Int) = 2) = True from eq_true rfl, bcall_some, blet_eq, bput_eq, at_2 (RS.B r), at_3 (RS.B r), at_5 (RS.B r), at_6 (RS.B r), at_7 (RS.B r), at_8 (RS.B r), at_9 (RS.B r), at_10 (RS.B r), at_12 (RS.B r), at_13 (RS.B r), at_14 (RS.B r), at_16 (RS.B r), at_17 (RS.B r), put_2 (RS.B r), put_3 (RS.B r), put_5 (RS.B r), put_6 (RS.B r), put_7 (RS.B r), put_8 (RS.B r), put_9 (RS.B r), put_10 (RS.B r), put_12 (RS.B r), put_13 (RS.B r), put_14 (RS.B r), put_16 (RS.B r), put_17 (RS.B r), x_ofl, x_of, x_setsl, x_sets, x_ld, x_ldl, x_stt, x_stl, x_where, oN_al, oN_la, oN_lm, u2_ne, u2_same, u2_self, (RS.cb r), (RS.cs r), (RS.cc r), (RS.ci r), (Iv.cb i), (Iv.cs i), (Iv.cc i), (Iv.ci i), (RS.a2 r), (RS.a3 r), (RS.a5 r), (RS.a6 r), (RS.a7 r), (RS.a8 r), (RS.a9 r), (RS.a10 r), (RS.a12 r), (RS.a13 r), (RS.a14 r), (RS.a16 r), (RS.a17 r), (RS.f4 r), (RS.f5 r), (RS.f6 r), (RS.f7 r), (RS.f8 r), (RS.f9 r), (RS.f10 r), (RS.f11 r), (RS.f12 r), (RS.f13 r), oN_leT, oN_leF, oN_ltT, oN_ltF, oN_leTl, oN_leFl, oN_ltTl, oN_ltFl, oN_lleT, oN_lleF, oN_lltT, oN_lltF, oN_m4, oN_nn, oN_nn2, mm_0, mm_s, oN_s1, oN_z1, m1_neg, m1_nn, m4_neg, i10, ↓reduceIte, if_true, if_false]
        exact Pair.q h rfl rfl rfl
      · rw [t3]; simp (disch := omega) only [show ((3 : Int) = 0) = False from by decide, show ((3 : Int) = 1) = False from by decide, show ((3 : Int) = 2) = False from by decide, show ((3 : Int) = 3) = True from eq_true rfl, bcall_some, blet_eq, bput_eq, at_2 (RS.B r), at_3 (RS.B r), at_5 (RS.B r), at_6 (RS.B r), at_7 (RS.B r), at_8 (RS.B r), at_9 (RS.B r), at_10 (RS.B r), at_12 (RS.B r), at_13 (RS.B r), at_14 (RS.B r), at_16 (RS.B r), at_17 (RS.B r), put_2 (RS.B r), put_3 (RS.B r), put_5 (RS.B r), put_6 (RS.B r), put_7 (RS.B r), put_8 (RS.B r), put_9 (RS.B r), put_10 (RS.B r), put_12 (RS.B r), put_13 (RS.B r), put_14 (RS.B r), put_16 (RS.B r), put_17 (RS.B r), x_ofl, x_of, x_setsl, x_sets, x_ld, x_ldl, x_stt, x_stl, x_where, oN_al, oN_la, oN_lm, u2_ne, u2_same, u2_self, (RS.cb r), (RS.cs r), (RS.cc r), (RS.ci r), (Iv.cb i), (Iv.cs i), (Iv.cc i), (Iv.ci i), (RS.a2 r), (RS.a3 r), (RS.a5 r), (RS.a6 r), (RS.a7 r), (RS.a8 r), (RS.a9 r), (RS.a10 r), (RS.a12 r), (RS.a13 r), (RS.a14 r), (RS.a16 r), (RS.a17 r), (RS.f4 r), (RS.f5 r), (RS.f6 r), (RS.f7 r), (RS.f8 r), (RS.f9 r), (RS.f10 r), (RS.f11 r), (RS.f12 r), (RS.f13 r), oN_leT, oN_leF, oN_ltT, oN_ltF, oN_leTl, oN_leFl, oN_ltTl, oN_ltFl, oN_lleT, oN_lleF, oN_lltT, oN_lltF, oN_m4, oN_nn, oN_nn2, mm_0, mm_s, oN_s1, oN_z1, m1_neg, m1_nn, m4_neg, i10, ↓reduceIte, if_true, if_false]
        exact Pair.q h rfl rfl rfl
      · rw [t4]; simp (disch := omega) only [show ((4 : Int) = 0) = False from by decide, show ((4 : Int) = 1) = False from by decide, show ((4 : Int) = 2) = False from by decide, show ((4 : Int) = 3) = False from by decide, show ((4 : Int) = 4) = True from eq_true rfl, bcall_some, blet_eq, bput_eq, at_2 (RS.B r), at_3 (RS.B r), at_5 (RS.B r), at_6 (RS.B r), at_7 (RS.B r), at_8 (RS.B r), at_9 (RS.B r), at_10 (RS.B r), at_12 (RS.B r), at_13 (RS.B r), at_14 (RS.B r), at_16 (RS.B r), at_17 (RS.B r), put_2 (RS.B r), put_3 (RS.B r), put_5 (RS.B r), put_6 (RS.B r), put_7 (RS.B r), put_8 (RS.B r), put_9 (RS.B r), put_10 (RS.B r), put_12 (RS.B r), put_13 (RS.B r), put_14 (RS.B r), put_16 (RS.B r), put_17 (RS.B r), x_ofl, x_of, x_setsl, x_sets, x_ld, x_ldl, x_stt, x_stl, x_where, oN_al, oN_la, oN_lm, u2_ne, u2_same, u2_self, (RS.cb r), (RS.cs r), (RS.cc r), (RS.ci r), (Iv.cb i), (Iv.cs i), (Iv.cc i), (Iv.ci i), (RS.a2 r), (RS.a3 r), (RS.a5 r), (RS.a6 r), (RS.a7 r), (RS.a8 r), (RS.a9 r), (RS.a10 r), (RS.a12 r), (RS.a13 r), (RS.a14 r), (RS.a16 r), (RS.a17 r), (RS.f4 r), (RS.f5 r), (RS.f6 r), (RS.f7 r), (RS.f8 r), (RS.f9 r), (RS.f10 r), (RS.f11 r), (RS.f12 r), (RS.f13 r), oN_leT, oN_leF, oN_ltT, oN_ltF, oN_leTl, oN_leFl, oN_ltTl, oN_ltFl, oN_lleT, oN_lleF, oN_lltT, oN_lltF, oN_m4, oN_nn, oN_nn2, mm_0, mm_s, oN_s1, oN_z1, m1_neg, m1_nn, m4_neg, i10, ↓reduceIte, if_true, if_false]
        exact Pair.q h rfl rfl rfl
      · obtain ⟨g, hg, e⟩ := i.su s hs
        rcases g with _ | g
        · rw [t5]; simp (disch := omega) only [e, show ((5 : Int) = 0) = False from by decide, show ((5 : Int) = 1) = False from by decide, show ((5 : Int) = 2) = False from by decide, show ((5 : Int) = 3) = False from by decide, show ((5 : Int) = 4) = False from by decide, show ((5 : Int) = 5) = True from eq_true rfl, bcall_some, blet_eq, bput_eq, at_2 (RS.B r), at_3 (RS.B r), at_5 (RS.B r), at_6 (RS.B r), at_7 (RS.B r), at_8 (RS.B r), at_9 (RS.B r), at_10 (RS.B r), at_12 (RS.B r), at_13 (RS.B r), at_14 (RS.B r), at_16 (RS.B r), at_17 (RS.B r), put_2 (RS.B r), put_3 (RS.B r), put_5 (RS.B r), put_6 (RS.B r), put_7 (RS.B r), put_8 (RS.B r), put_9 (RS.B r), put_10 (RS.B r), put_12 (RS.B r), put_13 (RS.B r), put_14 (RS.B r), put_16 (RS.B r), put_17 (RS.B r), x_ofl, x_of, x_setsl, x_sets, x_ld, x_ldl, x_stt, x_stl, x_where, oN_al, oN_la, oN_lm, u2_ne, u2_same, u2_self, (RS.cb r), (RS.cs r), (RS.cc r), (RS.ci r), (Iv.cb i), (Iv.cs i), (Iv.cc i), (Iv.ci i), (RS.a2 r), (RS.a3 r), (RS.a5 r), (RS.a6 r), (RS.a7 r), (RS.a8 r), (RS.a9 r), (RS.a10 r), (RS.a12 r), (RS.a13 r), (RS.a14 r), (RS.a16 r), (RS.a17 r), (RS.f4 r), (RS.f5 r), (RS.f6 r), (RS.f7 r), (RS.f8 r), (RS.f9 r), (RS.f10 r), (RS.f11 r), (RS.f12 r), (RS.f13 r), oN_leT, oN_leF, oN_ltT, oN_ltF, oN_leTl, oN_leFl, oN_ltTl, oN_ltFl, oN_lleT, oN_lleF, oN_lltT, oN_lltF, oN_m4, oN_nn, oN_nn2, mm_0, mm_s, oN_s1, oN_z1, m1_neg, m1_nn, m4_neg, i10, ↓reduceIte, if_true, if_false]
          exact Pair.q h rfl rfl rfl
        · rw [t5]; simp (disch := omega) only [e, i10, show ((5 : Int) = 0) = False from by decide, show ((5 : Int) = 1) = False from by decide, show ((5 : Int) = 2) = False from by decide, show ((5 : Int) = 3) = False from by decide, show ((5 : Int) = 4) = False from by decide, show ((5 : Int) = 5) = True from eq_true rfl, bcall_some, blet_eq, bput_eq, at_2 (RS.B r), at_3 (RS.B r), at_5 (RS.B r), at_6 (RS.B r), at_7 (RS.B r), at_8 (RS.B r), at_9 (RS.B r), at_10 (RS.B r), at_12 (RS.B r), at_13 (RS.B r), at_14 (RS.B r), at_16 (RS.B r), at_17 (RS.B r), put_2 (RS.B r), put_3 (RS.B r), put_5 (RS.B r), put_6 (RS.B r), put_7 (RS.B r), put_8 (RS.B r), put_9 (RS.B r), put_10 (RS.B r), put_12 (RS.B r), put_13 (RS.B r), put_14 (RS.B r), put_16 (RS.B r), put_17 (RS.B r), x_ofl, x_of, x_setsl, x_sets, x_ld, x_ldl, x_stt, x_stl, x_where, oN_al, oN_la, oN_lm, u2_ne, u2_same, u2_self, (RS.cb r), (RS.cs r), (RS.cc r), (RS.ci r), (Iv.cb i), (Iv.cs i), (Iv.cc i), (Iv.ci i), (RS.a2 r), (RS.a3 r), (RS.a5 r), (RS.a6 r), (RS.a7 r), (RS.a8 r), (RS.a9 r), (RS.a10 r), (RS.a12 r), (RS.a13 r), (RS.a14 r), (RS.a16 r), (RS.a17 r), (RS.f4 r), (RS.f5 r), (RS.f6 r), (RS.f7 r), (RS.f8 r), (RS.f9 r), (RS.f10 r), (RS.f11 r), (RS.f12 r), (RS.f13 r), oN_leT, oN_leF, oN_ltT, oN_ltF, oN_leTl, oN_leFl, oN_ltTl, oN_ltFl, oN_lleT, oN_lleF, oN_lltT, oN_lltF, oN_m4, oN_nn, oN_nn2, mm_0, mm_s, oN_s1, oN_z1, m1_neg, m1_nn, m4_neg, i10, ↓reduceIte, if_true, if_false]
          exact Pair.q h rfl rfl rfl
      · obtain ⟨m, _, e3, e4⟩ := q_bits r i hs
        rw [t6]; simp only [e3, e4, bcall_some, ↓reduceIte, show ((6 : Int) = 0) = False from by decide, show ((6 : Int) = 1) = False from by decide, show ((6 : Int) = 2) = False from by decide, show ((6 : Int) = 3) = False from by decide, show ((6 : Int) = 4) = False from by decide, show ((6 : Int) = 5) = False from by decide, show ((6 : Int) = 6) = True from eq_true rfl]
        exact Pair.q h rfl rfl rfl
