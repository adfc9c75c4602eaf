theorem bcall_of {α β : Type} {o : Option (St × β)} {σ : St} {v : β} {K : St → β → Option α} (h : o = some (σ, v)) : bcall o K = K σ v := by rw [h]; rfl
theorem bl_step (n : Nat) (σ : St) (x1 x2 x3 : Int32) {s j : Nat} (hs : s < 10) (hj : j < 6) : B_X11_builds_192 (n + 1) σ 248 x1 x2 x3 (Int32.ofNat s) (Int32.ofNat j) = B_X11_builds_192 n (u2 σ 249 (30 + 6 * s + j) 0) 248 x1 x2 x3 (Int32.ofNat s) (Int32.ofNat (j + 1)) := by
  simp (disch := omega) only [B_X11_builds_192, oN_lleF, ↓reduceIte, x_sets, bcall_some, blet_eq, oN_al]
/-- the six numbers of a storey made 0 -/
def z6 (σ : St) (s : Nat) : St := u2 (u2 (u2 (u2 (u2 (u2 σ 249 (30 + 6 * s + 0) 0) 249 (30 + 6 * s + 1) 0) 249 (30 + 6 * s + 2) 0) 249 (30 + 6 * s + 3) 0) 249 (30 + 6 * s + 4) 0) 249 (30 + 6 * s + 5) 0
theorem bl_all (σ : St) (x2 x3 : Int32) {s j : Nat} (hs : s < 10) (hj : j < 8) : B_X11_builds_192 FU σ 248 (Int32.ofNat j) x2 x3 (Int32.ofNat s) 0 = some (u2 (u2 (u2 (u2 (z6 σ s) 249 (30 + 6 * s + 0) x2) 249 (30 + 6 * s + 1) (σ 249 (14 + 2 * j + 1))) 249 (30 + 6 * s + 3) x3) 248 17 (Int32.ofNat s), 0) := by
  refine (bl_step 999 σ (Int32.ofNat j) x2 x3 (j := 0) hs (by decide)).trans ?_
  refine (bl_step 998 _ (Int32.ofNat j) x2 x3 (j := 1) hs (by decide)).trans ?_
  refine (bl_step 997 _ (Int32.ofNat j) x2 x3 (j := 2) hs (by decide)).trans ?_
  refine (bl_step 996 _ (Int32.ofNat j) x2 x3 (j := 3) hs (by decide)).trans ?_
  refine (bl_step 995 _ (Int32.ofNat j) x2 x3 (j := 4) hs (by decide)).trans ?_
  refine (bl_step 994 _ (Int32.ofNat j) x2 x3 (j := 5) hs (by decide)).trans ?_
  show B_X11_builds_192 (993 + 1) (z6 σ s) 248 (Int32.ofNat j) x2 x3 (Int32.ofNat s) (Int32.ofNat 6) = _
  simp (disch := omega) only [B_X11_builds_192, oN_lleT, ↓reduceIte, x_setsl, bcall_some, oN_lm, oN_la, oN_al, x_ld, M_X11_does, bput_eq, u2_same]
  unfold z6
  simp (disch := omega) only [u2_same]
theorem O_build {σ τ : St} {nb ns nc ni : Nat} (r : RS σ 5 (τ 249) nb ns nc ni) (i : Iv (τ 249) nb ns nc ni) (p q w : Int32) : Opx σ τ (M_X8_addStorey σ 1 p q w) (M_X11_builds τ 248 p q w) := by
  have hb8 := i.hb; have hs10 := i.hs; have hc5 := i.hc; have hi3 := i.hi
  unfold M_X8_addStorey M_X11_builds
  simp only [show (1 : Nat) + 4 = 5 from rfl, show (1 : Nat) + 1 = 2 from rfl]
  rcases h_bun r i p with ⟨e1, e2⟩ | ⟨j, hj0, rfl, e1, e2⟩
  · simp only [e1, e2, bcall_some, ↓reduceIte, i10]
    exact Or.inl ⟨-1, Or.inl rfl, rfl, rfl⟩
  rcases in_pair (σ := σ) (τ := τ) q 4 8 with ⟨e3, e4, _⟩ | ⟨e3, e4, l3, u3⟩
  · simp only [e1, e2, e3, e4, bcall_some, ↓reduceIte, i10]
    exact Or.inl ⟨-2, Or.inr rfl, rfl, rfl⟩
  obtain ⟨g, gl, gu, rfl⟩ := rng (m := 4) (n := 8) (by decide) (by decide) l3 u3
  rcases in_pair (σ := σ) (τ := τ) w 0 40 with ⟨e5, e6, _⟩ | ⟨e5, e6, l5, u5⟩
  · simp only [e1, e2, e3, e4, e5, e6, bcall_some, ↓reduceIte, i10]
    exact Or.inl ⟨-2, Or.inr rfl, rfl, rfl⟩
  obtain ⟨t, tl, tu, rfl⟩ := rng (m := 0) (n := 40) (by decide) (by decide) l5 u5
  have ni1 : ¬ ((1 : Int32) = 0) := by decide
  rw [bcall_of e1, bcall_of e2, if_neg ni1, if_neg ni1, bcall_of e3, bcall_of e4, if_neg ni1, if_neg ni1, bcall_of e5, bcall_of e6, if_neg ni1, if_neg ni1]
  have ld3 : ∀ (K : Int32 → Option (St × Int32)), bald τ (248 + 1) 3 K = K (Int32.ofNat ns) := fun K => by rw [x_ldl (by decide)]; exact congrArg K i.cs
  have ld1 : ∀ (K : Int32 → Option (St × Int32)), bald τ (248 + 1) 1 K = K (τ 249 1) := fun K => x_ldl (by decide)
  have cs1 : σ (5 + 4) 6 = Int32.ofNat ns := r.cs
  have f51 : σ 5 5 = τ 249 1 := r.f5
  rw [ld3, cs1]
  by_cases c10 : ns = 10
  · subst c10
    rw [if_neg (by decide), if_pos (by decide)]
    exact Opx.ref _ _ _ _
  have c10a : Int32.ofNat ns < 10 := of_eq_true (oN_ltTl (by decide) (by show ns < 10; omega))
  have c10b : ¬ (Int32.ofNat ns = (10 : Int32)) := of_eq_false (oN_eqFl (by omega) (by decide) (by show ns ≠ 10; omega))
  rw [if_pos c10a, if_neg c10b, ld1]
  by_cases cw : τ 249 1 < 3
  · have w0 : M_X7_isWarned σ 5 = some (σ, 0) := by unfold M_X7_isWarned; rw [f51, if_pos cw]
    have l14 : ∀ (K : Int32 → Option (St × Int32)), bald τ (248 + 1) (14 + 2 * Int32.ofNat j) K = K (τ 249 (14 + 2 * j)) := fun K => by rw [oN_lm, oN_la, x_ld (by omega)]
    have po : M_X0_polesOf σ (5 + 1) (Int32.ofNat j) = some (σ, τ 249 (14 + 2 * j)) := by unfold M_X0_polesOf; rw [at_2 B5 (by omega), bcall_some, r.a2 j hj0]
    rw [bcall_of w0, if_pos rfl, if_pos cw, l14, bcall_of po]
    obtain ⟨st, hst, es⟩ := i.st
    have m1 : Int32.ofNat g * 2 = Int32.ofNat (2 * g) := by rw [show (2 : Int32) = Int32.ofNat 2 from rfl, oN_mul, Nat.mul_comm]
    have m2 : 2 * Int32.ofNat g = Int32.ofNat (2 * g) := by rw [oN_lm]
    by_cases cp : Int32.ofNat g ≤ τ 249 (14 + 2 * j)
    · have f61 : σ 5 6 = Int32.ofNat st := r.f6.trans es
      have ld6 : ∀ (K : Int32 → Option (St × Int32)), bald τ (248 + 1) 6 K = K (Int32.ofNat st) := fun K => by rw [x_ldl (by decide)]; exact congrArg K es
      rw [if_pos cp, if_pos cp, blet_eq, m1, m2, ld6, f61]
      by_cases cs : 2 * g ≤ st
      · have cs1 : Int32.ofNat (2 * g) ≤ Int32.ofNat st := (oN_le (by omega) (by omega)).mpr cs
        rw [if_pos cs1, if_pos cs1]
        simp (disch := omega) only [es, M_X0_polesOf, M_X0_takeOut, M_X0_weeksOf, M_X9_add, M_X9_bind, oN_sub, bl_all, bcall_some, blet_eq, bput_eq, at_2 (RS.B r), at_3 (RS.B r), at_5 (RS.B r), at_6 (RS.B r), at_7 (RS.B r), at_8 (RS.B r), at_9 (RS.B r), at_10 (RS.B r), at_12 (RS.B r), at_13 (RS.B r), at_14 (RS.B r), at_16 (RS.B r), at_17 (RS.B r), put_2 (RS.B r), put_3 (RS.B r), put_5 (RS.B r), put_6 (RS.B r), put_7 (RS.B r), put_8 (RS.B r), put_9 (RS.B r), put_10 (RS.B r), put_12 (RS.B r), put_13 (RS.B r), put_14 (RS.B r), put_16 (RS.B r), put_17 (RS.B r), x_ofl, x_of, x_setsl, x_sets, x_ld, x_ldl, x_stt, x_stl, x_where, oN_al, oN_la, oN_lm, u2_ne, u2_same, u2_self, (RS.cb r), (RS.cs r), (RS.cc r), (RS.ci r), (Iv.cb i), (Iv.cs i), (Iv.cc i), (Iv.ci i), (RS.a2 r), (RS.a3 r), (RS.a5 r), (RS.a6 r), (RS.a7 r), (RS.a8 r), (RS.a9 r), (RS.a10 r), (RS.a12 r), (RS.a13 r), (RS.a14 r), (RS.a16 r), (RS.a17 r), (RS.f4 r), (RS.f5 r), (RS.f6 r), (RS.f7 r), (RS.f8 r), (RS.f9 r), (RS.f10 r), (RS.f11 r), (RS.f12 r), (RS.f13 r), oN_leT, oN_leF, oN_ltT, oN_ltF, oN_leTl, oN_leFl, oN_ltTl, oN_ltFl, oN_lleT, oN_lleF, oN_lltT, oN_lltF, oN_m4, oN_nn, oN_nn2, mm_0, mm_s, oN_s1, oN_z1, m1_neg, m1_nn, m4_neg, i10, ↓reduceIte, if_true, if_false]
        refine Opx.ok (of_eq_true (oN_nn2 (by omega))) ⟨nb, ns + 1, nc, ni, ?_, ?_⟩ (fun k hk => by simp (disch := omega) only [u2_ne]) (fun k hk => by simp (disch := omega) only [u2_ne, z6])
        all_goals simp only [z6]
        · apply RS.mk
          exact B5
          all_goals first | (simp (disch := omega) only [u2_ne, u2_same, u2_self, mm_z, (RS.f4 r), (RS.f5 r), (RS.f6 r), (RS.f7 r), (RS.f8 r), (RS.f9 r), (RS.f10 r), (RS.f11 r), (RS.f12 r), (RS.f13 r), (RS.cb r), (RS.cs r), (RS.cc r), (RS.ci r), (RS.a2 r), (RS.a3 r), (RS.a5 r), (RS.a6 r), (RS.a7 r), (RS.a8 r), (RS.a9 r), (RS.a10 r), (RS.a12 r), (RS.a13 r), (RS.a14 r), (RS.a16 r), (RS.a17 r)]; done) | (intro z9 h9; simp (disch := omega) only [u2_ne, u2_same, u2_self, mm_z, (RS.f4 r), (RS.f5 r), (RS.f6 r), (RS.f7 r), (RS.f8 r), (RS.f9 r), (RS.f10 r), (RS.f11 r), (RS.f12 r), (RS.f13 r), (RS.cb r), (RS.cs r), (RS.cc r), (RS.ci r), (RS.a2 r), (RS.a3 r), (RS.a5 r), (RS.a6 r), (RS.a7 r), (RS.a8 r), (RS.a9 r), (RS.a10 r), (RS.a12 r), (RS.a13 r), (RS.a14 r), (RS.a16 r), (RS.a17 r)]; done) | (intro z9 h9; by_cases e : z9 = ns <;> first | (rw [e]; simp (disch := omega) only [u2_ne, u2_same, u2_self, mm_z, (RS.f4 r), (RS.f5 r), (RS.f6 r), (RS.f7 r), (RS.f8 r), (RS.f9 r), (RS.f10 r), (RS.f11 r), (RS.f12 r), (RS.f13 r), (RS.cb r), (RS.cs r), (RS.cc r), (RS.ci r), (RS.a2 r), (RS.a3 r), (RS.a5 r), (RS.a6 r), (RS.a7 r), (RS.a8 r), (RS.a9 r), (RS.a10 r), (RS.a12 r), (RS.a13 r), (RS.a14 r), (RS.a16 r), (RS.a17 r)]; done) | (simp (disch := omega) only [u2_ne, u2_same, u2_self, mm_z, (RS.f4 r), (RS.f5 r), (RS.f6 r), (RS.f7 r), (RS.f8 r), (RS.f9 r), (RS.f10 r), (RS.f11 r), (RS.f12 r), (RS.f13 r), (RS.cb r), (RS.cs r), (RS.cc r), (RS.ci r), (RS.a2 r), (RS.a3 r), (RS.a5 r), (RS.a6 r), (RS.a7 r), (RS.a8 r), (RS.a9 r), (RS.a10 r), (RS.a12 r), (RS.a13 r), (RS.a14 r), (RS.a16 r), (RS.a17 r)]; done)) | (intro z9 h9; by_cases e : z9 = j <;> first | (rw [e]; simp (disch := omega) only [u2_ne, u2_same, u2_self, mm_z, (RS.f4 r), (RS.f5 r), (RS.f6 r), (RS.f7 r), (RS.f8 r), (RS.f9 r), (RS.f10 r), (RS.f11 r), (RS.f12 r), (RS.f13 r), (RS.cb r), (RS.cs r), (RS.cc r), (RS.ci r), (RS.a2 r), (RS.a3 r), (RS.a5 r), (RS.a6 r), (RS.a7 r), (RS.a8 r), (RS.a9 r), (RS.a10 r), (RS.a12 r), (RS.a13 r), (RS.a14 r), (RS.a16 r), (RS.a17 r)]; done) | (simp (disch := omega) only [u2_ne, u2_same, u2_self, mm_z, (RS.f4 r), (RS.f5 r), (RS.f6 r), (RS.f7 r), (RS.f8 r), (RS.f9 r), (RS.f10 r), (RS.f11 r), (RS.f12 r), (RS.f13 r), (RS.cb r), (RS.cs r), (RS.cc r), (RS.ci r), (RS.a2 r), (RS.a3 r), (RS.a5 r), (RS.a6 r), (RS.a7 r), (RS.a8 r), (RS.a9 r), (RS.a10 r), (RS.a12 r), (RS.a13 r), (RS.a14 r), (RS.a16 r), (RS.a17 r)]; done))
        · apply Iv.mk
          · omega
          · omega
          · omega
          · omega
          · simp (disch := omega) only [u2_same, u2_self]; exact i.cb
          · simp (disch := omega) only [u2_same, u2_self]
          · simp (disch := omega) only [u2_same, u2_self]; exact i.cc
          · simp (disch := omega) only [u2_same, u2_self]; exact i.ci
          · simp (disch := omega) only [u2_same, u2_self]; exact i.sg
          · simp (disch := omega) only [u2_same, u2_self]; exact ⟨st - 2 * g, by omega, rfl⟩
          · simp (disch := omega) only [u2_same, u2_self]; exact i.tu
          · intro j hj; simp (disch := omega) only [u2_same, u2_self]; exact i.ba j hj
          · intro j hj
            by_cases e : j = ns
            · rw [e]; simp (disch := omega) only [u2_same, u2_self]; exact ⟨g, gu, rfl⟩
            · simp (disch := omega) only [u2_same, u2_self]; exact i.sp j (by omega)
          · intro j hj
            by_cases e : j = ns
            · rw [e]; simp (disch := omega) only [u2_same, u2_self]; exact i.ba _ hj0
            · simp (disch := omega) only [u2_same, u2_self]; exact i.sw j (by omega)
          · intro j hj
            by_cases e : j = ns
            · rw [e]; simp (disch := omega) only [u2_same, u2_self]; exact ⟨0, by omega, rfl⟩
            · simp (disch := omega) only [u2_same, u2_self]; exact i.tt j (by omega)
          · intro j hj
            by_cases e : j = ns
            · rw [e]; simp (disch := omega) only [u2_same, u2_self]; exact ⟨t, tu, rfl⟩
            · simp (disch := omega) only [u2_same, u2_self]; exact i.sh j (by omega)
          · intro j hj
            by_cases e : j = ns
            · rw [e]; simp (disch := omega) only [u2_same, u2_self]; exact ⟨0, by omega, rfl⟩
            · simp (disch := omega) only [u2_same, u2_self]; exact i.sl j (by omega)
          · intro j hj
            by_cases e : j = ns
            · rw [e]; simp (disch := omega) only [u2_same, u2_self]; exact ⟨0, by omega, rfl⟩
            · simp (disch := omega) only [u2_same, u2_self]; exact i.su j (by omega)
          · intro j hj; simp (disch := omega) only [u2_same, u2_self]; exact i.ck j hj
          · intro k hk; simp (disch := omega) only [u2_same, u2_self]
            obtain ⟨v, hv, ev⟩ := i.cp k hk
            exact ⟨v, by omega, ev⟩
          · intro j hj; simp (disch := omega) only [u2_same, u2_self]; exact i.nn j hj
          · intro g j hj; simp (disch := omega) only [u2_same, u2_self] at g ⊢; exact i.gr g j hj
          · intro k c2 hk hc2 g2
            by_cases e : k = ns
            · rw [e] at g2; simp (disch := omega) only [u2_same, u2_self] at g2; exact absurd rfl g2
            · simp (disch := omega) only [u2_same] at g2 ⊢; exact i.nc0 k c2 (by omega) hc2 g2
      · have cs1 : ¬ (Int32.ofNat (2 * g) ≤ Int32.ofNat st) := fun q => cs ((oN_le (by omega) (by omega)).mp q)
        rw [if_neg cs1, if_neg cs1, ld6]
        exact Opx.ref _ _ _ _
    · rw [if_neg cp, if_neg cp, bcall_of po, l14]
      exact Opx.ref _ _ _ _
  · have w1 : M_X7_isWarned σ 5 = some (σ, 1) := by unfold M_X7_isWarned; rw [f51, if_neg cw]
    rw [bcall_of w1, if_neg ni1, if_neg cw, ld1, f51]
    exact Opx.ref _ _ _ _
theorem Q_build {σ τ : St} (h : Co σ τ) (p q w : Int32) : Pair σ τ (M_X10_build σ 0 p q w) (M_X11_build τ 248 p q w) (fun v w => v = w) := by
  unfold M_X10_build M_X11_build
  simp only [Nat.zero_add]
  exact chg h (fun s => M_X8_addStorey s 1 p q w) _ (fun σ τ h => by
    obtain ⟨nb, ns, nc, ni, r, i⟩ := h.now
    exact (O_build r i p q w).toK)
/-- crews who come down, one after the other -/
def Dn (nc n : Nat) (P : Int32 → Prop) (σ τ σ1 τ1 : St) : Prop := (∀ k, k ≠ 18 → σ1 k = σ k) ∧ (∀ k, k ≠ 249 → τ1 k = τ k) ∧ (∀ q, (q < 90 ∨ 105 ≤ q) → τ1 249 q = τ 249 q) ∧ (∀ c, c < 5 → τ1 249 (90 + 3 * c) = τ 249 (90 + 3 * c)) ∧ (∀ c, c < 5 → τ1 249 (90 + 3 * c + 2) = τ 249 (90 + 3 * c + 2)) ∧ (∀ c, c < nc → σ1 18 c = mm (τ1 249 (90 + 3 * c + 1))) ∧ (∀ c, c < nc → τ1 249 (90 + 3 * c + 1) = τ 249 (90 + 3 * c + 1) ∨ τ1 249 (90 + 3 * c + 1) = 0) ∧ (∀ c, c < n → P (τ1 249 (90 + 3 * c + 1)))
theorem Dn.fr {nc n : Nat} {P : Int32 → Prop} {σ τ σ1 τ1 : St} (h : Dn nc n P σ τ σ1 τ1) : ∀ k, k ≠ 18 → σ1 k = σ k := h.1
theorem Dn.fx {nc n : Nat} {P : Int32 → Prop} {σ τ σ1 τ1 : St} (h : Dn nc n P σ τ σ1 τ1) : ∀ k, k ≠ 249 → τ1 k = τ k := h.2.1
theorem Dn.c0 {nc n : Nat} {P : Int32 → Prop} {σ τ σ1 τ1 : St} (h : Dn nc n P σ τ σ1 τ1) : ∀ q, (q < 90 ∨ 105 ≤ q) → τ1 249 q = τ 249 q := h.2.2.1
theorem Dn.c1 {nc n : Nat} {P : Int32 → Prop} {σ τ σ1 τ1 : St} (h : Dn nc n P σ τ σ1 τ1) : ∀ c, c < 5 → τ1 249 (90 + 3 * c) = τ 249 (90 + 3 * c) := h.2.2.2.1
theorem Dn.c2 {nc n : Nat} {P : Int32 → Prop} {σ τ σ1 τ1 : St} (h : Dn nc n P σ τ σ1 τ1) : ∀ c, c < 5 → τ1 249 (90 + 3 * c + 2) = τ 249 (90 + 3 * c + 2) := h.2.2.2.2.1
theorem Dn.a {nc n : Nat} {P : Int32 → Prop} {σ τ σ1 τ1 : St} (h : Dn nc n P σ τ σ1 τ1) : ∀ c, c < nc → σ1 18 c = mm (τ1 249 (90 + 3 * c + 1)) := h.2.2.2.2.2.1
theorem Dn.o {nc n : Nat} {P : Int32 → Prop} {σ τ σ1 τ1 : St} (h : Dn nc n P σ τ σ1 τ1) : ∀ c, c < nc → τ1 249 (90 + 3 * c + 1) = τ 249 (90 + 3 * c + 1) ∨ τ1 249 (90 + 3 * c + 1) = 0 := h.2.2.2.2.2.2.1
theorem Dn.d {nc n : Nat} {P : Int32 → Prop} {σ τ σ1 τ1 : St} (h : Dn nc n P σ τ σ1 τ1) : ∀ c, c < n → P (τ1 249 (90 + 3 * c + 1)) := h.2.2.2.2.2.2.2
theorem Dn.mk {nc n : Nat} {P : Int32 → Prop} {σ τ σ1 τ1 : St} (fr : ∀ k, k ≠ 18 → σ1 k = σ k) (fx : ∀ k, k ≠ 249 → τ1 k = τ k) (c0 : ∀ q, (q < 90 ∨ 105 ≤ q) → τ1 249 q = τ 249 q) (c1 : ∀ c, c < 5 → τ1 249 (90 + 3 * c) = τ 249 (90 + 3 * c)) (c2 : ∀ c, c < 5 → τ1 249 (90 + 3 * c + 2) = τ 249 (90 + 3 * c + 2)) (a : ∀ c, c < nc → σ1 18 c = mm (τ1 249 (90 + 3 * c + 1))) (o : ∀ c, c < nc → τ1 249 (90 + 3 * c + 1) = τ 249 (90 + 3 * c + 1) ∨ τ1 249 (90 + 3 * c + 1) = 0) (d : ∀ c, c < n → P (τ1 249 (90 + 3 * c + 1))) : Dn nc n P σ τ σ1 τ1 := ⟨fr, fx, c0, c1, c2, a, o, d⟩
theorem Dn.start {nc : Nat} {P : Int32 → Prop} {σ τ : St} (ha : ∀ c, c < nc → σ 18 c = mm (τ 249 (90 + 3 * c + 1))) : Dn nc 0 P σ τ σ τ :=
  ⟨fun _ _ => rfl, fun _ _ => rfl, fun _ _ => rfl, fun _ _ => rfl, fun _ _ => rfl, ha, fun _ _ => Or.inl rfl, fun c hc => by omega⟩
theorem Dn.step {nc n : Nat} {P : Int32 → Prop} {σ τ σ1 τ1 : St} (h : Dn nc n P σ τ σ1 τ1) (hn : n < nc) (hc5 : nc ≤ 5) (h0 : P 0) : Dn nc (n + 1) P σ τ (u2 σ1 18 n (-4)) (u2 τ1 249 (90 + 3 * n + 1) 0) := by
  refine ⟨fun k hk => by rw [u2_ne hk]; exact h.fr k hk, fun k hk => by rw [u2_ne hk]; exact h.fx k hk, fun q hq => by rw [u2_same (by omega)]; exact h.c0 q hq, fun c hc => by rw [u2_same (by omega)]; exact h.c1 c hc, fun c hc => by rw [u2_same (by omega)]; exact h.c2 c hc, fun c hc => ?_, fun c hc => ?_, fun c hc => ?_⟩
  · by_cases e : c = n
    · rw [e, u2_self, u2_self, mm_z]
    · rw [u2_same e, u2_same (by omega)]; exact h.a c hc
  · by_cases e : c = n
    · rw [e, u2_self]; exact Or.inr rfl
    · rw [u2_same (by omega)]; exact h.o c hc
  · by_cases e : c = n
    · rw [e, u2_self]; exact h0
    · rw [u2_same (by omega)]; exact h.d c (by omega)
theorem Dn.skip {nc n : Nat} {P : Int32 → Prop} {σ τ σ1 τ1 : St} (h : Dn nc n P σ τ σ1 τ1) (h0 : P (τ1 249 (90 + 3 * n + 1))) : Dn nc (n + 1) P σ τ σ1 τ1 :=
  ⟨h.fr, h.fx, h.c0, h.c1, h.c2, h.a, h.o, fun c hc => by
    by_cases e : c = n
    · rw [e]; exact h0
    · exact h.d c (by omega)⟩
theorem allDown {σ τ : St} {nc : Nat} (hc5 : nc ≤ 5) (h1 : σ 16 3 = Int32.ofNat nc) (h2 : τ 249 4 = Int32.ofNat nc) (ha : ∀ c, c < nc → σ 18 c = mm (τ 249 (90 + 3 * c + 1))) {p : Int32} (v : Int32) (hp : ¬ p < 3) : ∃ σ1 τ1, M_X1_allComeDown σ (5 + 11) = some (σ1, 0) ∧ B_X11_signals_29 FU τ 248 p v 0 = some (u2 τ1 248 17 v, 0) ∧ Dn nc nc (fun x => x = 0) σ τ σ1 τ1 := by
  refine two (F := fun n a x => B_X1_allComeDown_2 n a (5 + 11) x) (G := fun n a x => B_X11_signals_29 n a 248 p v x) (I := fun q a b => Dn nc q (fun x => x = 0) σ τ a b) (P := fun x y => ∃ σ1 τ1, x = some (σ1, 0) ∧ y = some (u2 τ1 248 17 v, 0) ∧ Dn nc nc (fun x => x = 0) σ τ σ1 τ1) (N := nc) ?_ ?_ nc 0 FU FU σ τ (by omega) (FU_lt (by omega)) (FU_lt (by omega)) (Dn.start ha)
  · intro n m σ1 τ1 D
    have e1 : σ1 (5 + 11) 3 = Int32.ofNat nc := by rw [D.fr _ (by decide)]; exact h1
    have e2 : τ1 249 4 = Int32.ofNat nc := by rw [D.c0 4 (by omega)]; exact h2
    refine ⟨σ1, τ1, ?_, ?_, D⟩
    · simp (disch := omega) only [B_X1_allComeDown_2, e1, oN_leT, ↓reduceIte]
    · simp (disch := omega) only [B_X11_signals_29, x_ldl, e2, oN_leT, ↓reduceIte, M_X11_does, bput_eq, bcall_some]
  · intro n m j σ1 τ1 hj D
    have e1 : σ1 (5 + 11) 3 = Int32.ofNat nc := by rw [D.fr _ (by decide)]; exact h1
    have e2 : τ1 249 4 = Int32.ofNat nc := by rw [D.c0 4 (by omega)]; exact h2
    refine Or.inr ⟨_, _, ?_, ?_, D.step hj hc5 rfl⟩
    · simp (disch := omega) only [B_X1_allComeDown_2, e1, oN_leF, ↓reduceIte, M_X1_moveTo, put_13 B5, bcall_some, blet_eq, oN_al]
    · simp (disch := omega) only [B_X11_signals_29, x_ldl, e2, oN_leF, hp, ↓reduceIte, oN_lm, oN_la, oN_al, x_stt, blet_eq]
theorem someDown {σ τ : St} {nc s : Nat} (hc5 : nc ≤ 5) (hs : s < 10) (h1 : σ 16 3 = Int32.ofNat nc) (h2 : τ 249 4 = Int32.ofNat nc) (ha : ∀ c, c < nc → σ 18 c = mm (τ 249 (90 + 3 * c + 1))) (hg : ∀ c, c < nc → ∃ g, g ≤ 10 ∧ τ 249 (90 + 3 * c + 1) = Int32.ofNat g) : ∃ σ1 τ1, M_X1_comeDownFrom σ (5 + 11) (Int32.ofNat s) = some (σ1, 0) ∧ B_X11_inspects_120 FU τ 248 (Int32.ofNat s) 0 = some (u2 τ1 248 17 1, 0) ∧ Dn nc nc (fun x => x ≠ Int32.ofNat (s + 1)) σ τ σ1 τ1 := by
  refine two (F := fun n a x => B_X1_comeDownFrom_2 n a (5 + 11) (Int32.ofNat s) x) (G := fun n a x => B_X11_inspects_120 n a 248 (Int32.ofNat s) x) (I := fun q a b => Dn nc q (fun x => x ≠ Int32.ofNat (s + 1)) σ τ a b) (P := fun x y => ∃ σ1 τ1, x = some (σ1, 0) ∧ y = some (u2 τ1 248 17 1, 0) ∧ Dn nc nc (fun x => x ≠ Int32.ofNat (s + 1)) σ τ σ1 τ1) (N := nc) ?_ ?_ nc 0 FU FU σ τ (by omega) (FU_lt (by omega)) (FU_lt (by omega)) (Dn.start ha)
  · intro n m σ1 τ1 D
    have e1 : σ1 (5 + 11) 3 = Int32.ofNat nc := by rw [D.fr _ (by decide)]; exact h1
    have e2 : τ1 249 4 = Int32.ofNat nc := by rw [D.c0 4 (by omega)]; exact h2
    refine ⟨σ1, τ1, ?_, ?_, D⟩
    · simp (disch := omega) only [B_X1_comeDownFrom_2, e1, oN_leT, ↓reduceIte]
    · simp (disch := omega) only [B_X11_inspects_120, x_ldl, e2, oN_leT, ↓reduceIte, M_X11_does, bput_eq, bcall_some]
  · intro n m j σ1 τ1 hj D
    have e1 : σ1 (5 + 11) 3 = Int32.ofNat nc := by rw [D.fr _ (by decide)]; exact h1
    have e2 : τ1 249 4 = Int32.ofNat nc := by rw [D.c0 4 (by omega)]; exact h2
    have e3 : σ1 (5 + 13) j = mm (τ1 249 (90 + 3 * j + 1)) := D.a j hj
    have e4 : ∃ g, g ≤ 10 ∧ τ1 249 (90 + 3 * j + 1) = Int32.ofNat g := by
      rcases D.o j hj with q | q
      · rw [q]; exact hg j hj
      · exact ⟨0, by omega, q⟩
    obtain ⟨g, hg10, e5⟩ := e4
    rw [e5] at e3
    by_cases cg : g = s + 1
    · subst cg
      rw [mm_s (by omega)] at e3
      refine Or.inr ⟨_, _, ?_, ?_, D.step hj hc5 (z_ne (by omega))⟩
      · simp (disch := omega) only [B_X1_comeDownFrom_2, e1, oN_leF, ↓reduceIte, M_X1_placeOf, at_13 B5, e3, eq_self, M_X1_moveTo, put_13 B5, bcall_some, blet_eq, oN_al]
      · simp (disch := omega) only [B_X11_inspects_120, x_ldl, e2, oN_leF, x_where, e5, oN_s1, eq_self, ↓reduceIte, oN_lm, oN_la, oN_al, x_stt, blet_eq, bcall_some]
    · have k1 : (mm (Int32.ofNat g) = Int32.ofNat s) = False := by
        rcases g with _ | g
        · rw [mm_0]; exact m4_ne (by omega)
        · rw [mm_s (by omega)]; exact oN_eqF (by omega) (by omega) (by omega)
      have k2 : (Int32.ofNat g - 1 = Int32.ofNat s) = False := by
        rcases g with _ | g
        · rw [oN_z1]; exact m1_ne (by omega)
        · rw [oN_s1]; exact oN_eqF (by omega) (by omega) (by omega)
      refine Or.inr ⟨_, _, ?_, ?_, D.skip (by rw [e5]; exact fun q => cg ((oN_eq (by omega) (by omega)).mp q))⟩
      · simp (disch := omega) only [B_X1_comeDownFrom_2, e1, oN_leF, ↓reduceIte, M_X1_placeOf, at_13 B5, e3, k1, bcall_some, blet_eq, oN_al]
      · simp (disch := omega) only [B_X11_inspects_120, x_ldl, e2, oN_leF, x_where, e5, k2, ↓reduceIte, oN_al, blet_eq, bcall_some]
theorem noDown {σ : St} {nc s : Nat} (hc5 : nc ≤ 5) (h1 : σ 16 3 = Int32.ofNat nc) (hn : ∀ c, c < nc → (σ 18 c = Int32.ofNat s) = False) : M_X1_comeDownFrom σ (5 + 11) (Int32.ofNat s) = some (σ, 0) := by
  refine one (F := fun n (_ : Unit) x => B_X1_comeDownFrom_2 n σ (5 + 11) (Int32.ofNat s) x) (I := fun _ _ => True) (P := fun x => x = some (σ, 0)) (N := nc) ?_ ?_ nc 0 FU () (by omega) (FU_lt (by omega)) trivial
  · intro n _ _
    have e1 : σ (5 + 11) 3 = Int32.ofNat nc := h1
    simp (disch := omega) only [B_X1_comeDownFrom_2, e1, oN_leT, ↓reduceIte]
  · intro n j _ hj _
    have e1 : σ (5 + 11) 3 = Int32.ofNat nc := h1
    have e3 : (σ (5 + 13) j = Int32.ofNat s) = False := hn j hj
    refine Or.inr ⟨(), ?_, trivial⟩
    simp (disch := omega) only [B_X1_comeDownFrom_2, e1, oN_leF, ↓reduceIte, M_X1_placeOf, at_13 B5, e3, bcall_some, blet_eq, oN_al]
theorem O_signal {σ τ : St} {nb ns nc ni : Nat} (r : RS σ 5 (τ 249) nb ns nc ni) (i : Iv (τ 249) nb ns nc ni) (p : Int32) : Opx σ τ (M_X8_changeSignal σ 1 p) (M_X11_signals τ 248 p) := by
  have hb8 := i.hb; have hs10 := i.hs; have hc5 := i.hc; have hi3 := i.hi
  unfold M_X8_changeSignal M_X11_signals
  simp only [show (1 : Nat) + 4 = 5 from rfl, show (1 : Nat) + 1 = 2 from rfl]
  rcases in_pair (σ := σ) (τ := τ) p 0 10 with ⟨e1, e2, _⟩ | ⟨e1, e2, l1, u1⟩
  · simp only [e1, e2, bcall_some, ↓reduceIte, i10]
    exact Or.inl ⟨-2, Or.inr rfl, rfl, rfl⟩
  obtain ⟨g, gl, gu, rfl⟩ := rng (m := 0) (n := 10) (by decide) (by decide) l1 u1
  by_cases cw : g < 3
  · have es : B_X11_signals_29 FU (u2 τ 249 1 (Int32.ofNat g)) 248 (Int32.ofNat g) (τ 249 1) 0 = some (u2 (u2 τ 249 1 (Int32.ofNat g)) 248 17 (τ 249 1), 0) := by
      obtain ⟨n, hn⟩ : ∃ n, FU = n + 1 := ⟨999, rfl⟩
      rw [hn]
      show B_X11_signals_29 (n + 1) (u2 τ 249 1 (Int32.ofNat g)) 248 (Int32.ofNat g) (τ 249 1) (Int32.ofNat 0) = _
      by_cases c0 : nc = 0
      · subst c0
        simp (disch := omega) only [B_X11_signals_29, x_ldl, u2_same, i.cc, oN_leT, ↓reduceIte, M_X11_does, bput_eq, bcall_some]
      · simp (disch := omega) only [B_X11_signals_29, x_ldl, u2_same, i.cc, oN_leF, oN_ltTl, ↓reduceIte, M_X11_does, bput_eq, bcall_some]
    obtain ⟨v, hv, ev⟩ := i.sg
    simp (disch := omega) only [e1, e2, M_X7_isWarned, es, bcall_some, blet_eq, bput_eq, at_2 (RS.B r), at_3 (RS.B r), at_5 (RS.B r), at_6 (RS.B r), at_7 (RS.B r), at_8 (RS.B r), at_9 (RS.B r), at_10 (RS.B r), at_12 (RS.B r), at_13 (RS.B r), at_14 (RS.B r), at_16 (RS.B r), at_17 (RS.B r), put_2 (RS.B r), put_3 (RS.B r), put_5 (RS.B r), put_6 (RS.B r), put_7 (RS.B r), put_8 (RS.B r), put_9 (RS.B r), put_10 (RS.B r), put_12 (RS.B r), put_13 (RS.B r), put_14 (RS.B r), put_16 (RS.B r), put_17 (RS.B r), x_ofl, x_of, x_setsl, x_sets, x_ld, x_ldl, x_stt, x_stl, x_where, oN_al, oN_la, oN_lm, u2_ne, u2_same, u2_self, (RS.cb r), (RS.cs r), (RS.cc r), (RS.ci r), (Iv.cb i), (Iv.cs i), (Iv.cc i), (Iv.ci i), (RS.a2 r), (RS.a3 r), (RS.a5 r), (RS.a6 r), (RS.a7 r), (RS.a8 r), (RS.a9 r), (RS.a10 r), (RS.a12 r), (RS.a13 r), (RS.a14 r), (RS.a16 r), (RS.a17 r), (RS.f4 r), (RS.f5 r), (RS.f6 r), (RS.f7 r), (RS.f8 r), (RS.f9 r), (RS.f10 r), (RS.f11 r), (RS.f12 r), (RS.f13 r), oN_leT, oN_leF, oN_ltT, oN_ltF, oN_leTl, oN_leFl, oN_ltTl, oN_ltFl, oN_lleT, oN_lleF, oN_lltT, oN_lltF, oN_m4, oN_nn, oN_nn2, mm_0, mm_s, oN_s1, oN_z1, m1_neg, m1_nn, m4_neg, i10, ↓reduceIte, if_true, if_false]
    exact Opx.ok (by rw [ev]; exact of_eq_true (oN_nn2 (by omega))) ⟨nb, ns, nc, ni, rs_f5 r i _, iv_sg i ⟨g, gu, rfl⟩ (fun q => by
      have q2 : Int32.ofNat 3 ≤ Int32.ofNat g := q
      rw [oN_le (by omega) (by omega)] at q2
      omega)⟩ (fun k hk => by simp (disch := omega) only [u2_ne]) (fun k hk => by simp (disch := omega) only [u2_ne])
  · obtain ⟨v, hv, ev⟩ := i.sg
    obtain ⟨σ1, τ1, d1, d2, D⟩ := allDown (σ := u2 σ 5 5 (Int32.ofNat g)) (τ := u2 τ 249 1 (Int32.ofNat g)) (p := Int32.ofNat g) hc5 (by rw [u2_ne (by decide)]; exact r.cc) (by rw [u2_same (by decide)]; exact i.cc) (fun c hc => by rw [u2_ne (by decide), u2_same (by omega)]; exact r.a13 c hc) (τ 249 1) (by
      have q3 : (Int32.ofNat g < (3 : Int32)) = False := oN_ltFl (by omega) (by show 3 ≤ g; omega)
      rw [q3]; exact fun z => z)
    simp (disch := omega) only [e1, e2, M_X7_isWarned, d1, d2, bcall_some, blet_eq, bput_eq, at_2 (RS.B r), at_3 (RS.B r), at_5 (RS.B r), at_6 (RS.B r), at_7 (RS.B r), at_8 (RS.B r), at_9 (RS.B r), at_10 (RS.B r), at_12 (RS.B r), at_13 (RS.B r), at_14 (RS.B r), at_16 (RS.B r), at_17 (RS.B r), put_2 (RS.B r), put_3 (RS.B r), put_5 (RS.B r), put_6 (RS.B r), put_7 (RS.B r), put_8 (RS.B r), put_9 (RS.B r), put_10 (RS.B r), put_12 (RS.B r), put_13 (RS.B r), put_14 (RS.B r), put_16 (RS.B r), put_17 (RS.B r), x_ofl, x_of, x_setsl, x_sets, x_ld, x_ldl, x_stt, x_stl, x_where, oN_al, oN_la, oN_lm, u2_ne, u2_same, u2_self, (RS.cb r), (RS.cs r), (RS.cc r), (RS.ci r), (Iv.cb i), (Iv.cs i), (Iv.cc i), (Iv.ci i), (RS.a2 r), (RS.a3 r), (RS.a5 r), (RS.a6 r), (RS.a7 r), (RS.a8 r), (RS.a9 r), (RS.a10 r), (RS.a12 r), (RS.a13 r), (RS.a14 r), (RS.a16 r), (RS.a17 r), (RS.f4 r), (RS.f5 r), (RS.f6 r), (RS.f7 r), (RS.f8 r), (RS.f9 r), (RS.f10 r), (RS.f11 r), (RS.f12 r), (RS.f13 r), oN_leT, oN_leF, oN_ltT, oN_ltF, oN_leTl, oN_leFl, oN_ltTl, oN_ltFl, oN_lleT, oN_lleF, oN_lltT, oN_lltF, oN_m4, oN_nn, oN_nn2, mm_0, mm_s, oN_s1, oN_z1, m1_neg, m1_nn, m4_neg, i10, ↓reduceIte, if_true, if_false]
    refine Opx.ok (by rw [ev]; exact of_eq_true (oN_nn2 (by omega))) ⟨nb, ns, nc, ni, ?_, ?_⟩ (fun k hk => by rw [D.fr k (by omega), u2_ne (by omega)]) (fun k hk => by rw [D.fx k hk, u2_ne hk])
    · apply RS.mk
      exact B5
      all_goals first | (simp (disch := omega) only [D.fr, D.c0, D.c1, D.c2, D.a, u2_ne, u2_same, u2_self, mm_z, (RS.f4 r), (RS.f5 r), (RS.f6 r), (RS.f7 r), (RS.f8 r), (RS.f9 r), (RS.f10 r), (RS.f11 r), (RS.f12 r), (RS.f13 r), (RS.cb r), (RS.cs r), (RS.cc r), (RS.ci r), (RS.a2 r), (RS.a3 r), (RS.a5 r), (RS.a6 r), (RS.a7 r), (RS.a8 r), (RS.a9 r), (RS.a10 r), (RS.a12 r), (RS.a13 r), (RS.a14 r), (RS.a16 r), (RS.a17 r)]; done) | (intro z9 h9; simp (disch := omega) only [D.fr, D.c0, D.c1, D.c2, D.a, u2_ne, u2_same, u2_self, mm_z, (RS.f4 r), (RS.f5 r), (RS.f6 r), (RS.f7 r), (RS.f8 r), (RS.f9 r), (RS.f10 r), (RS.f11 r), (RS.f12 r), (RS.f13 r), (RS.cb r), (RS.cs r), (RS.cc r), (RS.ci r), (RS.a2 r), (RS.a3 r), (RS.a5 r), (RS.a6 r), (RS.a7 r), (RS.a8 r), (RS.a9 r), (RS.a10 r), (RS.a12 r), (RS.a13 r), (RS.a14 r), (RS.a16 r), (RS.a17 r)]; done)
    · apply Iv.mk
      · omega
      · omega
      · omega
      · omega
      · simp (disch := omega) only [D.c0, D.c1, D.c2, u2_same, u2_self]; exact i.cb
      · simp (disch := omega) only [D.c0, D.c1, D.c2, u2_same, u2_self]; exact i.cs
      · simp (disch := omega) only [D.c0, D.c1, D.c2, u2_same, u2_self]; exact i.cc
      · simp (disch := omega) only [D.c0, D.c1, D.c2, u2_same, u2_self]; exact i.ci
      · simp (disch := omega) only [D.c0, D.c1, D.c2, u2_same, u2_self]; exact ⟨g, gu, rfl⟩
      · simp (disch := omega) only [D.c0, D.c1, D.c2, u2_same, u2_self]; exact i.st
      · simp (disch := omega) only [D.c0, D.c1, D.c2, u2_same, u2_self]; exact i.tu
      · intro j hj; simp (disch := omega) only [D.c0, D.c1, D.c2, u2_same, u2_self]; exact i.ba j hj
      · intro j hj; simp (disch := omega) only [D.c0, D.c1, D.c2, u2_same, u2_self]; exact i.sp j hj
      · intro j hj; simp (disch := omega) only [D.c0, D.c1, D.c2, u2_same, u2_self]; exact i.sw j hj
      · intro j hj; simp (disch := omega) only [D.c0, D.c1, D.c2, u2_same, u2_self]; exact i.tt j hj
      · intro j hj; simp (disch := omega) only [D.c0, D.c1, D.c2, u2_same, u2_self]; exact i.sh j hj
      · intro j hj; simp (disch := omega) only [D.c0, D.c1, D.c2, u2_same, u2_self]; exact i.sl j hj
      · intro j hj; simp (disch := omega) only [D.c0, D.c1, D.c2, u2_same, u2_self]; exact i.su j hj
      · intro j hj; simp (disch := omega) only [D.c0, D.c1, D.c2, u2_same, u2_self]; exact i.ck j hj
      · intro c hc; rw [D.d c hc]; exact ⟨0, by omega, rfl⟩
      · intro j hj; simp (disch := omega) only [D.c0, D.c1, D.c2, u2_same, u2_self]; exact i.nn j hj
      · intro _ c hc; exact D.d c hc
      · intro j c hj hc _; rw [D.d c hc]; exact z_ne (by omega)
theorem Q_signal {σ τ : St} (h : Co σ τ) (p : Int32) : Pair σ τ (M_X10_signal σ 0 p) (M_X11_signal τ 248 p) (fun v w => v = w) := by
  unfold M_X10_signal M_X11_signal
  simp only [Nat.zero_add]
  exact chg h (fun s => M_X8_changeSignal s 1 p) _ (fun σ τ h => by
    obtain ⟨nb, ns, nc, ni, r, i⟩ := h.now
    exact (O_signal r i p).toK)
theorem O_inspect {σ τ : St} {nb ns nc ni : Nat} (r : RS σ 5 (τ 249) nb ns nc ni) (i : Iv (τ 249) nb ns nc ni) (p q : Int32) : Opx σ τ (M_X8_lookAt σ 1 p q) (M_X11_inspects τ 248 p q) := by
  have hb8 := i.hb; have hs10 := i.hs; have hc5 := i.hc; have hi3 := i.hi
  unfold M_X8_lookAt M_X11_inspects
  simp only [show (1 : Nat) + 4 = 5 from rfl, show (1 : Nat) + 1 = 2 from rfl]
  rcases h_ins r i p with ⟨e1, e2⟩ | ⟨j, hj0, rfl, e1, e2⟩
  · simp only [e1, e2, bcall_some, ↓reduceIte, i10]
    exact Or.inl ⟨-1, Or.inl rfl, rfl, rfl⟩
  rcases h_sto r i q with ⟨e3, e4⟩ | ⟨s, hs, rfl, e3, e4⟩
  · simp only [e1, e2, e3, e4, bcall_some, ↓reduceIte, i10]
    exact Or.inl ⟨-1, Or.inl rfl, rfl, rfl⟩
  by_cases cw : τ 249 1 < 3
  · by_cases cb : (20 : Int32) < τ 249 (30 + 6 * s + 2) + τ 249 (105 + 2 * j)
    · obtain ⟨u, hu, eu⟩ := i.su s hs
      rcases u with _ | u
      · obtain ⟨σ1, τ1, d1, d2, D⟩ := someDown (σ := u2 σ (5 + 10) s (Int32.ofNat j)) (τ := u2 (u2 (u2 τ 249 (105 + 2 * j + 1) (τ 249 (105 + 2 * j + 1) + 1)) 249 8 (τ 249 8 + τ 249 (105 + 2 * j))) 249 (30 + 6 * s + 5) (Int32.ofNat (j + 1))) (s := s) hc5 (by omega) (by rw [u2_ne (by decide)]; exact r.cc) (by simp (disch := omega) only [u2_same]; exact i.cc) (fun c hc => by simp (disch := omega) only [u2_ne, u2_same]; exact r.a13 c hc) (fun c hc => by
          simp (disch := omega) only [u2_same]
          obtain ⟨v, hv, ev⟩ := i.cp c hc
          exact ⟨v, by omega, ev⟩)
        simp (disch := omega) only [e1, e2, e3, e4, cw, cb, eu, M_X7_isWarned, M_X3_noseOf, M_X9_tieOf, M_X9_isShut, M_X9_shutterOf, M_X9_shut, B_X8_lookAt_114, i44, d1, d2, M_X3_addFind, M_X3_findsOf, D.fr, show (Int32.ofNat 0 = (0 : Int32)) = True from eq_true rfl, bcall_some, blet_eq, bput_eq, at_2 (RS.B r), at_3 (RS.B r), at_5 (RS.B r), at_6 (RS.B r), at_7 (RS.B r), at_8 (RS.B r), at_9 (RS.B r), at_10 (RS.B r), at_12 (RS.B r), at_13 (RS.B r), at_14 (RS.B r), at_16 (RS.B r), at_17 (RS.B r), put_2 (RS.B r), put_3 (RS.B r), put_5 (RS.B r), put_6 (RS.B r), put_7 (RS.B r), put_8 (RS.B r), put_9 (RS.B r), put_10 (RS.B r), put_12 (RS.B r), put_13 (RS.B r), put_14 (RS.B r), put_16 (RS.B r), put_17 (RS.B r), x_ofl, x_of, x_setsl, x_sets, x_ld, x_ldl, x_stt, x_stl, x_where, oN_al, oN_la, oN_lm, u2_ne, u2_same, u2_self, (RS.cb r), (RS.cs r), (RS.cc r), (RS.ci r), (Iv.cb i), (Iv.cs i), (Iv.cc i), (Iv.ci i), (RS.a2 r), (RS.a3 r), (RS.a5 r), (RS.a6 r), (RS.a7 r), (RS.a8 r), (RS.a9 r), (RS.a10 r), (RS.a12 r), (RS.a13 r), (RS.a14 r), (RS.a16 r), (RS.a17 r), (RS.f4 r), (RS.f5 r), (RS.f6 r), (RS.f7 r), (RS.f8 r), (RS.f9 r), (RS.f10 r), (RS.f11 r), (RS.f12 r), (RS.f13 r), oN_leT, oN_leF, oN_ltT, oN_ltF, oN_leTl, oN_leFl, oN_ltTl, oN_ltFl, oN_lleT, oN_lleF, oN_lltT, oN_lltF, oN_m4, oN_nn, oN_nn2, mm_0, mm_s, oN_s1, oN_z1, m1_neg, m1_nn, m4_neg, i10, ↓reduceIte, if_true, if_false]
        refine Opx.ok (by decide) ⟨nb, ns, nc, ni, ?_, ?_⟩ (fun k hk => by rw [u2_ne (by omega), u2_ne (by omega), D.fr k (by omega), u2_ne (by omega)]) (fun k hk => by rw [D.fx k hk, u2_ne hk, u2_ne hk, u2_ne hk])
        · apply RS.mk
          exact B5
          all_goals first | (simp (disch := omega) only [D.fr, D.c0, D.c1, D.c2, D.a, mm_s, u2_ne, u2_same, u2_self, mm_z, (RS.f4 r), (RS.f5 r), (RS.f6 r), (RS.f7 r), (RS.f8 r), (RS.f9 r), (RS.f10 r), (RS.f11 r), (RS.f12 r), (RS.f13 r), (RS.cb r), (RS.cs r), (RS.cc r), (RS.ci r), (RS.a2 r), (RS.a3 r), (RS.a5 r), (RS.a6 r), (RS.a7 r), (RS.a8 r), (RS.a9 r), (RS.a10 r), (RS.a12 r), (RS.a13 r), (RS.a14 r), (RS.a16 r), (RS.a17 r)]; done) | (intro z9 h9; simp (disch := omega) only [D.fr, D.c0, D.c1, D.c2, D.a, mm_s, u2_ne, u2_same, u2_self, mm_z, (RS.f4 r), (RS.f5 r), (RS.f6 r), (RS.f7 r), (RS.f8 r), (RS.f9 r), (RS.f10 r), (RS.f11 r), (RS.f12 r), (RS.f13 r), (RS.cb r), (RS.cs r), (RS.cc r), (RS.ci r), (RS.a2 r), (RS.a3 r), (RS.a5 r), (RS.a6 r), (RS.a7 r), (RS.a8 r), (RS.a9 r), (RS.a10 r), (RS.a12 r), (RS.a13 r), (RS.a14 r), (RS.a16 r), (RS.a17 r)]; done) | (intro z9 h9; by_cases e : z9 = s <;> first | (rw [e]; simp (disch := omega) only [D.fr, D.c0, D.c1, D.c2, D.a, mm_s, u2_ne, u2_same, u2_self, mm_z, (RS.f4 r), (RS.f5 r), (RS.f6 r), (RS.f7 r), (RS.f8 r), (RS.f9 r), (RS.f10 r), (RS.f11 r), (RS.f12 r), (RS.f13 r), (RS.cb r), (RS.cs r), (RS.cc r), (RS.ci r), (RS.a2 r), (RS.a3 r), (RS.a5 r), (RS.a6 r), (RS.a7 r), (RS.a8 r), (RS.a9 r), (RS.a10 r), (RS.a12 r), (RS.a13 r), (RS.a14 r), (RS.a16 r), (RS.a17 r)]; done) | (simp (disch := omega) only [D.fr, D.c0, D.c1, D.c2, D.a, mm_s, u2_ne, u2_same, u2_self, mm_z, (RS.f4 r), (RS.f5 r), (RS.f6 r), (RS.f7 r), (RS.f8 r), (RS.f9 r), (RS.f10 r), (RS.f11 r), (RS.f12 r), (RS.f13 r), (RS.cb r), (RS.cs r), (RS.cc r), (RS.ci r), (RS.a2 r), (RS.a3 r), (RS.a5 r), (RS.a6 r), (RS.a7 r), (RS.a8 r), (RS.a9 r), (RS.a10 r), (RS.a12 r), (RS.a13 r), (RS.a14 r), (RS.a16 r), (RS.a17 r)]; done)) | (intro z9 h9; by_cases e : z9 = j <;> first | (rw [e]; simp (disch := omega) only [D.fr, D.c0, D.c1, D.c2, D.a, mm_s, u2_ne, u2_same, u2_self, mm_z, (RS.f4 r), (RS.f5 r), (RS.f6 r), (RS.f7 r), (RS.f8 r), (RS.f9 r), (RS.f10 r), (RS.f11 r), (RS.f12 r), (RS.f13 r), (RS.cb r), (RS.cs r), (RS.cc r), (RS.ci r), (RS.a2 r), (RS.a3 r), (RS.a5 r), (RS.a6 r), (RS.a7 r), (RS.a8 r), (RS.a9 r), (RS.a10 r), (RS.a12 r), (RS.a13 r), (RS.a14 r), (RS.a16 r), (RS.a17 r)]; done) | (simp (disch := omega) only [D.fr, D.c0, D.c1, D.c2, D.a, mm_s, u2_ne, u2_same, u2_self, mm_z, (RS.f4 r), (RS.f5 r), (RS.f6 r), (RS.f7 r), (RS.f8 r), (RS.f9 r), (RS.f10 r), (RS.f11 r), (RS.f12 r), (RS.f13 r), (RS.cb r), (RS.cs r), (RS.cc r), (RS.ci r), (RS.a2 r), (RS.a3 r), (RS.a5 r), (RS.a6 r), (RS.a7 r), (RS.a8 r), (RS.a9 r), (RS.a10 r), (RS.a12 r), (RS.a13 r), (RS.a14 r), (RS.a16 r), (RS.a17 r)]; done))
        · apply Iv.mk
          · omega
          · omega
          · omega
          · omega
          · simp (disch := omega) only [D.c0, D.c1, D.c2, u2_same, u2_self]; exact i.cb
          · simp (disch := omega) only [D.c0, D.c1, D.c2, u2_same, u2_self]; exact i.cs
          · simp (disch := omega) only [D.c0, D.c1, D.c2, u2_same, u2_self]; exact i.cc
          · simp (disch := omega) only [D.c0, D.c1, D.c2, u2_same, u2_self]; exact i.ci
          · simp (disch := omega) only [D.c0, D.c1, D.c2, u2_same, u2_self]; exact i.sg
          · simp (disch := omega) only [D.c0, D.c1, D.c2, u2_same, u2_self]; exact i.st
          · simp (disch := omega) only [D.c0, D.c1, D.c2, u2_same, u2_self]; exact i.tu
          · intro j hj; simp (disch := omega) only [D.c0, D.c1, D.c2, u2_same, u2_self]; exact i.ba j hj
          · intro j hj; simp (disch := omega) only [D.c0, D.c1, D.c2, u2_same, u2_self]; exact i.sp j hj
          · intro j hj; simp (disch := omega) only [D.c0, D.c1, D.c2, u2_same, u2_self]; exact i.sw j hj
          · intro j hj; simp (disch := omega) only [D.c0, D.c1, D.c2, u2_same, u2_self]; exact i.tt j hj
          · intro j hj; simp (disch := omega) only [D.c0, D.c1, D.c2, u2_same, u2_self]; exact i.sh j hj
          · intro j hj; simp (disch := omega) only [D.c0, D.c1, D.c2, u2_same, u2_self]; exact i.sl j hj
          · intro k hk
            by_cases e : k = s
            · rw [e]; simp (disch := omega) only [D.c0, D.c1, D.c2, u2_same, u2_self]; exact ⟨j + 1, by omega, rfl⟩
            · simp (disch := omega) only [D.c0, D.c1, D.c2, u2_same, u2_self]; exact i.su k hk
          · intro j hj; simp (disch := omega) only [D.c0, D.c1, D.c2, u2_same, u2_self]; exact i.ck j hj
          · intro c hc
            rcases D.o c hc with z | z
            · rw [z]; simp (disch := omega) only [u2_same]; exact i.cp c hc
            · rw [z]; exact ⟨0, by omega, rfl⟩
          · intro j hj; simp (disch := omega) only [D.c0, D.c1, D.c2, u2_same, u2_self]; exact i.nn j hj
          · intro g2 c hc
            simp (disch := omega) only [D.c0, u2_same] at g2
            exact absurd cw (Int32.not_lt.mpr g2)
          · intro k c hk hc g2
            by_cases e : k = s
            · rw [e]; exact D.d c hc
            · simp (disch := omega) only [D.c0, u2_same] at g2
              rcases D.o c hc with z | z
              · rw [z]; simp (disch := omega) only [u2_same]; exact i.nc0 k c hk hc g2
              · rw [z]; exact z_ne (by omega)
      · have d1 : M_X1_comeDownFrom σ (5 + 11) (Int32.ofNat s) = some (σ, 0) := noDown hc5 r.cc (fun c hc => by
          have z1 := i.nc0 s c hs hc (by rw [eu]; exact (z_ne (a := u) (by omega)).symm)
          obtain ⟨v, hv, ev⟩ := i.cp c hc
          have z2 := r.a13 c hc
          rw [show σ 18 c = _ from z2, ev]
          rw [ev] at z1
          rcases v with _ | v
          · rw [mm_0]; exact m4_ne (by omega)
          · rw [mm_s (by omega)]
            exact oN_eqF (by omega) (by omega) (fun z3 => z1 (by rw [z3])))
        simp (disch := omega) only [e1, e2, e3, e4, cw, cb, eu, M_X7_isWarned, M_X3_noseOf, M_X9_tieOf, M_X9_isShut, M_X9_shutterOf, B_X8_lookAt_114, d1, M_X3_addFind, M_X3_findsOf, M_X11_does, oN_eqFl, bcall_some, blet_eq, bput_eq, at_2 (RS.B r), at_3 (RS.B r), at_5 (RS.B r), at_6 (RS.B r), at_7 (RS.B r), at_8 (RS.B r), at_9 (RS.B r), at_10 (RS.B r), at_12 (RS.B r), at_13 (RS.B r), at_14 (RS.B r), at_16 (RS.B r), at_17 (RS.B r), put_2 (RS.B r), put_3 (RS.B r), put_5 (RS.B r), put_6 (RS.B r), put_7 (RS.B r), put_8 (RS.B r), put_9 (RS.B r), put_10 (RS.B r), put_12 (RS.B r), put_13 (RS.B r), put_14 (RS.B r), put_16 (RS.B r), put_17 (RS.B r), x_ofl, x_of, x_setsl, x_sets, x_ld, x_ldl, x_stt, x_stl, x_where, oN_al, oN_la, oN_lm, u2_ne, u2_same, u2_self, (RS.cb r), (RS.cs r), (RS.cc r), (RS.ci r), (Iv.cb i), (Iv.cs i), (Iv.cc i), (Iv.ci i), (RS.a2 r), (RS.a3 r), (RS.a5 r), (RS.a6 r), (RS.a7 r), (RS.a8 r), (RS.a9 r), (RS.a10 r), (RS.a12 r), (RS.a13 r), (RS.a14 r), (RS.a16 r), (RS.a17 r), (RS.f4 r), (RS.f5 r), (RS.f6 r), (RS.f7 r), (RS.f8 r), (RS.f9 r), (RS.f10 r), (RS.f11 r), (RS.f12 r), (RS.f13 r), oN_leT, oN_leF, oN_ltT, oN_ltF, oN_leTl, oN_leFl, oN_ltTl, oN_ltFl, oN_lleT, oN_lleF, oN_lltT, oN_lltF, oN_m4, oN_nn, oN_nn2, mm_0, mm_s, oN_s1, oN_z1, m1_neg, m1_nn, m4_neg, i10, ↓reduceIte, if_true, if_false]
        have r1 := rs_a17 r i hj0 (τ 249 (105 + 2 * j + 1) + 1)
        have i1 := iv_irr (r1 := upd (τ 249) (105 + 2 * j + 1) (τ 249 (105 + 2 * j + 1) + 1)) i (fun k h1 h2 => by rw [upd_ne (by omega)])
        have r2 := rs_f8 r1 i1 (τ 249 8 + τ 249 (105 + 2 * j))
        have i2 := iv_irr (r1 := upd (upd (τ 249) (105 + 2 * j + 1) (τ 249 (105 + 2 * j + 1) + 1)) 8 (τ 249 8 + τ 249 (105 + 2 * j))) i1 (fun k h1 h2 => by rw [upd_ne (by omega)])
        exact Opx.ok (by decide) ⟨nb, ns, nc, ni, r2, i2⟩ (fun k hk => by simp (disch := omega) only [u2_ne]) (fun k hk => by simp (disch := omega) only [u2_ne])
    · simp (disch := omega) only [e1, e2, e3, e4, cw, cb, M_X7_isWarned, M_X3_noseOf, M_X9_tieOf, M_X11_does, bcall_some, blet_eq, bput_eq, at_2 (RS.B r), at_3 (RS.B r), at_5 (RS.B r), at_6 (RS.B r), at_7 (RS.B r), at_8 (RS.B r), at_9 (RS.B r), at_10 (RS.B r), at_12 (RS.B r), at_13 (RS.B r), at_14 (RS.B r), at_16 (RS.B r), at_17 (RS.B r), put_2 (RS.B r), put_3 (RS.B r), put_5 (RS.B r), put_6 (RS.B r), put_7 (RS.B r), put_8 (RS.B r), put_9 (RS.B r), put_10 (RS.B r), put_12 (RS.B r), put_13 (RS.B r), put_14 (RS.B r), put_16 (RS.B r), put_17 (RS.B r), x_ofl, x_of, x_setsl, x_sets, x_ld, x_ldl, x_stt, x_stl, x_where, oN_al, oN_la, oN_lm, u2_ne, u2_same, u2_self, (RS.cb r), (RS.cs r), (RS.cc r), (RS.ci r), (Iv.cb i), (Iv.cs i), (Iv.cc i), (Iv.ci i), (RS.a2 r), (RS.a3 r), (RS.a5 r), (RS.a6 r), (RS.a7 r), (RS.a8 r), (RS.a9 r), (RS.a10 r), (RS.a12 r), (RS.a13 r), (RS.a14 r), (RS.a16 r), (RS.a17 r), (RS.f4 r), (RS.f5 r), (RS.f6 r), (RS.f7 r), (RS.f8 r), (RS.f9 r), (RS.f10 r), (RS.f11 r), (RS.f12 r), (RS.f13 r), oN_leT, oN_leF, oN_ltT, oN_ltF, oN_leTl, oN_leFl, oN_ltTl, oN_ltFl, oN_lleT, oN_lleF, oN_lltT, oN_lltF, oN_m4, oN_nn, oN_nn2, mm_0, mm_s, oN_s1, oN_z1, m1_neg, m1_nn, m4_neg, i10, ↓reduceIte, if_true, if_false]
      exact Opx.ok (by decide) ⟨nb, ns, nc, ni, r, i⟩ (fun _ _ => rfl) (fun _ _ => rfl)
  · simp (disch := omega) only [e1, e2, e3, e4, cw, M_X7_isWarned, bcall_some, blet_eq, bput_eq, at_2 (RS.B r), at_3 (RS.B r), at_5 (RS.B r), at_6 (RS.B r), at_7 (RS.B r), at_8 (RS.B r), at_9 (RS.B r), at_10 (RS.B r), at_12 (RS.B r), at_13 (RS.B r), at_14 (RS.B r), at_16 (RS.B r), at_17 (RS.B r), put_2 (RS.B r), put_3 (RS.B r), put_5 (RS.B r), put_6 (RS.B r), put_7 (RS.B r), put_8 (RS.B r), put_9 (RS.B r), put_10 (RS.B r), put_12 (RS.B r), put_13 (RS.B r), put_14 (RS.B r), put_16 (RS.B r), put_17 (RS.B r), x_ofl, x_of, x_setsl, x_sets, x_ld, x_ldl, x_stt, x_stl, x_where, oN_al, oN_la, oN_lm, u2_ne, u2_same, u2_self, (RS.cb r), (RS.cs r), (RS.cc r), (RS.ci r), (Iv.cb i), (Iv.cs i), (Iv.cc i), (Iv.ci i), (RS.a2 r), (RS.a3 r), (RS.a5 r), (RS.a6 r), (RS.a7 r), (RS.a8 r), (RS.a9 r), (RS.a10 r), (RS.a12 r), (RS.a13 r), (RS.a14 r), (RS.a16 r), (RS.a17 r), (RS.f4 r), (RS.f5 r), (RS.f6 r), (RS.f7 r), (RS.f8 r), (RS.f9 r), (RS.f10 r), (RS.f11 r), (RS.f12 r), (RS.f13 r), oN_leT, oN_leF, oN_ltT, oN_ltF, oN_leTl, oN_leFl, oN_ltTl, oN_ltFl, oN_lleT, oN_lleF, oN_lltT, oN_lltF, oN_m4, oN_nn, oN_nn2, mm_0, mm_s, oN_s1, oN_z1, m1_neg, m1_nn, m4_neg, i10, ↓reduceIte, if_true, if_false]
    exact Opx.ref _ _ _ _
theorem Q_inspect {σ τ : St} (h : Co σ τ) (p q : Int32) : Pair σ τ (M_X10_inspect σ 0 p q) (M_X11_inspect τ 248 p q) (fun v w => v = w) := by
  unfold M_X10_inspect M_X11_inspect
  simp only [Nat.zero_add]
  exact chg h (fun s => M_X8_lookAt s 1 p q) _ (fun σ τ h => by
    obtain ⟨nb, ns, nc, ni, r, i⟩ := h.now
    exact (O_inspect r i p q).toK)
theorem add_back (a b : Int32) : a + b - a = b := by grind
theorem O_day {σ τ : St} {nb ns nc ni : Nat} (r : RS σ 5 (τ 249) nb ns nc ni) (i : Iv (τ 249) nb ns nc ni) (p : Int32) : Opx σ τ (M_X8_passDays σ 1 p) (M_X11_days τ 248 p) := by
  have hb8 := i.hb; have hs10 := i.hs; have hc5 := i.hc; have hi3 := i.hi
  unfold M_X8_passDays M_X11_days
  simp only [show (1 : Nat) + 4 = 5 from rfl]
  rcases in_pair (σ := σ) (τ := τ) p 1 30 with ⟨e1, e2, _⟩ | ⟨e1, e2, l1, u1⟩
  · simp only [e1, e2, bcall_some, ↓reduceIte, i10]
    exact Or.inl ⟨-2, Or.inr rfl, rfl, rfl⟩
  obtain ⟨g, gl, gu, rfl⟩ := rng (m := 1) (n := 30) (by decide) (by decide) l1 u1
  have key := two (F := fun n a x => B_X8_passDays_23 n a 1 (Int32.ofNat g) (σ 5 12) x) (G := fun n (a : St × Int32) x => B_X11_days_17 n a.1 248 (Int32.ofNat g) a.2 x) (I := fun _ σ1 a => ∃ f ns1, ns1 + f = ns ∧ RS σ1 5 (a.1 249) nb ns1 nc ni ∧ Iv (a.1 249) nb ns1 nc ni ∧ Fn σ σ1 ∧ (∀ k, k ≠ 249 → a.1 k = τ k) ∧ σ1 5 12 = σ 5 12 + Int32.ofNat f ∧ a.2 = Int32.ofNat f) (P := fun x y => Opx σ τ x y) (N := g) (by
    rintro n m σ1 ⟨τ1, x⟩ ⟨f, ns1, hf, r1, i1, f1, f2, f3, f4⟩
    simp only at r1 i1 f2 f4
    subst f4
    simp (disch := omega) only [B_X8_passDays_23, B_X11_days_17, oN_leT, ↓reduceIte, f3, add_back, M_X11_does, bput_eq, bcall_some]
    exact Opx.ok (of_eq_true (oN_nn2 (by omega))) ⟨nb, ns1, nc, ni, r1, i1⟩ f1 f2) (by
    rintro n m j σ1 ⟨τ1, x⟩ hj ⟨f, ns1, hf, r1, i1, f1, f2, f3, f4⟩
    simp only at r1 i1 f2 f4
    subst f4
    obtain ⟨σ2, τ2, f5, ns2, p1, p2, p3, r2, i2, g1, g2, g3, _⟩ := passDay r1 i1
    refine Or.inr ⟨σ2, (τ2, Int32.ofNat (f + f5)), ?_, ?_, f + f5, ns2, by omega, r2, i2, fun k hk => by rw [g1 k (by omega), f1 k hk], fun k hk => by show τ2 k = τ k; rw [g2 k hk, f2 k hk], ?_, rfl⟩
    · simp (disch := omega) only [B_X8_passDays_23, oN_leF, ↓reduceIte, show (1 : Nat) + 4 = 5 from rfl, p1, bcall_some, blet_eq, oN_al]
    · simp (disch := omega) only [B_X11_days_17, oN_leF, ↓reduceIte, p2, bcall_some, blet_eq, oN_al, oN_add]
    · rw [g3, f3, ← oN_add]
      grind) g 0 FU FU σ (τ, 0) (by omega) (FU_lt (by omega)) (FU_lt (by omega)) ⟨0, ns, by omega, r, i, fun _ _ => rfl, fun _ _ => rfl, by exact (add0 _).symm, rfl⟩
  simp only [e1, e2, bcall_some, ↓reduceIte, i10, blet_eq]
  exact key
theorem Q_day {σ τ : St} (h : Co σ τ) (p : Int32) : Pair σ τ (M_X10_day σ 0 p) (M_X11_day τ 248 p) (fun v w => v = w) := by
  unfold M_X10_day M_X11_day
  simp only [Nat.zero_add]
  exact chg h (fun s => M_X8_passDays s 1 p) _ (fun σ τ h => by
    obtain ⟨nb, ns, nc, ni, r, i⟩ := h.now
    exact (O_day r i p).toK)
