/-! changes, by the row alone: what is noted, what is kept, what answers -/
/-- the ring of what stood before: how many, which place is next -/
def Hh (σ : St) (u nx : Nat) : Prop := u ≤ 8 ∧ nx < 9 ∧ σ 59 3 = Int32.ofNat u ∧ σ 59 2 = Int32.ofNat nx
def PC (u nx : Nat) (σ τ : St) (x y : Option (St × Int32)) : Prop := ∃ σ1 τ1 v, x = some (σ1, v) ∧ y = some (τ1, v) ∧ (∀ k, (k < 2 ∨ k = 23 ∨ 23 < k) → k ≠ 59 → (k < pl nx ∨ pl nx + 18 ≤ k) → σ1 k = σ k) ∧
  ((v < 0 ∧ σ1 59 = σ 59 ∧ (∀ k, 5 ≤ k → k < 23 → σ1 k = σ k) ∧ ((v = -3 ∧ Pre 2 σ1 τ1) ∨ (v ≠ -3 ∧ ∀ k, 2 ≤ k → k < 5 → σ1 k = σ k))) ∨
   (0 ≤ v ∧ Sc σ1 5 (τ1 249) ∧ Hh σ1 (min (u + 1) 8) ((nx + 1) % 9) ∧ (∀ r, Sc σ 5 r → Sc σ1 (pl nx) r) ∧ ∀ k, 2 ≤ k → k < 5 → σ1 k = σ k))
theorem note_ez {σ : St} {nx : Nat} (h : σ 59 2 = Int32.ofNat nx) (hx : nx < 9) : ∃ σ1, M_X2_note σ 59 5 = some (σ1, 0) ∧ (∀ r, Sc σ 5 r → Sc σ1 (pl nx) r) ∧ (∀ k, (k < pl nx ∨ pl nx + 18 ≤ k) → σ1 k = σ k) := by
  have hp : pl nx = 79 + 18 * nx := rfl
  obtain ⟨σ1, t1, t2, t3⟩ := take_sc σ (k := pl nx) (a := 5) (Bp nx hx) B5 (by omega)
  refine ⟨σ1, ?_, t2, t3⟩
  unfold M_X2_note
  rw [noted_ex h hx, bcall_some, t1, bcall_some]
theorem kept_ez {σ : St} {u nx : Nat} (hu : u ≤ 8) (hx : nx < 9) (e1 : σ 59 3 = Int32.ofNat u) (e2 : σ 59 2 = Int32.ofNat nx) {v : Int32} (hv : 0 ≤ v) : ∃ σ1, M_X10_kept σ 0 v = some (σ1, v) ∧ Hh σ1 (min (u + 1) 8) ((nx + 1) % 9) ∧ (∀ k, k ≠ 59 → σ1 k = σ k) := by
  refine ⟨u2 (u2 σ 59 2 (Int32.ofNat ((nx + 1) % 9))) 59 3 (Int32.ofNat (min (u + 1) 8)), ?_, ⟨by omega, by omega, by rw [u2_self], by rw [u2_same (by decide), u2_self]⟩, fun k hk => by rw [u2_ne hk, u2_ne hk]⟩
  unfold M_X10_kept
  rw [if_neg (Int32.not_lt.mpr hv)]
  simp only [Nat.zero_add]
  unfold M_X2_keepNoted
  rw [bput_eq, blet_eq, bput_eq, bcall_some, e2, u2_same (by decide), e1, oN_al, oN_al, mod9 _ (by omega), show (8 : Int32) = Int32.ofNat 8 from rfl, imin_nat (by omega) (by omega)]
theorem keeps_ez {τ : St} (v : Int32) (e : τ 248 4 = 0) : ∃ τ1, M_X11_keeps τ 248 v = some (τ1, v) ∧ τ1 249 = τ 249 ∧ τ1 257 = τ 257 ∧ ∀ q, q ≠ 4 → τ1 248 q = τ 248 q := by
  have e0 : τ 248 4 = Int32.ofNat 0 := e
  have h2 : M_X11_keeps τ 248 v = B_X11_keeps_49 τ 248 v := by
    unfold M_X11_keeps
    rw [if_neg (by rw [e]; decide)]
  exact ⟨_, h2.trans (keeps49 v e0 (by decide)), by rw [u2_ne (by decide), up_ne (by decide)], by rw [u2_ne (by decide), up_ne (by decide)], fun q hq => by rw [u2_same hq, up_ne (by decide)]⟩
theorem chz {σ τ : St} {u nx : Nat} (h : Sc σ 5 (τ 249)) (hh : Hh σ u nx) (h4 : τ 248 4 = 0) (F G : St → Option (St × Int32)) (hF : ∀ σ τ, Sc σ 5 (τ 249) → OpK σ τ (F σ) (G τ)) : PC u nx σ τ (bcall (M_X2_note σ 59 5) fun s _ => bcall (F s) fun s2 r => bcall (M_X10_kept s2 0 r) fun s3 r3 => some (s3, r3)) (bcall (M_X11_tries τ 248) fun t _ => G t) := by
  obtain ⟨hu, hx, e1, e2⟩ := hh
  have hp : pl nx = 79 + 18 * nx := rfl
  obtain ⟨σ1, n1, n2, n3⟩ := note_ez e2 hx
  obtain ⟨τ1, t1, t2, t3⟩ := tries_ex τ
  have hC : Sc σ1 5 (τ1 249) := h.cg (fun k _ h2 => n3 k (by omega)) (fun q _ => by rw [t2 249 (by omega)])
  rw [n1, t1, bcall_some, bcall_some]
  rcases hF σ1 τ1 hC with ⟨v, hv, e3, e4⟩ | ⟨σ2, τ2, e3, e4, hP, a, b⟩ | ⟨σ2, τ2, v, e3, e4, h0, hN, a, b⟩
  · refine ⟨σ1, τ1, v, ?_, e4, fun k _ _ hk => n3 k hk, Or.inl ⟨by rcases hv with rfl | rfl <;> decide, n3 59 (by omega), fun k _ hk => n3 k (by omega), Or.inr ⟨by rcases hv with rfl | rfl <;> decide, fun k _ hk => n3 k (by omega)⟩⟩⟩
    rw [e3, bcall_some]
    unfold M_X10_kept
    rcases hv with rfl | rfl
    · rw [if_pos (by decide), bcall_some]
    · rw [if_pos (by decide), bcall_some]
  · refine ⟨σ2, τ2, -3, ?_, e4, fun k hk _ hk2 => by rw [a k (by omega) (by omega) (by omega), n3 k hk2], Or.inl ⟨by decide, by rw [a 59 (by omega) (by omega) (by omega), n3 59 (by omega)], fun k _ hk => by rw [a k (by omega) (by omega) (by omega), n3 k (by omega)], Or.inl ⟨rfl, hP⟩⟩⟩
    rw [e3, bcall_some]
    unfold M_X10_kept
    rw [if_pos (by decide), bcall_some]
  · obtain ⟨σ3, k1, k2, k3⟩ := kept_ez (σ := σ2) hu hx (by rw [a 59 (by omega), n3 59 (by omega)]; exact e1) (by rw [a 59 (by omega), n3 59 (by omega)]; exact e2) h0
    obtain ⟨τ3, m1, m2, m3, m4⟩ := keeps_ez (τ := τ2) v (by rw [b.2 4 (by decide), t2 248 (by decide)]; exact h4)
    refine ⟨σ3, τ3, v, ?_, ?_, fun k hk hk59 hk2 => by rw [k3 k hk59, a k (by omega), n3 k hk2], Or.inr ⟨h0, hN.cg (fun k _ h2 => k3 k (by omega)) (fun q _ => by rw [m2]), k2, fun r hr => (n2 r hr).cg (fun k h1 h2 => by rw [k3 k (by omega), a k (by omega)]) (fun _ _ => rfl), fun k _ hk => by rw [k3 k (by omega), a k (by omega), n3 k (by omega)]⟩⟩
    · rw [e3, bcall_some, k1, bcall_some]
    · rw [e4, m1, bcall_some]
theorem Z_bundle {σ τ : St} {u nx : Nat} (h : Sc σ 5 (τ 249)) (hh : Hh σ u nx) (h4 : τ 248 4 = 0) (p q : Int32) : PC u nx σ τ (M_X10_bundle σ 0 p q) (M_X11_bundle τ 248 p q) := by
  unfold M_X10_bundle M_X11_bundle
  simp only [Nat.zero_add]
  refine chz h hh h4 (fun s => M_X8_addBundle s 1 p q) _ (fun σ τ h => ?_)
  obtain ⟨nb, ns, nc, ni, r, i⟩ := id h
  have hb8 := i.hb; have hs10 := i.hs; have hc5 := i.hc; have hi3 := i.hi
  unfold M_X8_addBundle
  simp only [show (1 : Nat) + 4 = 5 from rfl, show (1 : Nat) + 1 = 2 from rfl]
  rcases in_pair (σ := σ) (τ := τ) p 1 30 with ⟨e1, e2, _⟩ | ⟨e1, e2, l1, u1⟩
  · simp only [e1, e2, bcall_some, ↓reduceIte, i10]
    exact Or.inl ⟨-2, Or.inr rfl, rfl, rfl⟩
  obtain ⟨g, gl, gu, rfl⟩ := rng (m := 1) (n := 30) (by decide) (by decide) l1 u1
  rcases in_pair (σ := σ) (τ := τ) q 0 60 with ⟨e3, e4, _⟩ | ⟨e3, e4, l3, u3⟩
  · simp only [e1, e2, e3, e4, bcall_some, ↓reduceIte, i10]
    exact Or.inl ⟨-2, Or.inr rfl, rfl, rfl⟩
  obtain ⟨t, tl, tu, rfl⟩ := rng (m := 0) (n := 60) (by decide) (by decide) l3 u3
  by_cases c : nb = 8
  · subst c
    simp (disch := omega) only [e1, e2, e3, e4, show (Int32.ofNat 8 = (8 : Int32)) = True from eq_true rfl, bcall_some, blet_eq, bput_eq, at_2 (RS.B r), at_3 (RS.B r), at_5 (RS.B r), at_6 (RS.B r), at_7 (RS.B r), at_8 (RS.B r), at_9 (RS.B r), at_10 (RS.B r), at_12 (RS.B r), at_13 (RS.B r), at_14 (RS.B r), at_16 (RS.B r), at_17 (RS.B r), put_2 (RS.B r), put_3 (RS.B r), put_5 (RS.B r), put_6 (RS.B r), put_7 (RS.B r), put_8 (RS.B r), put_9 (RS.B r), put_10 (RS.B r), put_12 (RS.B r), put_13 (RS.B r), put_14 (RS.B r), put_16 (RS.B r), put_17 (RS.B r), x_ofl, x_of, x_setsl, x_sets, x_ld, x_ldl, x_stt, x_stl, x_where, oN_al, oN_la, oN_lm, u2_ne, u2_same, u2_self, (RS.cb r), (RS.cs r), (RS.cc r), (RS.ci r), (Iv.cb i), (Iv.cs i), (Iv.cc i), (Iv.ci i), (RS.a2 r), (RS.a3 r), (RS.a5 r), (RS.a6 r), (RS.a7 r), (RS.a8 r), (RS.a9 r), (RS.a10 r), (RS.a12 r), (RS.a13 r), (RS.a14 r), (RS.a16 r), (RS.a17 r), (RS.f4 r), (RS.f5 r), (RS.f6 r), (RS.f7 r), (RS.f8 r), (RS.f9 r), (RS.f10 r), (RS.f11 r), (RS.f12 r), (RS.f13 r), oN_leT, oN_leF, oN_ltT, oN_ltF, oN_leTl, oN_leFl, oN_ltTl, oN_ltFl, oN_lleT, oN_lleF, oN_lltT, oN_lltF, oN_m4, oN_nn, oN_nn2, mm_0, mm_s, oN_s1, oN_z1, m1_neg, m1_nn, m4_neg, i10, ↓reduceIte, if_true, if_false]
    exact OpK.ref _ _ _ _
  · simp (disch := omega) only [e1, e2, e3, e4, M_X0_add, oN_eqFl, bcall_some, blet_eq, bput_eq, at_2 (RS.B r), at_3 (RS.B r), at_5 (RS.B r), at_6 (RS.B r), at_7 (RS.B r), at_8 (RS.B r), at_9 (RS.B r), at_10 (RS.B r), at_12 (RS.B r), at_13 (RS.B r), at_14 (RS.B r), at_16 (RS.B r), at_17 (RS.B r), put_2 (RS.B r), put_3 (RS.B r), put_5 (RS.B r), put_6 (RS.B r), put_7 (RS.B r), put_8 (RS.B r), put_9 (RS.B r), put_10 (RS.B r), put_12 (RS.B r), put_13 (RS.B r), put_14 (RS.B r), put_16 (RS.B r), put_17 (RS.B r), x_ofl, x_of, x_setsl, x_sets, x_ld, x_ldl, x_stt, x_stl, x_where, oN_al, oN_la, oN_lm, u2_ne, u2_same, u2_self, (RS.cb r), (RS.cs r), (RS.cc r), (RS.ci r), (Iv.cb i), (Iv.cs i), (Iv.cc i), (Iv.ci i), (RS.a2 r), (RS.a3 r), (RS.a5 r), (RS.a6 r), (RS.a7 r), (RS.a8 r), (RS.a9 r), (RS.a10 r), (RS.a12 r), (RS.a13 r), (RS.a14 r), (RS.a16 r), (RS.a17 r), (RS.f4 r), (RS.f5 r), (RS.f6 r), (RS.f7 r), (RS.f8 r), (RS.f9 r), (RS.f10 r), (RS.f11 r), (RS.f12 r), (RS.f13 r), oN_leT, oN_leF, oN_ltT, oN_ltF, oN_leTl, oN_leFl, oN_ltTl, oN_ltFl, oN_lleT, oN_lleF, oN_lltT, oN_lltF, oN_m4, oN_nn, oN_nn2, mm_0, mm_s, oN_s1, oN_z1, m1_neg, m1_nn, m4_neg, i10, ↓reduceIte, if_true, if_false]
    refine OpK.ok (of_eq_true (oN_nn2 (by omega))) ⟨nb + 1, ns, nc, ni, ?_, ?_⟩ (fun k hk => by simp (disch := omega) only [u2_ne]) (fun k hk => by simp (disch := omega) only [u2_ne])
    · apply RS.mk
      exact B5
      all_goals first | (simp (disch := omega) only [u2_ne, u2_same, u2_self, mm_z, (RS.f4 r), (RS.f5 r), (RS.f6 r), (RS.f7 r), (RS.f8 r), (RS.f9 r), (RS.f10 r), (RS.f11 r), (RS.f12 r), (RS.f13 r), (RS.cb r), (RS.cs r), (RS.cc r), (RS.ci r), (RS.a2 r), (RS.a3 r), (RS.a5 r), (RS.a6 r), (RS.a7 r), (RS.a8 r), (RS.a9 r), (RS.a10 r), (RS.a12 r), (RS.a13 r), (RS.a14 r), (RS.a16 r), (RS.a17 r)]; done) | (intro z9 h9; simp (disch := omega) only [u2_ne, u2_same, u2_self, mm_z, (RS.f4 r), (RS.f5 r), (RS.f6 r), (RS.f7 r), (RS.f8 r), (RS.f9 r), (RS.f10 r), (RS.f11 r), (RS.f12 r), (RS.f13 r), (RS.cb r), (RS.cs r), (RS.cc r), (RS.ci r), (RS.a2 r), (RS.a3 r), (RS.a5 r), (RS.a6 r), (RS.a7 r), (RS.a8 r), (RS.a9 r), (RS.a10 r), (RS.a12 r), (RS.a13 r), (RS.a14 r), (RS.a16 r), (RS.a17 r)]; done) | (intro z9 h9; by_cases e : z9 = nb <;> first | (rw [e]; simp (disch := omega) only [u2_ne, u2_same, u2_self, mm_z, (RS.f4 r), (RS.f5 r), (RS.f6 r), (RS.f7 r), (RS.f8 r), (RS.f9 r), (RS.f10 r), (RS.f11 r), (RS.f12 r), (RS.f13 r), (RS.cb r), (RS.cs r), (RS.cc r), (RS.ci r), (RS.a2 r), (RS.a3 r), (RS.a5 r), (RS.a6 r), (RS.a7 r), (RS.a8 r), (RS.a9 r), (RS.a10 r), (RS.a12 r), (RS.a13 r), (RS.a14 r), (RS.a16 r), (RS.a17 r)]; done) | (simp (disch := omega) only [u2_ne, u2_same, u2_self, mm_z, (RS.f4 r), (RS.f5 r), (RS.f6 r), (RS.f7 r), (RS.f8 r), (RS.f9 r), (RS.f10 r), (RS.f11 r), (RS.f12 r), (RS.f13 r), (RS.cb r), (RS.cs r), (RS.cc r), (RS.ci r), (RS.a2 r), (RS.a3 r), (RS.a5 r), (RS.a6 r), (RS.a7 r), (RS.a8 r), (RS.a9 r), (RS.a10 r), (RS.a12 r), (RS.a13 r), (RS.a14 r), (RS.a16 r), (RS.a17 r)]; done))
    · apply Iv.mk
      · omega
      · omega
      · omega
      · omega
      · simp (disch := omega) only [u2_same, u2_self]
      · simp (disch := omega) only [u2_same, u2_self]; exact i.cs
      · simp (disch := omega) only [u2_same, u2_self]; exact i.cc
      · simp (disch := omega) only [u2_same, u2_self]; exact i.ci
      · simp (disch := omega) only [u2_same, u2_self]; exact i.sg
      · simp (disch := omega) only [u2_same, u2_self]; exact i.st
      · simp (disch := omega) only [u2_same, u2_self]; exact i.tu
      · intro j hj
        by_cases e : j = nb
        · rw [e]; simp (disch := omega) only [u2_same, u2_self]; exact ⟨t, tu, rfl⟩
        · simp (disch := omega) only [u2_same, u2_self]; exact i.ba j (by omega)
      · intro j hj; simp (disch := omega) only [u2_same, u2_self]; exact i.sp j hj
      · intro j hj; simp (disch := omega) only [u2_same, u2_self]; exact i.sw j hj
      · intro j hj; simp (disch := omega) only [u2_same, u2_self]; exact i.tt j hj
      · intro j hj; simp (disch := omega) only [u2_same, u2_self]; exact i.sh j hj
      · intro j hj; simp (disch := omega) only [u2_same, u2_self]; exact i.sl j hj
      · intro j hj; simp (disch := omega) only [u2_same, u2_self]; exact i.su j hj
      · intro j hj; simp (disch := omega) only [u2_same, u2_self]; exact i.ck j hj
      · intro j hj; simp (disch := omega) only [u2_same, u2_self]; exact i.cp j hj
      · intro j hj; simp (disch := omega) only [u2_same, u2_self]; exact i.nn j hj
      · intro g j hj; simp (disch := omega) only [u2_same, u2_self] at g ⊢; exact i.gr g j hj
      · intro j c hj hc g; simp (disch := omega) only [u2_same, u2_self] at g ⊢; exact i.nc0 j c hj hc g
theorem Z_strips {σ τ : St} {u nx : Nat} (h : Sc σ 5 (τ 249)) (hh : Hh σ u nx) (h4 : τ 248 4 = 0) (p : Int32) : PC u nx σ τ (M_X10_strips σ 0 p) (M_X11_strips τ 248 p) := by
  unfold M_X10_strips M_X11_strips
  simp only [Nat.zero_add]
  refine chz h hh h4 (fun s => M_X8_addStrips s 1 p) _ (fun σ τ h => ?_)
  obtain ⟨nb, ns, nc, ni, r, i⟩ := id h
  have hb8 := i.hb; have hs10 := i.hs; have hc5 := i.hc; have hi3 := i.hi
  unfold M_X8_addStrips
  simp only [show (1 : Nat) + 4 = 5 from rfl, show (1 : Nat) + 1 = 2 from rfl]
  rcases in_pair (σ := σ) (τ := τ) p 1 99 with ⟨e1, e2, _⟩ | ⟨e1, e2, l1, u1⟩
  · simp only [e1, e2, bcall_some, ↓reduceIte, i10]
    exact Or.inl ⟨-2, Or.inr rfl, rfl, rfl⟩
  obtain ⟨g, gl, gu, rfl⟩ := rng (m := 1) (n := 99) (by decide) (by decide) l1 u1
  obtain ⟨s, hs, es⟩ := i.st
  have m1 : imin (Int32.ofNat (s + g)) 200 = Int32.ofNat (min (s + g) 200) := by rw [show (200 : Int32) = Int32.ofNat 200 from rfl, imin_nat (by omega) (by omega)]
  have m2 : imin 200 (Int32.ofNat (s + g)) = Int32.ofNat (min (s + g) 200) := by rw [imin_comm]; exact m1
  simp (disch := omega) only [e1, e2, es, m1, m2, oN_add, bcall_some, blet_eq, bput_eq, at_2 (RS.B r), at_3 (RS.B r), at_5 (RS.B r), at_6 (RS.B r), at_7 (RS.B r), at_8 (RS.B r), at_9 (RS.B r), at_10 (RS.B r), at_12 (RS.B r), at_13 (RS.B r), at_14 (RS.B r), at_16 (RS.B r), at_17 (RS.B r), put_2 (RS.B r), put_3 (RS.B r), put_5 (RS.B r), put_6 (RS.B r), put_7 (RS.B r), put_8 (RS.B r), put_9 (RS.B r), put_10 (RS.B r), put_12 (RS.B r), put_13 (RS.B r), put_14 (RS.B r), put_16 (RS.B r), put_17 (RS.B r), x_ofl, x_of, x_setsl, x_sets, x_ld, x_ldl, x_stt, x_stl, x_where, oN_al, oN_la, oN_lm, u2_ne, u2_same, u2_self, (RS.cb r), (RS.cs r), (RS.cc r), (RS.ci r), (Iv.cb i), (Iv.cs i), (Iv.cc i), (Iv.ci i), (RS.a2 r), (RS.a3 r), (RS.a5 r), (RS.a6 r), (RS.a7 r), (RS.a8 r), (RS.a9 r), (RS.a10 r), (RS.a12 r), (RS.a13 r), (RS.a14 r), (RS.a16 r), (RS.a17 r), (RS.f4 r), (RS.f5 r), (RS.f6 r), (RS.f7 r), (RS.f8 r), (RS.f9 r), (RS.f10 r), (RS.f11 r), (RS.f12 r), (RS.f13 r), oN_leT, oN_leF, oN_ltT, oN_ltF, oN_leTl, oN_leFl, oN_ltTl, oN_ltFl, oN_lleT, oN_lleF, oN_lltT, oN_lltF, oN_m4, oN_nn, oN_nn2, mm_0, mm_s, oN_s1, oN_z1, m1_neg, m1_nn, m4_neg, i10, ↓reduceIte, if_true, if_false]
  exact OpK.ok (of_eq_true (oN_nn2 (by omega))) ⟨nb, ns, nc, ni, rs_f6 r i _, iv_st i ⟨_, by omega, rfl⟩⟩ (fun k hk => by simp (disch := omega) only [u2_ne]) (fun k hk => by simp (disch := omega) only [u2_ne])
theorem Z_crew {σ τ : St} {u nx : Nat} (h : Sc σ 5 (τ 249)) (hh : Hh σ u nx) (h4 : τ 248 4 = 0) (p : Int32) : PC u nx σ τ (M_X10_crew σ 0 p) (M_X11_crew τ 248 p) := by
  unfold M_X10_crew M_X11_crew
  simp only [Nat.zero_add]
  refine chz h hh h4 (fun s => M_X8_addCrew s 1 p) _ (fun σ τ h => ?_)
  obtain ⟨nb, ns, nc, ni, r, i⟩ := id h
  have hb8 := i.hb; have hs10 := i.hs; have hc5 := i.hc; have hi3 := i.hi
  unfold M_X8_addCrew
  simp only [show (1 : Nat) + 4 = 5 from rfl, show (1 : Nat) + 1 = 2 from rfl]
  rcases in_pair (σ := σ) (τ := τ) p 1 4 with ⟨e1, e2, _⟩ | ⟨e1, e2, l1, u1⟩
  · simp only [e1, e2, bcall_some, ↓reduceIte, i10]
    exact Or.inl ⟨-2, Or.inr rfl, rfl, rfl⟩
  obtain ⟨g, gl, gu, rfl⟩ := rng (m := 1) (n := 4) (by decide) (by decide) l1 u1
  by_cases c : nc = 5
  · subst c
    simp (disch := omega) only [e1, e2, show (Int32.ofNat 5 = (5 : Int32)) = True from eq_true rfl, bcall_some, blet_eq, bput_eq, at_2 (RS.B r), at_3 (RS.B r), at_5 (RS.B r), at_6 (RS.B r), at_7 (RS.B r), at_8 (RS.B r), at_9 (RS.B r), at_10 (RS.B r), at_12 (RS.B r), at_13 (RS.B r), at_14 (RS.B r), at_16 (RS.B r), at_17 (RS.B r), put_2 (RS.B r), put_3 (RS.B r), put_5 (RS.B r), put_6 (RS.B r), put_7 (RS.B r), put_8 (RS.B r), put_9 (RS.B r), put_10 (RS.B r), put_12 (RS.B r), put_13 (RS.B r), put_14 (RS.B r), put_16 (RS.B r), put_17 (RS.B r), x_ofl, x_of, x_setsl, x_sets, x_ld, x_ldl, x_stt, x_stl, x_where, oN_al, oN_la, oN_lm, u2_ne, u2_same, u2_self, (RS.cb r), (RS.cs r), (RS.cc r), (RS.ci r), (Iv.cb i), (Iv.cs i), (Iv.cc i), (Iv.ci i), (RS.a2 r), (RS.a3 r), (RS.a5 r), (RS.a6 r), (RS.a7 r), (RS.a8 r), (RS.a9 r), (RS.a10 r), (RS.a12 r), (RS.a13 r), (RS.a14 r), (RS.a16 r), (RS.a17 r), (RS.f4 r), (RS.f5 r), (RS.f6 r), (RS.f7 r), (RS.f8 r), (RS.f9 r), (RS.f10 r), (RS.f11 r), (RS.f12 r), (RS.f13 r), oN_leT, oN_leF, oN_ltT, oN_ltF, oN_leTl, oN_leFl, oN_ltTl, oN_ltFl, oN_lleT, oN_lleF, oN_lltT, oN_lltF, oN_m4, oN_nn, oN_nn2, mm_0, mm_s, oN_s1, oN_z1, m1_neg, m1_nn, m4_neg, i10, ↓reduceIte, if_true, if_false]
    exact OpK.ref _ _ _ _
  · simp (disch := omega) only [e1, e2, M_X1_add, oN_eqFl, bcall_some, blet_eq, bput_eq, at_2 (RS.B r), at_3 (RS.B r), at_5 (RS.B r), at_6 (RS.B r), at_7 (RS.B r), at_8 (RS.B r), at_9 (RS.B r), at_10 (RS.B r), at_12 (RS.B r), at_13 (RS.B r), at_14 (RS.B r), at_16 (RS.B r), at_17 (RS.B r), put_2 (RS.B r), put_3 (RS.B r), put_5 (RS.B r), put_6 (RS.B r), put_7 (RS.B r), put_8 (RS.B r), put_9 (RS.B r), put_10 (RS.B r), put_12 (RS.B r), put_13 (RS.B r), put_14 (RS.B r), put_16 (RS.B r), put_17 (RS.B r), x_ofl, x_of, x_setsl, x_sets, x_ld, x_ldl, x_stt, x_stl, x_where, oN_al, oN_la, oN_lm, u2_ne, u2_same, u2_self, (RS.cb r), (RS.cs r), (RS.cc r), (RS.ci r), (Iv.cb i), (Iv.cs i), (Iv.cc i), (Iv.ci i), (RS.a2 r), (RS.a3 r), (RS.a5 r), (RS.a6 r), (RS.a7 r), (RS.a8 r), (RS.a9 r), (RS.a10 r), (RS.a12 r), (RS.a13 r), (RS.a14 r), (RS.a16 r), (RS.a17 r), (RS.f4 r), (RS.f5 r), (RS.f6 r), (RS.f7 r), (RS.f8 r), (RS.f9 r), (RS.f10 r), (RS.f11 r), (RS.f12 r), (RS.f13 r), oN_leT, oN_leF, oN_ltT, oN_ltF, oN_leTl, oN_leFl, oN_ltTl, oN_ltFl, oN_lleT, oN_lleF, oN_lltT, oN_lltF, oN_m4, oN_nn, oN_nn2, mm_0, mm_s, oN_s1, oN_z1, m1_neg, m1_nn, m4_neg, i10, ↓reduceIte, if_true, if_false]
    refine OpK.ok (of_eq_true (oN_nn2 (by omega))) ⟨nb, ns, nc + 1, ni, ?_, ?_⟩ (fun k hk => by simp (disch := omega) only [u2_ne]) (fun k hk => by simp (disch := omega) only [u2_ne])
    · apply RS.mk
      exact B5
      all_goals first | (simp (disch := omega) only [u2_ne, u2_same, u2_self, mm_z, (RS.f4 r), (RS.f5 r), (RS.f6 r), (RS.f7 r), (RS.f8 r), (RS.f9 r), (RS.f10 r), (RS.f11 r), (RS.f12 r), (RS.f13 r), (RS.cb r), (RS.cs r), (RS.cc r), (RS.ci r), (RS.a2 r), (RS.a3 r), (RS.a5 r), (RS.a6 r), (RS.a7 r), (RS.a8 r), (RS.a9 r), (RS.a10 r), (RS.a12 r), (RS.a13 r), (RS.a14 r), (RS.a16 r), (RS.a17 r)]; done) | (intro z9 h9; simp (disch := omega) only [u2_ne, u2_same, u2_self, mm_z, (RS.f4 r), (RS.f5 r), (RS.f6 r), (RS.f7 r), (RS.f8 r), (RS.f9 r), (RS.f10 r), (RS.f11 r), (RS.f12 r), (RS.f13 r), (RS.cb r), (RS.cs r), (RS.cc r), (RS.ci r), (RS.a2 r), (RS.a3 r), (RS.a5 r), (RS.a6 r), (RS.a7 r), (RS.a8 r), (RS.a9 r), (RS.a10 r), (RS.a12 r), (RS.a13 r), (RS.a14 r), (RS.a16 r), (RS.a17 r)]; done) | (intro z9 h9; by_cases e : z9 = nc <;> first | (rw [e]; simp (disch := omega) only [u2_ne, u2_same, u2_self, mm_z, (RS.f4 r), (RS.f5 r), (RS.f6 r), (RS.f7 r), (RS.f8 r), (RS.f9 r), (RS.f10 r), (RS.f11 r), (RS.f12 r), (RS.f13 r), (RS.cb r), (RS.cs r), (RS.cc r), (RS.ci r), (RS.a2 r), (RS.a3 r), (RS.a5 r), (RS.a6 r), (RS.a7 r), (RS.a8 r), (RS.a9 r), (RS.a10 r), (RS.a12 r), (RS.a13 r), (RS.a14 r), (RS.a16 r), (RS.a17 r)]; done) | (simp (disch := omega) only [u2_ne, u2_same, u2_self, mm_z, (RS.f4 r), (RS.f5 r), (RS.f6 r), (RS.f7 r), (RS.f8 r), (RS.f9 r), (RS.f10 r), (RS.f11 r), (RS.f12 r), (RS.f13 r), (RS.cb r), (RS.cs r), (RS.cc r), (RS.ci r), (RS.a2 r), (RS.a3 r), (RS.a5 r), (RS.a6 r), (RS.a7 r), (RS.a8 r), (RS.a9 r), (RS.a10 r), (RS.a12 r), (RS.a13 r), (RS.a14 r), (RS.a16 r), (RS.a17 r)]; done))
    · apply Iv.mk
      · omega
      · omega
      · omega
      · omega
      · simp (disch := omega) only [u2_same, u2_self]; exact i.cb
      · simp (disch := omega) only [u2_same, u2_self]; exact i.cs
      · simp (disch := omega) only [u2_same, u2_self]
      · simp (disch := omega) only [u2_same, u2_self]; exact i.ci
      · simp (disch := omega) only [u2_same, u2_self]; exact i.sg
      · simp (disch := omega) only [u2_same, u2_self]; exact i.st
      · simp (disch := omega) only [u2_same, u2_self]; exact i.tu
      · intro j hj; simp (disch := omega) only [u2_same, u2_self]; exact i.ba j hj
      · intro j hj; simp (disch := omega) only [u2_same, u2_self]; exact i.sp j hj
      · intro j hj; simp (disch := omega) only [u2_same, u2_self]; exact i.sw j hj
      · intro j hj; simp (disch := omega) only [u2_same, u2_self]; exact i.tt j hj
      · intro j hj; simp (disch := omega) only [u2_same, u2_self]; exact i.sh j hj
      · intro j hj; simp (disch := omega) only [u2_same, u2_self]; exact i.sl j hj
      · intro j hj; simp (disch := omega) only [u2_same, u2_self]; exact i.su j hj
      · intro j hj
        by_cases e : j = nc
        · rw [e]; simp (disch := omega) only [u2_same, u2_self]; exact ⟨g, gl, gu, rfl⟩
        · simp (disch := omega) only [u2_same, u2_self]; exact i.ck j (by omega)
      · intro j hj
        by_cases e : j = nc
        · rw [e]; simp (disch := omega) only [u2_same, u2_self]; exact ⟨0, by omega, rfl⟩
        · simp (disch := omega) only [u2_same, u2_self]; exact i.cp j (by omega)
      · intro j hj; simp (disch := omega) only [u2_same, u2_self]; exact i.nn j hj
      · intro g j hj; simp (disch := omega) only [u2_same] at g
        by_cases e : j = nc
        · rw [e]; simp (disch := omega) only [u2_same, u2_self]
        · simp (disch := omega) only [u2_same, u2_self]; exact i.gr g j (by omega)
      · intro j c2 hj hc2 g; simp (disch := omega) only [u2_same] at g
        by_cases e : c2 = nc
        · rw [e]; simp (disch := omega) only [u2_same, u2_self]; exact z_ne (by omega)
        · simp (disch := omega) only [u2_same, u2_self]; exact i.nc0 j c2 hj (by omega) g
theorem Z_inspector {σ τ : St} {u nx : Nat} (h : Sc σ 5 (τ 249)) (hh : Hh σ u nx) (h4 : τ 248 4 = 0) (p : Int32) : PC u nx σ τ (M_X10_inspector σ 0 p) (M_X11_inspector τ 248 p) := by
  unfold M_X10_inspector M_X11_inspector
  simp only [Nat.zero_add]
  refine chz h hh h4 (fun s => M_X8_addInspector s 1 p) _ (fun σ τ h => ?_)
  obtain ⟨nb, ns, nc, ni, r, i⟩ := id h
  have hb8 := i.hb; have hs10 := i.hs; have hc5 := i.hc; have hi3 := i.hi
  unfold M_X8_addInspector
  simp only [show (1 : Nat) + 4 = 5 from rfl, show (1 : Nat) + 1 = 2 from rfl]
  rcases in_pair (σ := σ) (τ := τ) p 1 9 with ⟨e1, e2, _⟩ | ⟨e1, e2, l1, u1⟩
  · simp only [e1, e2, bcall_some, ↓reduceIte, i10]
    exact Or.inl ⟨-2, Or.inr rfl, rfl, rfl⟩
  obtain ⟨g, gl, gu, rfl⟩ := rng (m := 1) (n := 9) (by decide) (by decide) l1 u1
  by_cases c : ni = 3
  · subst c
    simp (disch := omega) only [e1, e2, show (Int32.ofNat 3 = (3 : Int32)) = True from eq_true rfl, bcall_some, blet_eq, bput_eq, at_2 (RS.B r), at_3 (RS.B r), at_5 (RS.B r), at_6 (RS.B r), at_7 (RS.B r), at_8 (RS.B r), at_9 (RS.B r), at_10 (RS.B r), at_12 (RS.B r), at_13 (RS.B r), at_14 (RS.B r), at_16 (RS.B r), at_17 (RS.B r), put_2 (RS.B r), put_3 (RS.B r), put_5 (RS.B r), put_6 (RS.B r), put_7 (RS.B r), put_8 (RS.B r), put_9 (RS.B r), put_10 (RS.B r), put_12 (RS.B r), put_13 (RS.B r), put_14 (RS.B r), put_16 (RS.B r), put_17 (RS.B r), x_ofl, x_of, x_setsl, x_sets, x_ld, x_ldl, x_stt, x_stl, x_where, oN_al, oN_la, oN_lm, u2_ne, u2_same, u2_self, (RS.cb r), (RS.cs r), (RS.cc r), (RS.ci r), (Iv.cb i), (Iv.cs i), (Iv.cc i), (Iv.ci i), (RS.a2 r), (RS.a3 r), (RS.a5 r), (RS.a6 r), (RS.a7 r), (RS.a8 r), (RS.a9 r), (RS.a10 r), (RS.a12 r), (RS.a13 r), (RS.a14 r), (RS.a16 r), (RS.a17 r), (RS.f4 r), (RS.f5 r), (RS.f6 r), (RS.f7 r), (RS.f8 r), (RS.f9 r), (RS.f10 r), (RS.f11 r), (RS.f12 r), (RS.f13 r), oN_leT, oN_leF, oN_ltT, oN_ltF, oN_leTl, oN_leFl, oN_ltTl, oN_ltFl, oN_lleT, oN_lleF, oN_lltT, oN_lltF, oN_m4, oN_nn, oN_nn2, mm_0, mm_s, oN_s1, oN_z1, m1_neg, m1_nn, m4_neg, i10, ↓reduceIte, if_true, if_false]
    exact OpK.ref _ _ _ _
  · simp (disch := omega) only [e1, e2, M_X3_add, oN_eqFl, bcall_some, blet_eq, bput_eq, at_2 (RS.B r), at_3 (RS.B r), at_5 (RS.B r), at_6 (RS.B r), at_7 (RS.B r), at_8 (RS.B r), at_9 (RS.B r), at_10 (RS.B r), at_12 (RS.B r), at_13 (RS.B r), at_14 (RS.B r), at_16 (RS.B r), at_17 (RS.B r), put_2 (RS.B r), put_3 (RS.B r), put_5 (RS.B r), put_6 (RS.B r), put_7 (RS.B r), put_8 (RS.B r), put_9 (RS.B r), put_10 (RS.B r), put_12 (RS.B r), put_13 (RS.B r), put_14 (RS.B r), put_16 (RS.B r), put_17 (RS.B r), x_ofl, x_of, x_setsl, x_sets, x_ld, x_ldl, x_stt, x_stl, x_where, oN_al, oN_la, oN_lm, u2_ne, u2_same, u2_self, (RS.cb r), (RS.cs r), (RS.cc r), (RS.ci r), (Iv.cb i), (Iv.cs i), (Iv.cc i), (Iv.ci i), (RS.a2 r), (RS.a3 r), (RS.a5 r), (RS.a6 r), (RS.a7 r), (RS.a8 r), (RS.a9 r), (RS.a10 r), (RS.a12 r), (RS.a13 r), (RS.a14 r), (RS.a16 r), (RS.a17 r), (RS.f4 r), (RS.f5 r), (RS.f6 r), (RS.f7 r), (RS.f8 r), (RS.f9 r), (RS.f10 r), (RS.f11 r), (RS.f12 r), (RS.f13 r), oN_leT, oN_leF, oN_ltT, oN_ltF, oN_leTl, oN_leFl, oN_ltTl, oN_ltFl, oN_lleT, oN_lleF, oN_lltT, oN_lltF, oN_m4, oN_nn, oN_nn2, mm_0, mm_s, oN_s1, oN_z1, m1_neg, m1_nn, m4_neg, i10, ↓reduceIte, if_true, if_false]
    refine OpK.ok (of_eq_true (oN_nn2 (by omega))) ⟨nb, ns, nc, ni + 1, ?_, ?_⟩ (fun k hk => by simp (disch := omega) only [u2_ne]) (fun k hk => by simp (disch := omega) only [u2_ne])
    · apply RS.mk
      exact B5
      all_goals first | (simp (disch := omega) only [u2_ne, u2_same, u2_self, mm_z, (RS.f4 r), (RS.f5 r), (RS.f6 r), (RS.f7 r), (RS.f8 r), (RS.f9 r), (RS.f10 r), (RS.f11 r), (RS.f12 r), (RS.f13 r), (RS.cb r), (RS.cs r), (RS.cc r), (RS.ci r), (RS.a2 r), (RS.a3 r), (RS.a5 r), (RS.a6 r), (RS.a7 r), (RS.a8 r), (RS.a9 r), (RS.a10 r), (RS.a12 r), (RS.a13 r), (RS.a14 r), (RS.a16 r), (RS.a17 r)]; done) | (intro z9 h9; simp (disch := omega) only [u2_ne, u2_same, u2_self, mm_z, (RS.f4 r), (RS.f5 r), (RS.f6 r), (RS.f7 r), (RS.f8 r), (RS.f9 r), (RS.f10 r), (RS.f11 r), (RS.f12 r), (RS.f13 r), (RS.cb r), (RS.cs r), (RS.cc r), (RS.ci r), (RS.a2 r), (RS.a3 r), (RS.a5 r), (RS.a6 r), (RS.a7 r), (RS.a8 r), (RS.a9 r), (RS.a10 r), (RS.a12 r), (RS.a13 r), (RS.a14 r), (RS.a16 r), (RS.a17 r)]; done) | (intro z9 h9; by_cases e : z9 = ni <;> first | (rw [e]; simp (disch := omega) only [u2_ne, u2_same, u2_self, mm_z, (RS.f4 r), (RS.f5 r), (RS.f6 r), (RS.f7 r), (RS.f8 r), (RS.f9 r), (RS.f10 r), (RS.f11 r), (RS.f12 r), (RS.f13 r), (RS.cb r), (RS.cs r), (RS.cc r), (RS.ci r), (RS.a2 r), (RS.a3 r), (RS.a5 r), (RS.a6 r), (RS.a7 r), (RS.a8 r), (RS.a9 r), (RS.a10 r), (RS.a12 r), (RS.a13 r), (RS.a14 r), (RS.a16 r), (RS.a17 r)]; done) | (simp (disch := omega) only [u2_ne, u2_same, u2_self, mm_z, (RS.f4 r), (RS.f5 r), (RS.f6 r), (RS.f7 r), (RS.f8 r), (RS.f9 r), (RS.f10 r), (RS.f11 r), (RS.f12 r), (RS.f13 r), (RS.cb r), (RS.cs r), (RS.cc r), (RS.ci r), (RS.a2 r), (RS.a3 r), (RS.a5 r), (RS.a6 r), (RS.a7 r), (RS.a8 r), (RS.a9 r), (RS.a10 r), (RS.a12 r), (RS.a13 r), (RS.a14 r), (RS.a16 r), (RS.a17 r)]; done))
    · apply Iv.mk
      · omega
      · omega
      · omega
      · omega
      · simp (disch := omega) only [u2_same, u2_self]; exact i.cb
      · simp (disch := omega) only [u2_same, u2_self]; exact i.cs
      · simp (disch := omega) only [u2_same, u2_self]; exact i.cc
      · simp (disch := omega) only [u2_same, u2_self]
      · simp (disch := omega) only [u2_same, u2_self]; exact i.sg
      · simp (disch := omega) only [u2_same, u2_self]; exact i.st
      · simp (disch := omega) only [u2_same, u2_self]; exact i.tu
      · intro j hj; simp (disch := omega) only [u2_same, u2_self]; exact i.ba j hj
      · intro j hj; simp (disch := omega) only [u2_same, u2_self]; exact i.sp j hj
      · intro j hj; simp (disch := omega) only [u2_same, u2_self]; exact i.sw j hj
      · intro j hj; simp (disch := omega) only [u2_same, u2_self]; exact i.tt j hj
      · intro j hj; simp (disch := omega) only [u2_same, u2_self]; exact i.sh j hj
      · intro j hj; simp (disch := omega) only [u2_same, u2_self]; exact i.sl j hj
      · intro j hj; simp (disch := omega) only [u2_same, u2_self]; exact i.su j hj
      · intro j hj; simp (disch := omega) only [u2_same, u2_self]; exact i.ck j hj
      · intro j hj; simp (disch := omega) only [u2_same, u2_self]; exact i.cp j hj
      · intro j hj
        by_cases e : j = ni
        · rw [e]; simp (disch := omega) only [u2_same, u2_self]; exact ⟨g, gu, rfl⟩
        · simp (disch := omega) only [u2_same, u2_self]; exact i.nn j (by omega)
      · intro g j hj; simp (disch := omega) only [u2_same, u2_self] at g ⊢; exact i.gr g j hj
      · intro j c hj hc g; simp (disch := omega) only [u2_same, u2_self] at g ⊢; exact i.nc0 j c hj hc g
theorem Z_tie {σ τ : St} {u nx : Nat} (h : Sc σ 5 (τ 249)) (hh : Hh σ u nx) (h4 : τ 248 4 = 0) (p : Int32) : PC u nx σ τ (M_X10_tie σ 0 p) (M_X11_tie τ 248 p) := by
  unfold M_X10_tie M_X11_tie
  simp only [Nat.zero_add]
  exact chz h hh h4 (fun s => M_X8_tieAnew s 1 p) _ (fun σ τ h => by
    obtain ⟨nb, ns, nc, ni, r, i⟩ := id h
    exact (O_tie r i p).toK)
theorem Z_up {σ τ : St} {u nx : Nat} (h : Sc σ 5 (τ 249)) (hh : Hh σ u nx) (h4 : τ 248 4 = 0) (p q : Int32) : PC u nx σ τ (M_X10_up σ 0 p q) (M_X11_up τ 248 p q) := by
  unfold M_X10_up M_X11_up
  simp only [Nat.zero_add]
  exact chz h hh h4 (fun s => M_X8_sendUp s 1 p q) _ (fun σ τ h => by
    obtain ⟨nb, ns, nc, ni, r, i⟩ := id h
    exact (O_up r i p q).toK)
theorem Z_down {σ τ : St} {u nx : Nat} (h : Sc σ 5 (τ 249)) (hh : Hh σ u nx) (h4 : τ 248 4 = 0) (p : Int32) : PC u nx σ τ (M_X10_down σ 0 p) (M_X11_down τ 248 p) := by
  unfold M_X10_down M_X11_down
  simp only [Nat.zero_add]
  exact chz h hh h4 (fun s => M_X8_callDown s 1 p) _ (fun σ τ h => by
    obtain ⟨nb, ns, nc, ni, r, i⟩ := id h
    exact (O_down r i p).toK)
theorem Z_lift {σ τ : St} {u nx : Nat} (h : Sc σ 5 (τ 249)) (hh : Hh σ u nx) (h4 : τ 248 4 = 0) (p q : Int32) : PC u nx σ τ (M_X10_lift σ 0 p q) (M_X11_lift τ 248 p q) := by
  unfold M_X10_lift M_X11_lift
  simp only [Nat.zero_add]
  exact chz h hh h4 (fun s => M_X8_bringLoads s 1 p q) _ (fun σ τ h => by
    obtain ⟨nb, ns, nc, ni, r, i⟩ := id h
    exact (O_lift r i p q).toK)
theorem Z_build {σ τ : St} {u nx : Nat} (h : Sc σ 5 (τ 249)) (hh : Hh σ u nx) (h4 : τ 248 4 = 0) (p q w : Int32) : PC u nx σ τ (M_X10_build σ 0 p q w) (M_X11_build τ 248 p q w) := by
  unfold M_X10_build M_X11_build
  simp only [Nat.zero_add]
  exact chz h hh h4 (fun s => M_X8_addStorey s 1 p q w) _ (fun σ τ h => by
    obtain ⟨nb, ns, nc, ni, r, i⟩ := id h
    exact (O_build r i p q w).toK)
theorem Z_signal {σ τ : St} {u nx : Nat} (h : Sc σ 5 (τ 249)) (hh : Hh σ u nx) (h4 : τ 248 4 = 0) (p : Int32) : PC u nx σ τ (M_X10_signal σ 0 p) (M_X11_signal τ 248 p) := by
  unfold M_X10_signal M_X11_signal
  simp only [Nat.zero_add]
  exact chz h hh h4 (fun s => M_X8_changeSignal s 1 p) _ (fun σ τ h => by
    obtain ⟨nb, ns, nc, ni, r, i⟩ := id h
    exact (O_signal r i p).toK)
theorem Z_inspect {σ τ : St} {u nx : Nat} (h : Sc σ 5 (τ 249)) (hh : Hh σ u nx) (h4 : τ 248 4 = 0) (p q : Int32) : PC u nx σ τ (M_X10_inspect σ 0 p q) (M_X11_inspect τ 248 p q) := by
  unfold M_X10_inspect M_X11_inspect
  simp only [Nat.zero_add]
  exact chz h hh h4 (fun s => M_X8_lookAt s 1 p q) _ (fun σ τ h => by
    obtain ⟨nb, ns, nc, ni, r, i⟩ := id h
    exact (O_inspect r i p q).toK)
theorem Z_day {σ τ : St} {u nx : Nat} (h : Sc σ 5 (τ 249)) (hh : Hh σ u nx) (h4 : τ 248 4 = 0) (p : Int32) : PC u nx σ τ (M_X10_day σ 0 p) (M_X11_day τ 248 p) := by
  unfold M_X10_day M_X11_day
  simp only [Nat.zero_add]
  exact chz h hh h4 (fun s => M_X8_passDays s 1 p) _ (fun σ τ h => by
    obtain ⟨nb, ns, nc, ni, r, i⟩ := id h
    exact (O_day r i p).toK)
