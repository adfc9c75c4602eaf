theorem nar_nat : ∀ c, c < 128 → vp_nar .char (Int32.ofNat c) = Int32.ofNat c := by decide +kernel
theorem bcast_nat {α : Type} {σ : St} {k i : Nat} {x : Int32} {K : St → Option α} (h : i < ln k) : bcast σ k (Int32.ofNat i) x K = K (u2 σ k i (vp_nar .char x)) := by
  have h1 := ln_le k
  unfold bcast
  rw [oN_toInt (by omega), oN_clamp (by omega), if_pos (by omega)]
theorem Co.input {σ τ σ1 τ1 : St} (h : Co σ τ) (hP : Pin σ1 τ1) (a : ∀ k, (k < 241 ∨ k = 243 ∨ k = 244) → σ1 k = σ k) (b : ∀ k, (k = 249 ∨ (252 ≤ k ∧ k < 255) ∨ k = 257) → τ1 k = τ k) (c : ∀ q, (q = 4 ∨ q = 6 ∨ q = 8 ∨ q = 14 ∨ q = 16) → τ1 248 q = τ 248 q) : Co σ1 τ1 :=
  ⟨h.now.cg (fun k _ h2 => a k (by omega)) (fun q _ => by rw [b 249 (by omega)]), h.sv.cg (by rw [a 0 (by omega)]) (c 6 (by omega)) (fun k _ h2 => a k (by omega)) (fun q _ => by rw [b 253 (by omega)]),
    h.hi.cg (a 59 (by omega)) (c 4 (by omega)) (fun k _ h2 => a k (by omega)) (b 252 (by omega)), hP,
    h.lin.cg (by rw [a 243 (by omega)]) (c 8 (by omega)) (a 244 (by omega)) (b 254 (by omega)), by unfold Pfl; rw [a 0 (by omega), c 14 (by omega)]; exact h.fl,
    h.re.cg (by rw [a 2 (by omega)]) (c 16 (by omega)) (a 3 (by omega)) (a 4 (by omega)) (b 257 (by omega))⟩
theorem Co.line {σ τ σ1 τ1 : St} (h : Co σ τ) (hP : Pli σ1 τ1) (a : ∀ k, k ≠ 243 → k ≠ 244 → σ1 k = σ k) (b : ∀ k, k ≠ 248 → k ≠ 254 → τ1 k = τ k) (c : ∀ q, q ≠ 8 → τ1 248 q = τ 248 q) : Co σ1 τ1 :=
  ⟨h.now.cg (fun k _ h2 => a k (by omega) (by omega)) (fun q _ => by rw [b 249 (by omega) (by omega)]), h.sv.cg (by rw [a 0 (by omega) (by omega)]) (c 6 (by omega)) (fun k _ h2 => a k (by omega) (by omega)) (fun q _ => by rw [b 253 (by omega) (by omega)]),
    h.hi.cg (a 59 (by omega) (by omega)) (c 4 (by omega)) (fun k _ h2 => a k (by omega) (by omega)) (b 252 (by omega) (by omega)), h.inp.cg (by rw [a 241 (by omega) (by omega)]) (c 10 (by omega)) (a 242 (by omega) (by omega)) (b 255 (by omega) (by omega)),
    hP, by unfold Pfl; rw [a 0 (by omega) (by omega), c 14 (by omega)]; exact h.fl,
    h.re.cg (by rw [a 2 (by omega) (by omega)]) (c 16 (by omega)) (a 3 (by omega) (by omega)) (a 4 (by omega) (by omega)) (b 257 (by omega) (by omega))⟩
theorem Co.moved {σ τ σ1 τ1 : St} (h : Co σ τ) (hS : Sc σ1 5 (τ1 249)) (hP : Phi σ1 τ1) (a : ∀ k, (k < 5 ∨ (41 ≤ k ∧ k < 59) ∨ (241 ≤ k ∧ k < 245)) → σ1 k = σ k) (b : ∀ k, (k = 253 ∨ k = 254 ∨ k = 255 ∨ k = 257) → τ1 k = τ k) (c : ∀ q, (q = 6 ∨ q = 8 ∨ q = 10 ∨ q = 14 ∨ q = 16) → τ1 248 q = τ 248 q) : Co σ1 τ1 :=
  ⟨hS, h.sv.cg (by rw [a 0 (by omega)]) (c 6 (by omega)) (fun k h1 h2 => a k (by omega)) (fun q _ => by rw [b 253 (by omega)]),
    hP, h.inp.cg (by rw [a 241 (by omega)]) (c 10 (by omega)) (a 242 (by omega)) (b 255 (by omega)),
    h.lin.cg (by rw [a 243 (by omega)]) (c 8 (by omega)) (a 244 (by omega)) (b 254 (by omega)), by unfold Pfl; rw [a 0 (by omega), c 14 (by omega)]; exact h.fl,
    h.re.cg (by rw [a 2 (by omega)]) (c 16 (by omega)) (a 3 (by omega)) (a 4 (by omega)) (b 257 (by omega))⟩
theorem Q_append {σ τ : St} (h : Co σ τ) (p : Int32) : Pair σ τ (M_X10_append σ 0 p) (M_X11_append τ 248 p) (fun v w => v = w) := by
  obtain ⟨n, hn, e1, e2, e3⟩ := h.inp
  have ni1 : ¬ ((1 : Int32) = 0) := by decide
  unfold M_X10_append M_X11_append
  simp only [Nat.zero_add]
  rcases in_pair (σ := σ) (τ := τ) p 32 126 with ⟨a1, a2, _⟩ | ⟨a1, a2, l1, u1⟩
  · simp only [a1, a2, bcall_some, ↓reduceIte]
    exact Pair.q h rfl rfl rfl
  obtain ⟨c, cl, cu, rfl⟩ := rng (m := 32) (n := 126) (by decide) (by decide) l1 u1
  rw [bcall_of a1, bcall_of a2, if_neg ni1, if_neg ni1, e1, e2]
  by_cases c60 : n = 60
  · subst c60
    rw [if_neg (by decide), if_pos (by decide)]
    exact Pair.q h rfl rfl rfl
  · have l242 : ln (241 + 1) = 60 := by decide +kernel
    have l255 : ln (248 + 7) = 60 := by decide +kernel
    have p1 : M_X4_put σ 241 (Int32.ofNat c) = some (u2 (u2 σ 242 n (Int32.ofNat c)) 241 1 (Int32.ofNat (n + 1)), 0) := by
      unfold M_X4_put
      rw [e1, if_neg (fun q => (oN_nn (a := n) (by omega)).mp q), if_neg (oN_nle (by rw [l242]; decide) (by omega) (by rw [l242]; omega)), bcast_nat (by rw [l242]; omega), bput_eq, u2_ne (by decide), e1, oN_al, nar_nat c (by omega)]
    rw [if_pos (of_eq_true (oN_ltTl (by decide) (by show n < 60; omega))), if_neg (of_eq_false (oN_eqFl (by omega) (by decide) (by show n ≠ 60; omega))), bcall_of p1, blet_eq, bput_eq, bcast_nat (by rw [l255]; omega), oN_al, nar_nat c (by omega)]
    refine ⟨_, _, _, _, rfl, rfl, ?_, ?_, fun k hk => by rw [u2_ne (by omega), u2_ne (by omega)], fun k hk => by rw [u2_ne (by omega), u2_ne (by omega)]⟩
    · rw [u2_self, u2_ne (by decide), u2_self]
    · refine h.input ⟨n + 1, by omega, by rw [u2_self], by rw [u2_ne (by decide), u2_self], fun j hj => ?_⟩ (fun k hk => by rw [u2_ne (by omega), u2_ne (by omega)]) (fun k hk => by rw [u2_ne (by omega), u2_ne (by omega)]) (fun q hq => by rw [u2_ne (by decide), u2_same (by omega)])
      by_cases e : j = n
      · rw [e]
        exact ⟨c, cl, cu, by rw [u2_ne (by decide), u2_self], by rw [u2_self]⟩
      · obtain ⟨g, g1, g2, g3, g4⟩ := e3 j (by omega)
        exact ⟨g, g1, g2, by rw [u2_ne (by decide), u2_same e]; exact g3, by rw [u2_same e, u2_ne (by decide)]; exact g4⟩
/-- the reference's beginning -/
theorem begins_ex (τ : St) : ∃ τ1, M_X11_begins τ 248 = some (τ1, 0) ∧ (∀ k, k ≠ 249 → τ1 k = τ k) ∧ ∀ q, q < 111 → τ1 249 q = if q = 6 then 60 else if q = 7 then 20 else 0 := by
  refine one (F := fun n a x => B_X11_begins_2 n a 248 x) (I := fun q a => (∀ k, k ≠ 249 → a k = τ k) ∧ ∀ z, z < q → a 249 z = 0) (P := fun x => ∃ τ1, x = some (τ1, 0) ∧ (∀ k, k ≠ 249 → τ1 k = τ k) ∧ ∀ q, q < 111 → τ1 249 q = if q = 6 then 60 else if q = 7 then 20 else 0) (N := 111) ?_ ?_ 111 0 FU τ (by omega) (FU_lt (by omega)) ⟨fun _ _ => rfl, fun z hz => by omega⟩
  · rintro n a ⟨h1, h2⟩
    refine ⟨u2 (u2 a 249 6 60) 249 7 20, ?_, fun k hk => by rw [u2_ne hk, u2_ne hk]; exact h1 k hk, fun q hq => ?_⟩
    · simp (disch := omega) only [B_X11_begins_2, oN_lleT, ↓reduceIte, x_stl]
    · by_cases c7 : q = 7
      · rw [c7, u2_self, if_neg (by decide), if_pos rfl]
      · by_cases c6 : q = 6
        · rw [c6, u2_same (by decide), u2_self, if_pos rfl]
        · rw [u2_same c7, u2_same c6, if_neg c6, if_neg c7]; exact h2 q hq
  · rintro n j a hj ⟨h1, h2⟩
    refine Or.inr ⟨u2 a 249 j 0, ?_, fun k hk => by rw [u2_ne hk]; exact h1 k hk, fun z hz => ?_⟩
    · simp (disch := omega) only [B_X11_begins_2, oN_lleF, ↓reduceIte, x_stt, blet_eq, oN_al]
    · by_cases e : z = j
      · rw [e, u2_self]
      · rw [u2_same e]; exact h2 z (by omega)
/-- the class's: cell b made bare -/
def bareS (σ : St) : St := u2 (u2 (u2 (u2 (u2 (u2 (u2 (u2 (u2 (u2 (u2 (u2 (u2 (u2 σ 6 2 0) 9 6 0) 16 3 0) 20 2 0) 5 4 0) 5 5 0) 5 6 60) 5 7 20) 5 8 0) 5 9 0) 5 10 0) 5 11 0) 5 12 0) 5 13 0
theorem bare_ex {σ : St} {ns : Nat} (hs : σ 9 6 = Int32.ofNat ns) (h10 : ns ≤ 10) : M_X7_makeBare σ 5 = some (bareS σ, 0) := by
  have m1 : imin (Int32.ofNat ns) 0 = 0 := by rw [show (0 : Int32) = Int32.ofNat 0 from rfl, imin_nat (by omega) (by omega), Nat.min_zero]
  have m2 : imax 0 0 = 0 := by decide
  unfold M_X7_makeBare M_X0_makeNone M_X9_cutTo M_X1_makeNone M_X3_makeNone
  simp only [Nat.reduceAdd]
  rw [bput_eq, bcall_some, u2_ne (by decide), hs, m1, blet_eq, m2]
  simp only [blet_eq, bput_eq, bcall_some]
  rfl
theorem bare_sc {σ τ : St} (ht : ∀ q, q < 111 → τ 249 q = if q = 6 then 60 else if q = 7 then 20 else 0) : Sc (bareS σ) 5 (τ 249) := by
  have t : ∀ q, q ≠ 6 → q ≠ 7 → q < 111 → τ 249 q = 0 := fun q h1 h2 h3 => by rw [ht q h3, if_neg h1, if_neg h2]
  have t6 : τ 249 6 = 60 := by rw [ht 6 (by decide)]; rfl
  have t7 : τ 249 7 = 20 := by rw [ht 7 (by decide)]; rfl
  refine ⟨0, 0, 0, 0, ?_, ?_⟩
  · unfold bareS
    apply RS.mk
    exact B5
    all_goals first
      | (simp (disch := omega) only [u2_ne, u2_same, u2_self, t6, t7, t]; done)
      | (simp (disch := omega) only [u2_ne, u2_same, u2_self]; rfl)
      | (intro z9 h9; omega)
  · apply Iv.mk
    · omega
    · omega
    · omega
    · omega
    · rw [t 2 (by decide) (by decide) (by decide)]; rfl
    · rw [t 3 (by decide) (by decide) (by decide)]; rfl
    · rw [t 4 (by decide) (by decide) (by decide)]; rfl
    · rw [t 5 (by decide) (by decide) (by decide)]; rfl
    · exact ⟨0, by decide, t 1 (by decide) (by decide) (by decide)⟩
    · exact ⟨60, by decide, t6⟩
    · exact ⟨20, by decide, t7⟩
    all_goals first
      | (intro z9 h9; omega)
      | (intro g z9 h9; omega)
      | (intro z9 c h9; omega)
theorem Q_clear {σ τ : St} (h : Co σ τ) : Pair σ τ (M_X10_clear σ 0) (M_X11_clear τ 248) (fun v w => v = w) := by
  obtain ⟨nb, ns, nc, ni, r, i⟩ := h.now
  obtain ⟨u, nx, h1, h2, h3, h4, h5, h6⟩ := h.hi
  have b1 := bare_ex (σ := σ) r.cs i.hs
  obtain ⟨τ1, t1, t2, t3⟩ := begins_ex τ
  have fr : ∀ k, (k < 5 ∨ 23 ≤ k) → bareS σ k = σ k := fun k hk => by unfold bareS; simp (disch := omega) only [u2_ne]
  have x0 : ∀ (K : Int32 → Option (St × Int32)), bald τ (248 + 1) 0 K = K (τ 249 0) := fun K => x_ldl (by decide)
  unfold M_X10_clear M_X11_clear M_X2_forget
  simp only [Nat.zero_add]
  rw [blet_eq, bcall_of b1, bput_eq, bcall_some, x0, bcall_of t1, bput_eq]
  refine ⟨_, _, _, _, rfl, rfl, r.f4, ?_, fun k hk => by rw [u2_ne (by omega)]; exact fr k (by omega), fun k hk => by rw [u2_ne (by omega)]; exact t2 k (by omega)⟩
  refine h.moved ?_ ⟨0, nx, by omega, h2, by rw [u2_self]; rfl, by rw [u2_self]; rfl, by rw [u2_same (by decide), fr 59 (by omega)]; exact h5, fun j hj => by omega⟩ (fun k hk => by rw [u2_ne (by omega)]; exact fr k (by omega)) (fun k hk => by rw [u2_ne (by omega)]; exact t2 k (by omega)) (fun q hq => by rw [u2_same (by omega), t2 248 (by decide)])
  exact (bare_sc t3).cg (fun k _ h2 => by rw [u2_ne (by omega)]) (fun q _ => by rw [u2_ne (by decide)])
theorem Q_undo {σ τ : St} (h : Co σ τ) : Pair σ τ (M_X10_undo σ 0) (M_X11_undo τ 248) (fun v w => v = w) := by
  obtain ⟨u, nx, h1, h2, h3, h4, h5, h6⟩ := h.hi
  unfold M_X10_undo M_X11_undo
  simp only [Nat.zero_add]
  rw [h3, h4]
  by_cases c : u = 0
  · subst c
    rw [if_pos (by decide), if_pos (by decide)]
    exact Pair.q h rfl rfl rfl
  have cn : ¬ (Int32.ofNat u = (0 : Int32)) := fun q => c ((oN_eq (b := 0) (by omega) (by decide)).mp q)
  obtain ⟨u, rfl⟩ : ∃ k, u = k + 1 := ⟨u - 1, by omega⟩
  rw [if_neg cn, if_neg cn]
  -- the class
  have s1 : M_X2_stepBack σ 59 = some (u2 (u2 σ 59 2 (Int32.ofNat ((nx + 8) % 9))) 59 3 (Int32.ofNat u), pl ((nx + 8) % 9)) := by
    have e := noted_ex (σ := u2 (u2 σ 59 2 (Int32.ofNat ((nx + 8) % 9))) 59 3 (Int32.ofNat u)) (nx := (nx + 8) % 9) (by rw [u2_same (by decide), u2_self]) (by omega)
    have e0 : Int32.ofNat nx + 9 - 1 = Int32.ofNat (nx + 8) := by rw [oN_al]; exact oN_sl (a := nx + 9) (n := 1) (by show 1 ≤ nx + 9; omega)
    unfold M_X2_stepBack
    rw [bput_eq, bput_eq, h5, e0, mod9 _ (by omega), u2_same (by decide), h4, oN_s1, bcall_of e]
  obtain ⟨σ1, t1, t2, t3⟩ := take_sc (u2 (u2 σ 59 2 (Int32.ofNat ((nx + 8) % 9))) 59 3 (Int32.ofNat u)) (k := 5) (a := pl ((nx + 8) % 9)) B5 (Bp _ (by omega)) (by unfold pl; omega)
  have fs : ∀ k, k ≠ 59 → (k < 5 ∨ 23 ≤ k) → σ1 k = σ k := fun k q1 q2 => by rw [t3 k (by omega), u2_ne q1, u2_ne q1]
  rw [bcall_of s1, bcall_of t1, bput_eq, oN_s1]
  -- the reference
  have k1 := copyLoop (fun n σ x => B_X11_undo_22 n σ 248 x) (fun σ => some (σ, σ 248 4)) 111 (248 + 4) (248 + 1) (111 * u) 0 (fun σ x => ((111 : Int32) * (σ 248 4)) + x) (fun _ x => x) (u2 τ 248 4 (Int32.ofNat u)) (fun n σ x => rfl) (fun f j _ => by
      show (111 : Int32) * (va_up (u2 τ 248 4 (Int32.ofNat u)) (248 + 1) f 248 4) + Int32.ofNat j = _
      rw [up_ne (by decide), u2_self, oN_lm, oN_add]) (fun f j _ => by rw [Nat.zero_add]) (by rw [show ln (248 + 4) = 888 from by decide +kernel]; omega) (by decide +kernel) (Or.inl (by decide)) (by decide)
  refine ⟨σ1, _, _, _, rfl, k1, ?_, ?_, fun k hk => fs k (by omega) (by omega), fun k hk => by rw [up_ne (by omega), u2_ne (by omega)]⟩
  · show σ1 59 3 = va_up (u2 τ 248 4 (Int32.ofNat u)) (248 + 1) _ 248 4
    rw [up_ne (by decide), u2_self, t3 59 (by omega), u2_self]
  · have r249 : ∀ q, q < 111 → va_up (u2 τ 248 4 (Int32.ofNat u)) (248 + 1) (fun q => if 0 ≤ q ∧ q < 0 + 111 then u2 τ 248 4 (Int32.ofNat u) (248 + 4) (111 * u + (q - 0)) else u2 τ 248 4 (Int32.ofNat u) (248 + 1) q) 249 q = kr τ u q := fun q hq => by
      rw [up_at]
      show (if 0 ≤ q ∧ q < 0 + 111 then u2 τ 248 4 (Int32.ofNat u) 252 (111 * u + (q - 0)) else u2 τ 248 4 (Int32.ofNat u) 249 q) = τ 252 (111 * u + q)
      rw [if_pos (by omega), u2_ne (by decide), Nat.sub_zero]
    refine h.moved ((t2 (kr τ u) ?_).cg (fun _ _ _ => rfl) r249) ⟨u, (nx + 8) % 9, by omega, by omega, by rw [up_ne (by decide), u2_self], by rw [t3 59 (by omega), u2_self], by rw [t3 59 (by omega), u2_same (by decide), u2_self], fun j hj => ?_⟩ (fun k hk => fs k (by omega) (by omega)) (fun k hk => by rw [up_ne (by omega), u2_ne (by omega)]) (fun q hq => by rw [up_ne (by decide), u2_same (by omega)])
    · have z := h6 0 (by omega)
      rw [show nx + 8 - 0 = nx + 8 from rfl, show u + 1 - 1 - 0 = u by omega] at z
      have hp : pl ((nx + 8) % 9) = 79 + 18 * ((nx + 8) % 9) := rfl
      exact z.cg (fun k h1 _ => by rw [u2_ne (by omega), u2_ne (by omega)]) (fun _ _ => rfl)
    · have z := h6 (j + 1) (by omega)
      rw [show (nx + 8 - (j + 1)) % 9 = ((nx + 8) % 9 + 8 - j) % 9 by omega, show u + 1 - 1 - (j + 1) = u - 1 - j by omega] at z
      have hp : pl (((nx + 8) % 9 + 8 - j) % 9) = 79 + 18 * (((nx + 8) % 9 + 8 - j) % 9) := rfl
      refine z.cg (fun k h1 _ => fs k (by omega) (by omega)) (fun q _ => ?_)
      show va_up (u2 τ 248 4 (Int32.ofNat u)) (248 + 1) _ 252 _ = τ 252 _
      rw [up_ne (by decide), u2_ne (by decide)]
theorem Q_save {σ τ : St} (h : Co σ τ) : Pair σ τ (M_X10_save σ 0) (M_X11_save τ 248) (fun v w => v = w) := by
  obtain ⟨nb, ns, nc, ni, r, i⟩ := h.now
  obtain ⟨σ1, t1, t2, t3⟩ := take_sc σ (k := 41) (a := 5) B41 B5 (by omega)
  unfold M_X10_save M_X11_save
  simp only [Nat.zero_add]
  rw [bcall_of t1, bput_eq, bput_eq]
  have k1 := copyLoop (fun n σ x => B_X11_save_7 n σ 248 x) (fun σ => bald σ (248 + 1) (0 : Int32) fun q2 => some (σ, q2)) 111 (248 + 1) (248 + 5) 0 0 (fun _ x => x) (fun _ x => x) (u2 τ 248 6 1) (fun n σ x => rfl) (fun f j _ => by rw [Nat.zero_add]) (fun f j _ => by rw [Nat.zero_add]) (by decide +kernel) (by decide +kernel) (Or.inl (by decide)) (by decide)
  refine ⟨_, va_up (u2 τ 248 6 1) 253 (fun q => if 0 ≤ q ∧ q < 0 + 111 then u2 τ 248 6 1 249 (0 + (q - 0)) else u2 τ 248 6 1 253 q), _, τ 249 0, rfl, k1.trans ?_, ?_, ?_, fun k hk => by rw [u2_ne (by omega), t3 k (by omega)], fun k hk => by rw [up_ne (by omega), u2_ne (by omega)]⟩
  · refine (x_ldl (n := 0) (by decide)).trans ?_
    show some (_, va_up (u2 τ 248 6 1) 253 _ 249 0) = _
    rw [up_ne (by decide), u2_ne (by decide)]
  · rw [u2_ne (by decide), t3 5 (by omega)]; exact r.f4
  · have z : Sc (u2 σ1 0 8 1) 41 (va_up (u2 τ 248 6 1) 253 (fun q => if 0 ≤ q ∧ q < 0 + 111 then u2 τ 248 6 1 249 (0 + (q - 0)) else u2 τ 248 6 1 253 q) 253) := (t2 _ h.now).cg (fun k h1 _ => by rw [u2_ne (by omega)]) (fun q hq => by
      rw [up_at, if_pos (by omega), u2_ne (by decide), Nat.zero_add, Nat.sub_zero])
    refine ⟨h.now.cg (fun k h1 h2 => by rw [u2_ne (by omega), t3 k (by omega)]) (fun q _ => by rw [up_ne (by decide), u2_ne (by decide)]), Or.inr ⟨by rw [u2_self], by rw [up_ne (by decide), u2_self], z⟩,
      h.hi.cg (by rw [u2_ne (by decide), t3 59 (by omega)]) (by rw [up_ne (by decide), u2_same (by decide)]) (fun k h1 h2 => by rw [u2_ne (by omega), t3 k (by omega)]) (by rw [up_ne (by decide), u2_ne (by decide)]),
      h.inp.cg (by rw [u2_ne (by decide), t3 241 (by omega)]) (by rw [up_ne (by decide), u2_same (by decide)]) (by rw [u2_ne (by decide), t3 242 (by omega)]) (by rw [up_ne (by decide), u2_ne (by decide)]),
      h.lin.cg (by rw [u2_ne (by decide), t3 243 (by omega)]) (by rw [up_ne (by decide), u2_same (by decide)]) (by rw [u2_ne (by decide), t3 244 (by omega)]) (by rw [up_ne (by decide), u2_ne (by decide)]),
      by unfold Pfl; rw [u2_same (by decide), t3 0 (by omega), up_ne (by decide), u2_same (by decide)]; exact h.fl,
      h.re.cg (by rw [u2_ne (by decide), t3 2 (by omega)]) (by rw [up_ne (by decide), u2_same (by decide)]) (by rw [u2_ne (by decide), t3 3 (by omega)]) (by rw [u2_ne (by decide), t3 4 (by omega)]) (by rw [up_ne (by decide), u2_ne (by decide)])⟩
theorem Q_restore {σ τ : St} (h : Co σ τ) : Pair σ τ (M_X10_restore σ 0) (M_X11_restore τ 248) (fun v w => v = w) := by
  obtain ⟨u, nx, h1, h2, h3, h4, h5, h6⟩ := h.hi
  unfold M_X10_restore M_X11_restore
  rcases h.sv with ⟨s1, s2⟩ | ⟨s1, s2, s3⟩
  · rw [s1, s2, if_pos rfl, if_pos rfl]
    exact Pair.q h rfl rfl rfl
  have ni1 : ¬ ((1 : Int32) = 0) := by decide
  obtain ⟨σ1, t1, t2, t3⟩ := take_sc σ (k := 5) (a := 41) B5 B41 (by omega)
  have z0 := t2 _ s3
  obtain ⟨nb, ns, nc, ni, r, i⟩ := z0
  simp only [Nat.zero_add]
  rw [s1, s2, if_neg ni1, if_neg ni1, bcall_of t1]
  unfold M_X2_forget
  rw [bput_eq, bcall_some]
  have k1 := copyLoop (fun n σ x => B_X11_restore_12 n σ 248 x) (fun σ => bput σ 248 4 (0 : Int32) fun σ1 => bald σ1 (248 + 1) (0 : Int32) fun q2 => some (σ1, q2)) 111 (248 + 5) (248 + 1) 0 0 (fun _ x => x) (fun _ x => x) τ (fun n σ x => rfl) (fun f j _ => by rw [Nat.zero_add]) (fun f j _ => by rw [Nat.zero_add]) (by decide +kernel) (by decide +kernel) (Or.inl (by decide)) (by decide)
  have r249 : ∀ q, q < 111 → u2 (va_up τ 249 (fun q => if 0 ≤ q ∧ q < 0 + 111 then τ 253 (0 + (q - 0)) else τ 249 q)) 248 4 0 249 q = τ 253 q := fun q hq => by
    rw [u2_ne (by decide), up_at, if_pos (by omega), Nat.zero_add, Nat.sub_zero]
  refine ⟨_, u2 (va_up τ 249 (fun q => if 0 ≤ q ∧ q < 0 + 111 then τ 253 (0 + (q - 0)) else τ 249 q)) 248 4 0, _, τ 253 0, rfl, k1.trans ?_, ?_, ?_, fun k hk => by rw [u2_ne (by omega), t3 k (by omega)], fun k hk => by rw [u2_ne (by omega), up_ne (by omega)]⟩
  · rw [bput_eq]
    refine (x_ldl (n := 0) (by decide)).trans ?_
    exact congrArg (fun z => some (_, z)) (r249 0 (by decide))
  · rw [u2_ne (by decide)]; exact r.f4
  · refine h.moved (Sc.cg ⟨nb, ns, nc, ni, r, i⟩ (fun k h1 h2 => by rw [u2_ne (by omega)]) r249) ⟨0, nx, by omega, h2, by rw [u2_self]; rfl, by rw [u2_self]; rfl, by rw [u2_same (by decide), t3 59 (by omega)]; exact h5, fun j hj => by omega⟩ (fun k hk => by rw [u2_ne (by omega), t3 k (by omega)]) (fun k hk => by rw [u2_ne (by omega), up_ne (by omega)]) (fun q hq => by rw [u2_same (by omega), up_ne (by decide)])
theorem sw_of {p : Int32} {n : Nat} (hn : n < 1000) (c : ¬ (p.toInt < 0 ∨ (n : Int) < p.toInt)) : ∃ k, k ≤ n ∧ p = Int32.ofNat k := by
  refine ⟨p.toInt.toNat, by omega, ?_⟩
  apply Int32.toInt_inj.mp
  rw [oN_toInt (by omega)]; omega
theorem Q_account {σ τ : St} (h : Co σ τ) (p : Int32) : Pair σ τ (M_X10_account σ 0 p) (M_X11_account τ 248 p) (fun v w => v = w) := by
  obtain ⟨nb, ns, nc, ni, r, i⟩ := h.now
  unfold M_X10_account M_X11_account
  simp only [Nat.zero_add]
  by_cases c : p.toInt < 0 ∨ 18 < p.toInt
  · rw [if_pos c, if_pos c]
    exact Pair.q h rfl rfl rfl
  rw [if_neg c, if_neg c]
  obtain ⟨k, hk, rfl⟩ := sw_of (n := 18) (by decide) c
  have hk2 : k = 0 ∨ k = 1 ∨ k = 2 ∨ k = 3 ∨ k = 4 ∨ k = 5 ∨ k = 6 ∨ k = 7 ∨ k = 8 ∨ k = 9 ∨ k = 10 ∨ k = 11 ∨ k = 12 ∨ k = 13 ∨ k = 14 ∨ k = 15 ∨ k = 16 ∨ k = 17 ∨ k = 18 := by omega
  rcases hk2 with rfl | rfl | rfl | rfl | rfl | rfl | rfl | rfl | rfl | rfl | rfl | rfl | rfl | rfl | rfl | rfl | rfl | rfl | rfl
  · have tk : (Int32.ofNat 0).toInt = 0 := rfl
    rw [tk]
    simp only [show ((0 : Int) = 0) = True from eq_true rfl, ↓reduceIte]
    simp (disch := omega) only [i10, bcall_some, blet_eq, bput_eq, at_2 (RS.B r), at_3 (RS.B r), at_5 (RS.B r), at_6 (RS.B r), at_7 (RS.B r), at_8 (RS.B r), at_9 (RS.B r), at_10 (RS.B r), at_12 (RS.B r), at_13 (RS.B r), at_14 (RS.B r), at_16 (RS.B r), at_17 (RS.B r), put_2 (RS.B r), put_3 (RS.B r), put_5 (RS.B r), put_6 (RS.B r), put_7 (RS.B r), put_8 (RS.B r), put_9 (RS.B r), put_10 (RS.B r), put_12 (RS.B r), put_13 (RS.B r), put_14 (RS.B r), put_16 (RS.B r), put_17 (RS.B r), x_ofl, x_of, x_setsl, x_sets, x_ld, x_ldl, x_stt, x_stl, x_where, oN_al, oN_la, oN_lm, u2_ne, u2_same, u2_self, (RS.cb r), (RS.cs r), (RS.cc r), (RS.ci r), (Iv.cb i), (Iv.cs i), (Iv.cc i), (Iv.ci i), (RS.a2 r), (RS.a3 r), (RS.a5 r), (RS.a6 r), (RS.a7 r), (RS.a8 r), (RS.a9 r), (RS.a10 r), (RS.a12 r), (RS.a13 r), (RS.a14 r), (RS.a16 r), (RS.a17 r), (RS.f4 r), (RS.f5 r), (RS.f6 r), (RS.f7 r), (RS.f8 r), (RS.f9 r), (RS.f10 r), (RS.f11 r), (RS.f12 r), (RS.f13 r), oN_leT, oN_leF, oN_ltT, oN_ltF, oN_leTl, oN_leFl, oN_ltTl, oN_ltFl, oN_lleT, oN_lleF, oN_lltT, oN_lltF, oN_m4, oN_nn, oN_nn2, mm_0, mm_s, oN_s1, oN_z1, m1_neg, m1_nn, m4_neg, i10, ↓reduceIte, if_true, if_false]
    exact Pair.q h rfl rfl rfl
  · have tk : (Int32.ofNat 1).toInt = 1 := rfl
    rw [tk]
    simp only [show ((1 : Int) = 0) = False from by decide, show ((1 : Int) = 1) = True from eq_true rfl, ↓reduceIte]
    simp (disch := omega) only [i10, bcall_some, blet_eq, bput_eq, at_2 (RS.B r), at_3 (RS.B r), at_5 (RS.B r), at_6 (RS.B r), at_7 (RS.B r), at_8 (RS.B r), at_9 (RS.B r), at_10 (RS.B r), at_12 (RS.B r), at_13 (RS.B r), at_14 (RS.B r), at_16 (RS.B r), at_17 (RS.B r), put_2 (RS.B r), put_3 (RS.B r), put_5 (RS.B r), put_6 (RS.B r), put_7 (RS.B r), put_8 (RS.B r), put_9 (RS.B r), put_10 (RS.B r), put_12 (RS.B r), put_13 (RS.B r), put_14 (RS.B r), put_16 (RS.B r), put_17 (RS.B r), x_ofl, x_of, x_setsl, x_sets, x_ld, x_ldl, x_stt, x_stl, x_where, oN_al, oN_la, oN_lm, u2_ne, u2_same, u2_self, (RS.cb r), (RS.cs r), (RS.cc r), (RS.ci r), (Iv.cb i), (Iv.cs i), (Iv.cc i), (Iv.ci i), (RS.a2 r), (RS.a3 r), (RS.a5 r), (RS.a6 r), (RS.a7 r), (RS.a8 r), (RS.a9 r), (RS.a10 r), (RS.a12 r), (RS.a13 r), (RS.a14 r), (RS.a16 r), (RS.a17 r), (RS.f4 r), (RS.f5 r), (RS.f6 r), (RS.f7 r), (RS.f8 r), (RS.f9 r), (RS.f10 r), (RS.f11 r), (RS.f12 r), (RS.f13 r), oN_leT, oN_leF, oN_ltT, oN_ltF, oN_leTl, oN_leFl, oN_ltTl, oN_ltFl, oN_lleT, oN_lleF, oN_lltT, oN_lltF, oN_m4, oN_nn, oN_nn2, mm_0, mm_s, oN_s1, oN_z1, m1_neg, m1_nn, m4_neg, i10, ↓reduceIte, if_true, if_false]
    exact Pair.q h rfl rfl rfl
  · have tk : (Int32.ofNat 2).toInt = 2 := rfl
    rw [tk]
    simp only [show ((2 : Int) = 0) = False from by decide, show ((2 : Int) = 1) = False from by decide, show ((2 : Int) = 2) = True from eq_true rfl, ↓reduceIte]
    simp (disch := omega) only [i10, bcall_some, blet_eq, bput_eq, at_2 (RS.B r), at_3 (RS.B r), at_5 (RS.B r), at_6 (RS.B r), at_7 (RS.B r), at_8 (RS.B r), at_9 (RS.B r), at_10 (RS.B r), at_12 (RS.B r), at_13 (RS.B r), at_14 (RS.B r), at_16 (RS.B r), at_17 (RS.B r), put_2 (RS.B r), put_3 (RS.B r), put_5 (RS.B r), put_6 (RS.B r), put_7 (RS.B r), put_8 (RS.B r), put_9 (RS.B r), put_10 (RS.B r), put_12 (RS.B r), put_13 (RS.B r), put_14 (RS.B r), put_16 (RS.B r), put_17 (RS.B r), x_ofl, x_of, x_setsl, x_sets, x_ld, x_ldl, x_stt, x_stl, x_where, oN_al, oN_la, oN_lm, u2_ne, u2_same, u2_self, (RS.cb r), (RS.cs r), (RS.cc r), (RS.ci r), (Iv.cb i), (Iv.cs i), (Iv.cc i), (Iv.ci i), (RS.a2 r), (RS.a3 r), (RS.a5 r), (RS.a6 r), (RS.a7 r), (RS.a8 r), (RS.a9 r), (RS.a10 r), (RS.a12 r), (RS.a13 r), (RS.a14 r), (RS.a16 r), (RS.a17 r), (RS.f4 r), (RS.f5 r), (RS.f6 r), (RS.f7 r), (RS.f8 r), (RS.f9 r), (RS.f10 r), (RS.f11 r), (RS.f12 r), (RS.f13 r), oN_leT, oN_leF, oN_ltT, oN_ltF, oN_leTl, oN_leFl, oN_ltTl, oN_ltFl, oN_lleT, oN_lleF, oN_lltT, oN_lltF, oN_m4, oN_nn, oN_nn2, mm_0, mm_s, oN_s1, oN_z1, m1_neg, m1_nn, m4_neg, i10, ↓reduceIte, if_true, if_false]
    exact Pair.q h rfl rfl rfl
  · have tk : (Int32.ofNat 3).toInt = 3 := rfl
    rw [tk]
    obtain ⟨v, e1, e2⟩ := q_poles r i
    simp only [show ((3 : Int) = 0) = False from by decide, show ((3 : Int) = 1) = False from by decide, show ((3 : Int) = 2) = False from by decide, show ((3 : Int) = 3) = True from eq_true rfl, ↓reduceIte, e1, e2, bcall_some]
    exact Pair.q h rfl rfl rfl
  · have tk : (Int32.ofNat 4).toInt = 4 := rfl
    rw [tk]
    simp only [show ((4 : Int) = 0) = False from by decide, show ((4 : Int) = 1) = False from by decide, show ((4 : Int) = 2) = False from by decide, show ((4 : Int) = 3) = False from by decide, show ((4 : Int) = 4) = True from eq_true rfl, ↓reduceIte]
    simp (disch := omega) only [i10, bcall_some, blet_eq, bput_eq, at_2 (RS.B r), at_3 (RS.B r), at_5 (RS.B r), at_6 (RS.B r), at_7 (RS.B r), at_8 (RS.B r), at_9 (RS.B r), at_10 (RS.B r), at_12 (RS.B r), at_13 (RS.B r), at_14 (RS.B r), at_16 (RS.B r), at_17 (RS.B r), put_2 (RS.B r), put_3 (RS.B r), put_5 (RS.B r), put_6 (RS.B r), put_7 (RS.B r), put_8 (RS.B r), put_9 (RS.B r), put_10 (RS.B r), put_12 (RS.B r), put_13 (RS.B r), put_14 (RS.B r), put_16 (RS.B r), put_17 (RS.B r), x_ofl, x_of, x_setsl, x_sets, x_ld, x_ldl, x_stt, x_stl, x_where, oN_al, oN_la, oN_lm, u2_ne, u2_same, u2_self, (RS.cb r), (RS.cs r), (RS.cc r), (RS.ci r), (Iv.cb i), (Iv.cs i), (Iv.cc i), (Iv.ci i), (RS.a2 r), (RS.a3 r), (RS.a5 r), (RS.a6 r), (RS.a7 r), (RS.a8 r), (RS.a9 r), (RS.a10 r), (RS.a12 r), (RS.a13 r), (RS.a14 r), (RS.a16 r), (RS.a17 r), (RS.f4 r), (RS.f5 r), (RS.f6 r), (RS.f7 r), (RS.f8 r), (RS.f9 r), (RS.f10 r), (RS.f11 r), (RS.f12 r), (RS.f13 r), oN_leT, oN_leF, oN_ltT, oN_ltF, oN_leTl, oN_leFl, oN_ltTl, oN_ltFl, oN_lleT, oN_lleF, oN_lltT, oN_lltF, oN_m4, oN_nn, oN_nn2, mm_0, mm_s, oN_s1, oN_z1, m1_neg, m1_nn, m4_neg, i10, ↓reduceIte, if_true, if_false]
    exact Pair.q h rfl rfl rfl
  · have tk : (Int32.ofNat 5).toInt = 5 := rfl
    rw [tk]
    obtain ⟨v, e1, e2⟩ := q_shut r i
    simp only [show ((5 : Int) = 0) = False from by decide, show ((5 : Int) = 1) = False from by decide, show ((5 : Int) = 2) = False from by decide, show ((5 : Int) = 3) = False from by decide, show ((5 : Int) = 4) = False from by decide, show ((5 : Int) = 5) = True from eq_true rfl, ↓reduceIte, e1, e2, bcall_some]
    exact Pair.q h rfl rfl rfl
  · have tk : (Int32.ofNat 6).toInt = 6 := rfl
    rw [tk]
    obtain ⟨v, e1, e2⟩ := q_olds r i
    simp only [show ((6 : Int) = 0) = False from by decide, show ((6 : Int) = 1) = False from by decide, show ((6 : Int) = 2) = False from by decide, show ((6 : Int) = 3) = False from by decide, show ((6 : Int) = 4) = False from by decide, show ((6 : Int) = 5) = False from by decide, show ((6 : Int) = 6) = True from eq_true rfl, ↓reduceIte, e1, e2, bcall_some]
    exact Pair.q h rfl rfl rfl
  · have tk : (Int32.ofNat 7).toInt = 7 := rfl
    rw [tk]
    simp only [show ((7 : Int) = 0) = False from by decide, show ((7 : Int) = 1) = False from by decide, show ((7 : Int) = 2) = False from by decide, show ((7 : Int) = 3) = False from by decide, show ((7 : Int) = 4) = False from by decide, show ((7 : Int) = 5) = False from by decide, show ((7 : Int) = 6) = False from by decide, show ((7 : Int) = 7) = True from eq_true rfl, ↓reduceIte]
    simp (disch := omega) only [i10, bcall_some, blet_eq, bput_eq, at_2 (RS.B r), at_3 (RS.B r), at_5 (RS.B r), at_6 (RS.B r), at_7 (RS.B r), at_8 (RS.B r), at_9 (RS.B r), at_10 (RS.B r), at_12 (RS.B r), at_13 (RS.B r), at_14 (RS.B r), at_16 (RS.B r), at_17 (RS.B r), put_2 (RS.B r), put_3 (RS.B r), put_5 (RS.B r), put_6 (RS.B r), put_7 (RS.B r), put_8 (RS.B r), put_9 (RS.B r), put_10 (RS.B r), put_12 (RS.B r), put_13 (RS.B r), put_14 (RS.B r), put_16 (RS.B r), put_17 (RS.B r), x_ofl, x_of, x_setsl, x_sets, x_ld, x_ldl, x_stt, x_stl, x_where, oN_al, oN_la, oN_lm, u2_ne, u2_same, u2_self, (RS.cb r), (RS.cs r), (RS.cc r), (RS.ci r), (Iv.cb i), (Iv.cs i), (Iv.cc i), (Iv.ci i), (RS.a2 r), (RS.a3 r), (RS.a5 r), (RS.a6 r), (RS.a7 r), (RS.a8 r), (RS.a9 r), (RS.a10 r), (RS.a12 r), (RS.a13 r), (RS.a14 r), (RS.a16 r), (RS.a17 r), (RS.f4 r), (RS.f5 r), (RS.f6 r), (RS.f7 r), (RS.f8 r), (RS.f9 r), (RS.f10 r), (RS.f11 r), (RS.f12 r), (RS.f13 r), oN_leT, oN_leF, oN_ltT, oN_ltF, oN_leTl, oN_leFl, oN_ltTl, oN_ltFl, oN_lleT, oN_lleF, oN_lltT, oN_lltF, oN_m4, oN_nn, oN_nn2, mm_0, mm_s, oN_s1, oN_z1, m1_neg, m1_nn, m4_neg, i10, ↓reduceIte, if_true, if_false]
    exact Pair.q h rfl rfl rfl
  · have tk : (Int32.ofNat 8).toInt = 8 := rfl
    rw [tk]
    obtain ⟨v, e1, e2⟩ := q_ups r i
    simp only [show ((8 : Int) = 0) = False from by decide, show ((8 : Int) = 1) = False from by decide, show ((8 : Int) = 2) = False from by decide, show ((8 : Int) = 3) = False from by decide, show ((8 : Int) = 4) = False from by decide, show ((8 : Int) = 5) = False from by decide, show ((8 : Int) = 6) = False from by decide, show ((8 : Int) = 7) = False from by decide, show ((8 : Int) = 8) = True from eq_true rfl, ↓reduceIte, e1, e2, bcall_some]
    exact Pair.q h rfl rfl rfl
  · have tk : (Int32.ofNat 9).toInt = 9 := rfl
    rw [tk]
    simp only [show ((9 : Int) = 0) = False from by decide, show ((9 : Int) = 1) = False from by decide, show ((9 : Int) = 2) = False from by decide, show ((9 : Int) = 3) = False from by decide, show ((9 : Int) = 4) = False from by decide, show ((9 : Int) = 5) = False from by decide, show ((9 : Int) = 6) = False from by decide, show ((9 : Int) = 7) = False from by decide, show ((9 : Int) = 8) = False from by decide, show ((9 : Int) = 9) = True from eq_true rfl, ↓reduceIte]
    simp (disch := omega) only [i10, bcall_some, blet_eq, bput_eq, at_2 (RS.B r), at_3 (RS.B r), at_5 (RS.B r), at_6 (RS.B r), at_7 (RS.B r), at_8 (RS.B r), at_9 (RS.B r), at_10 (RS.B r), at_12 (RS.B r), at_13 (RS.B r), at_14 (RS.B r), at_16 (RS.B r), at_17 (RS.B r), put_2 (RS.B r), put_3 (RS.B r), put_5 (RS.B r), put_6 (RS.B r), put_7 (RS.B r), put_8 (RS.B r), put_9 (RS.B r), put_10 (RS.B r), put_12 (RS.B r), put_13 (RS.B r), put_14 (RS.B r), put_16 (RS.B r), put_17 (RS.B r), x_ofl, x_of, x_setsl, x_sets, x_ld, x_ldl, x_stt, x_stl, x_where, oN_al, oN_la, oN_lm, u2_ne, u2_same, u2_self, (RS.cb r), (RS.cs r), (RS.cc r), (RS.ci r), (Iv.cb i), (Iv.cs i), (Iv.cc i), (Iv.ci i), (RS.a2 r), (RS.a3 r), (RS.a5 r), (RS.a6 r), (RS.a7 r), (RS.a8 r), (RS.a9 r), (RS.a10 r), (RS.a12 r), (RS.a13 r), (RS.a14 r), (RS.a16 r), (RS.a17 r), (RS.f4 r), (RS.f5 r), (RS.f6 r), (RS.f7 r), (RS.f8 r), (RS.f9 r), (RS.f10 r), (RS.f11 r), (RS.f12 r), (RS.f13 r), oN_leT, oN_leF, oN_ltT, oN_ltF, oN_leTl, oN_leFl, oN_ltTl, oN_ltFl, oN_lleT, oN_lleF, oN_lltT, oN_lltF, oN_m4, oN_nn, oN_nn2, mm_0, mm_s, oN_s1, oN_z1, m1_neg, m1_nn, m4_neg, i10, ↓reduceIte, if_true, if_false]
    exact Pair.q h rfl rfl rfl
  · have tk : (Int32.ofNat 10).toInt = 10 := rfl
    rw [tk]
    simp only [show ((10 : Int) = 0) = False from by decide, show ((10 : Int) = 1) = False from by decide, show ((10 : Int) = 2) = False from by decide, show ((10 : Int) = 3) = False from by decide, show ((10 : Int) = 4) = False from by decide, show ((10 : Int) = 5) = False from by decide, show ((10 : Int) = 6) = False from by decide, show ((10 : Int) = 7) = False from by decide, show ((10 : Int) = 8) = False from by decide, show ((10 : Int) = 9) = False from by decide, show ((10 : Int) = 10) = True from eq_true rfl, ↓reduceIte]
    simp (disch := omega) only [i10, bcall_some, blet_eq, bput_eq, at_2 (RS.B r), at_3 (RS.B r), at_5 (RS.B r), at_6 (RS.B r), at_7 (RS.B r), at_8 (RS.B r), at_9 (RS.B r), at_10 (RS.B r), at_12 (RS.B r), at_13 (RS.B r), at_14 (RS.B r), at_16 (RS.B r), at_17 (RS.B r), put_2 (RS.B r), put_3 (RS.B r), put_5 (RS.B r), put_6 (RS.B r), put_7 (RS.B r), put_8 (RS.B r), put_9 (RS.B r), put_10 (RS.B r), put_12 (RS.B r), put_13 (RS.B r), put_14 (RS.B r), put_16 (RS.B r), put_17 (RS.B r), x_ofl, x_of, x_setsl, x_sets, x_ld, x_ldl, x_stt, x_stl, x_where, oN_al, oN_la, oN_lm, u2_ne, u2_same, u2_self, (RS.cb r), (RS.cs r), (RS.cc r), (RS.ci r), (Iv.cb i), (Iv.cs i), (Iv.cc i), (Iv.ci i), (RS.a2 r), (RS.a3 r), (RS.a5 r), (RS.a6 r), (RS.a7 r), (RS.a8 r), (RS.a9 r), (RS.a10 r), (RS.a12 r), (RS.a13 r), (RS.a14 r), (RS.a16 r), (RS.a17 r), (RS.f4 r), (RS.f5 r), (RS.f6 r), (RS.f7 r), (RS.f8 r), (RS.f9 r), (RS.f10 r), (RS.f11 r), (RS.f12 r), (RS.f13 r), oN_leT, oN_leF, oN_ltT, oN_ltF, oN_leTl, oN_leFl, oN_ltTl, oN_ltFl, oN_lleT, oN_lleF, oN_lltT, oN_lltF, oN_m4, oN_nn, oN_nn2, mm_0, mm_s, oN_s1, oN_z1, m1_neg, m1_nn, m4_neg, i10, ↓reduceIte, if_true, if_false]
    exact Pair.q h rfl rfl rfl
  · have tk : (Int32.ofNat 11).toInt = 11 := rfl
    rw [tk]
    obtain ⟨v, e1, e2⟩ := q_loads r i
    simp only [show ((11 : Int) = 0) = False from by decide, show ((11 : Int) = 1) = False from by decide, show ((11 : Int) = 2) = False from by decide, show ((11 : Int) = 3) = False from by decide, show ((11 : Int) = 4) = False from by decide, show ((11 : Int) = 5) = False from by decide, show ((11 : Int) = 6) = False from by decide, show ((11 : Int) = 7) = False from by decide, show ((11 : Int) = 8) = False from by decide, show ((11 : Int) = 9) = False from by decide, show ((11 : Int) = 10) = False from by decide, show ((11 : Int) = 11) = True from eq_true rfl, ↓reduceIte, e1, e2, bcall_some]
    exact Pair.q h rfl rfl rfl
  · have tk : (Int32.ofNat 12).toInt = 12 := rfl
    rw [tk]
    simp only [show ((12 : Int) = 0) = False from by decide, show ((12 : Int) = 1) = False from by decide, show ((12 : Int) = 2) = False from by decide, show ((12 : Int) = 3) = False from by decide, show ((12 : Int) = 4) = False from by decide, show ((12 : Int) = 5) = False from by decide, show ((12 : Int) = 6) = False from by decide, show ((12 : Int) = 7) = False from by decide, show ((12 : Int) = 8) = False from by decide, show ((12 : Int) = 9) = False from by decide, show ((12 : Int) = 10) = False from by decide, show ((12 : Int) = 11) = False from by decide, show ((12 : Int) = 12) = True from eq_true rfl, ↓reduceIte]
    simp (disch := omega) only [i10, bcall_some, blet_eq, bput_eq, at_2 (RS.B r), at_3 (RS.B r), at_5 (RS.B r), at_6 (RS.B r), at_7 (RS.B r), at_8 (RS.B r), at_9 (RS.B r), at_10 (RS.B r), at_12 (RS.B r), at_13 (RS.B r), at_14 (RS.B r), at_16 (RS.B r), at_17 (RS.B r), put_2 (RS.B r), put_3 (RS.B r), put_5 (RS.B r), put_6 (RS.B r), put_7 (RS.B r), put_8 (RS.B r), put_9 (RS.B r), put_10 (RS.B r), put_12 (RS.B r), put_13 (RS.B r), put_14 (RS.B r), put_16 (RS.B r), put_17 (RS.B r), x_ofl, x_of, x_setsl, x_sets, x_ld, x_ldl, x_stt, x_stl, x_where, oN_al, oN_la, oN_lm, u2_ne, u2_same, u2_self, (RS.cb r), (RS.cs r), (RS.cc r), (RS.ci r), (Iv.cb i), (Iv.cs i), (Iv.cc i), (Iv.ci i), (RS.a2 r), (RS.a3 r), (RS.a5 r), (RS.a6 r), (RS.a7 r), (RS.a8 r), (RS.a9 r), (RS.a10 r), (RS.a12 r), (RS.a13 r), (RS.a14 r), (RS.a16 r), (RS.a17 r), (RS.f4 r), (RS.f5 r), (RS.f6 r), (RS.f7 r), (RS.f8 r), (RS.f9 r), (RS.f10 r), (RS.f11 r), (RS.f12 r), (RS.f13 r), oN_leT, oN_leF, oN_ltT, oN_ltF, oN_leTl, oN_leFl, oN_ltTl, oN_ltFl, oN_lleT, oN_lleF, oN_lltT, oN_lltF, oN_m4, oN_nn, oN_nn2, mm_0, mm_s, oN_s1, oN_z1, m1_neg, m1_nn, m4_neg, i10, ↓reduceIte, if_true, if_false]
    exact Pair.q h rfl rfl rfl
  · have tk : (Int32.ofNat 13).toInt = 13 := rfl
    rw [tk]
    simp only [show ((13 : Int) = 0) = False from by decide, show ((13 : Int) = 1) = False from by decide, show ((13 : Int) = 2) = False from by decide, show ((13 : Int) = 3) = False from by decide, show ((13 : Int) = 4) = False from by decide, show ((13 : Int) = 5) = False from by decide, show ((13 : Int) = 6) = False from by decide, show ((13 : Int) = 7) = False from by decide, show ((13 : Int) = 8) = False from by decide, show ((13 : Int) = 9) = False from by decide, show ((13 : Int) = 10) = False from by decide, show ((13 : Int) = 11) = False from by decide, show ((13 : Int) = 12) = False from by decide, show ((13 : Int) = 13) = True from eq_true rfl, ↓reduceIte]
    simp (disch := omega) only [i10, bcall_some, blet_eq, bput_eq, at_2 (RS.B r), at_3 (RS.B r), at_5 (RS.B r), at_6 (RS.B r), at_7 (RS.B r), at_8 (RS.B r), at_9 (RS.B r), at_10 (RS.B r), at_12 (RS.B r), at_13 (RS.B r), at_14 (RS.B r), at_16 (RS.B r), at_17 (RS.B r), put_2 (RS.B r), put_3 (RS.B r), put_5 (RS.B r), put_6 (RS.B r), put_7 (RS.B r), put_8 (RS.B r), put_9 (RS.B r), put_10 (RS.B r), put_12 (RS.B r), put_13 (RS.B r), put_14 (RS.B r), put_16 (RS.B r), put_17 (RS.B r), x_ofl, x_of, x_setsl, x_sets, x_ld, x_ldl, x_stt, x_stl, x_where, oN_al, oN_la, oN_lm, u2_ne, u2_same, u2_self, (RS.cb r), (RS.cs r), (RS.cc r), (RS.ci r), (Iv.cb i), (Iv.cs i), (Iv.cc i), (Iv.ci i), (RS.a2 r), (RS.a3 r), (RS.a5 r), (RS.a6 r), (RS.a7 r), (RS.a8 r), (RS.a9 r), (RS.a10 r), (RS.a12 r), (RS.a13 r), (RS.a14 r), (RS.a16 r), (RS.a17 r), (RS.f4 r), (RS.f5 r), (RS.f6 r), (RS.f7 r), (RS.f8 r), (RS.f9 r), (RS.f10 r), (RS.f11 r), (RS.f12 r), (RS.f13 r), oN_leT, oN_leF, oN_ltT, oN_ltF, oN_leTl, oN_leFl, oN_ltTl, oN_ltFl, oN_lleT, oN_lleF, oN_lltT, oN_lltF, oN_m4, oN_nn, oN_nn2, mm_0, mm_s, oN_s1, oN_z1, m1_neg, m1_nn, m4_neg, i10, ↓reduceIte, if_true, if_false]
    exact Pair.q h rfl rfl rfl
  · have tk : (Int32.ofNat 14).toInt = 14 := rfl
    rw [tk]
    simp only [show ((14 : Int) = 0) = False from by decide, show ((14 : Int) = 1) = False from by decide, show ((14 : Int) = 2) = False from by decide, show ((14 : Int) = 3) = False from by decide, show ((14 : Int) = 4) = False from by decide, show ((14 : Int) = 5) = False from by decide, show ((14 : Int) = 6) = False from by decide, show ((14 : Int) = 7) = False from by decide, show ((14 : Int) = 8) = False from by decide, show ((14 : Int) = 9) = False from by decide, show ((14 : Int) = 10) = False from by decide, show ((14 : Int) = 11) = False from by decide, show ((14 : Int) = 12) = False from by decide, show ((14 : Int) = 13) = False from by decide, show ((14 : Int) = 14) = True from eq_true rfl, ↓reduceIte]
    simp (disch := omega) only [i10, bcall_some, blet_eq, bput_eq, at_2 (RS.B r), at_3 (RS.B r), at_5 (RS.B r), at_6 (RS.B r), at_7 (RS.B r), at_8 (RS.B r), at_9 (RS.B r), at_10 (RS.B r), at_12 (RS.B r), at_13 (RS.B r), at_14 (RS.B r), at_16 (RS.B r), at_17 (RS.B r), put_2 (RS.B r), put_3 (RS.B r), put_5 (RS.B r), put_6 (RS.B r), put_7 (RS.B r), put_8 (RS.B r), put_9 (RS.B r), put_10 (RS.B r), put_12 (RS.B r), put_13 (RS.B r), put_14 (RS.B r), put_16 (RS.B r), put_17 (RS.B r), x_ofl, x_of, x_setsl, x_sets, x_ld, x_ldl, x_stt, x_stl, x_where, oN_al, oN_la, oN_lm, u2_ne, u2_same, u2_self, (RS.cb r), (RS.cs r), (RS.cc r), (RS.ci r), (Iv.cb i), (Iv.cs i), (Iv.cc i), (Iv.ci i), (RS.a2 r), (RS.a3 r), (RS.a5 r), (RS.a6 r), (RS.a7 r), (RS.a8 r), (RS.a9 r), (RS.a10 r), (RS.a12 r), (RS.a13 r), (RS.a14 r), (RS.a16 r), (RS.a17 r), (RS.f4 r), (RS.f5 r), (RS.f6 r), (RS.f7 r), (RS.f8 r), (RS.f9 r), (RS.f10 r), (RS.f11 r), (RS.f12 r), (RS.f13 r), oN_leT, oN_leF, oN_ltT, oN_ltF, oN_leTl, oN_leFl, oN_ltTl, oN_ltFl, oN_lleT, oN_lleF, oN_lltT, oN_lltF, oN_m4, oN_nn, oN_nn2, mm_0, mm_s, oN_s1, oN_z1, m1_neg, m1_nn, m4_neg, i10, ↓reduceIte, if_true, if_false]
    exact Pair.q h rfl rfl rfl
  · have tk : (Int32.ofNat 15).toInt = 15 := rfl
    rw [tk]
    simp only [show ((15 : Int) = 0) = False from by decide, show ((15 : Int) = 1) = False from by decide, show ((15 : Int) = 2) = False from by decide, show ((15 : Int) = 3) = False from by decide, show ((15 : Int) = 4) = False from by decide, show ((15 : Int) = 5) = False from by decide, show ((15 : Int) = 6) = False from by decide, show ((15 : Int) = 7) = False from by decide, show ((15 : Int) = 8) = False from by decide, show ((15 : Int) = 9) = False from by decide, show ((15 : Int) = 10) = False from by decide, show ((15 : Int) = 11) = False from by decide, show ((15 : Int) = 12) = False from by decide, show ((15 : Int) = 13) = False from by decide, show ((15 : Int) = 14) = False from by decide, show ((15 : Int) = 15) = True from eq_true rfl, ↓reduceIte]
    simp (disch := omega) only [i10, bcall_some, blet_eq, bput_eq, at_2 (RS.B r), at_3 (RS.B r), at_5 (RS.B r), at_6 (RS.B r), at_7 (RS.B r), at_8 (RS.B r), at_9 (RS.B r), at_10 (RS.B r), at_12 (RS.B r), at_13 (RS.B r), at_14 (RS.B r), at_16 (RS.B r), at_17 (RS.B r), put_2 (RS.B r), put_3 (RS.B r), put_5 (RS.B r), put_6 (RS.B r), put_7 (RS.B r), put_8 (RS.B r), put_9 (RS.B r), put_10 (RS.B r), put_12 (RS.B r), put_13 (RS.B r), put_14 (RS.B r), put_16 (RS.B r), put_17 (RS.B r), x_ofl, x_of, x_setsl, x_sets, x_ld, x_ldl, x_stt, x_stl, x_where, oN_al, oN_la, oN_lm, u2_ne, u2_same, u2_self, (RS.cb r), (RS.cs r), (RS.cc r), (RS.ci r), (Iv.cb i), (Iv.cs i), (Iv.cc i), (Iv.ci i), (RS.a2 r), (RS.a3 r), (RS.a5 r), (RS.a6 r), (RS.a7 r), (RS.a8 r), (RS.a9 r), (RS.a10 r), (RS.a12 r), (RS.a13 r), (RS.a14 r), (RS.a16 r), (RS.a17 r), (RS.f4 r), (RS.f5 r), (RS.f6 r), (RS.f7 r), (RS.f8 r), (RS.f9 r), (RS.f10 r), (RS.f11 r), (RS.f12 r), (RS.f13 r), oN_leT, oN_leF, oN_ltT, oN_ltF, oN_leTl, oN_leFl, oN_ltTl, oN_ltFl, oN_lleT, oN_lleF, oN_lltT, oN_lltF, oN_m4, oN_nn, oN_nn2, mm_0, mm_s, oN_s1, oN_z1, m1_neg, m1_nn, m4_neg, i10, ↓reduceIte, if_true, if_false]
    exact Pair.q h rfl rfl rfl
  · have tk : (Int32.ofNat 16).toInt = 16 := rfl
    rw [tk]
    simp only [show ((16 : Int) = 0) = False from by decide, show ((16 : Int) = 1) = False from by decide, show ((16 : Int) = 2) = False from by decide, show ((16 : Int) = 3) = False from by decide, show ((16 : Int) = 4) = False from by decide, show ((16 : Int) = 5) = False from by decide, show ((16 : Int) = 6) = False from by decide, show ((16 : Int) = 7) = False from by decide, show ((16 : Int) = 8) = False from by decide, show ((16 : Int) = 9) = False from by decide, show ((16 : Int) = 10) = False from by decide, show ((16 : Int) = 11) = False from by decide, show ((16 : Int) = 12) = False from by decide, show ((16 : Int) = 13) = False from by decide, show ((16 : Int) = 14) = False from by decide, show ((16 : Int) = 15) = False from by decide, show ((16 : Int) = 16) = True from eq_true rfl, ↓reduceIte]
    simp (disch := omega) only [i10, bcall_some, blet_eq, bput_eq, at_2 (RS.B r), at_3 (RS.B r), at_5 (RS.B r), at_6 (RS.B r), at_7 (RS.B r), at_8 (RS.B r), at_9 (RS.B r), at_10 (RS.B r), at_12 (RS.B r), at_13 (RS.B r), at_14 (RS.B r), at_16 (RS.B r), at_17 (RS.B r), put_2 (RS.B r), put_3 (RS.B r), put_5 (RS.B r), put_6 (RS.B r), put_7 (RS.B r), put_8 (RS.B r), put_9 (RS.B r), put_10 (RS.B r), put_12 (RS.B r), put_13 (RS.B r), put_14 (RS.B r), put_16 (RS.B r), put_17 (RS.B r), x_ofl, x_of, x_setsl, x_sets, x_ld, x_ldl, x_stt, x_stl, x_where, oN_al, oN_la, oN_lm, u2_ne, u2_same, u2_self, (RS.cb r), (RS.cs r), (RS.cc r), (RS.ci r), (Iv.cb i), (Iv.cs i), (Iv.cc i), (Iv.ci i), (RS.a2 r), (RS.a3 r), (RS.a5 r), (RS.a6 r), (RS.a7 r), (RS.a8 r), (RS.a9 r), (RS.a10 r), (RS.a12 r), (RS.a13 r), (RS.a14 r), (RS.a16 r), (RS.a17 r), (RS.f4 r), (RS.f5 r), (RS.f6 r), (RS.f7 r), (RS.f8 r), (RS.f9 r), (RS.f10 r), (RS.f11 r), (RS.f12 r), (RS.f13 r), oN_leT, oN_leF, oN_ltT, oN_ltF, oN_leTl, oN_leFl, oN_ltTl, oN_ltFl, oN_lleT, oN_lleF, oN_lltT, oN_lltF, oN_m4, oN_nn, oN_nn2, mm_0, mm_s, oN_s1, oN_z1, m1_neg, m1_nn, m4_neg, i10, ↓reduceIte, if_true, if_false]
    exact Pair.q h rfl rfl rfl
  · have tk : (Int32.ofNat 17).toInt = 17 := rfl
    rw [tk]
    obtain ⟨n, hn, e1, e2, e3⟩ := h.inp
    simp only [show ((17 : Int) = 0) = False from by decide, show ((17 : Int) = 1) = False from by decide, show ((17 : Int) = 2) = False from by decide, show ((17 : Int) = 3) = False from by decide, show ((17 : Int) = 4) = False from by decide, show ((17 : Int) = 5) = False from by decide, show ((17 : Int) = 6) = False from by decide, show ((17 : Int) = 7) = False from by decide, show ((17 : Int) = 8) = False from by decide, show ((17 : Int) = 9) = False from by decide, show ((17 : Int) = 10) = False from by decide, show ((17 : Int) = 11) = False from by decide, show ((17 : Int) = 12) = False from by decide, show ((17 : Int) = 13) = False from by decide, show ((17 : Int) = 14) = False from by decide, show ((17 : Int) = 15) = False from by decide, show ((17 : Int) = 16) = False from by decide, show ((17 : Int) = 17) = True from eq_true rfl, ↓reduceIte, e1, e2]
    exact Pair.q h rfl rfl rfl
  · have tk : (Int32.ofNat 18).toInt = 18 := rfl
    rw [tk]
    obtain ⟨u, nx, h1, h2, h3, h4, h5, h6⟩ := h.hi
    simp only [show ((18 : Int) = 0) = False from by decide, show ((18 : Int) = 1) = False from by decide, show ((18 : Int) = 2) = False from by decide, show ((18 : Int) = 3) = False from by decide, show ((18 : Int) = 4) = False from by decide, show ((18 : Int) = 5) = False from by decide, show ((18 : Int) = 6) = False from by decide, show ((18 : Int) = 7) = False from by decide, show ((18 : Int) = 8) = False from by decide, show ((18 : Int) = 9) = False from by decide, show ((18 : Int) = 10) = False from by decide, show ((18 : Int) = 11) = False from by decide, show ((18 : Int) = 12) = False from by decide, show ((18 : Int) = 13) = False from by decide, show ((18 : Int) = 14) = False from by decide, show ((18 : Int) = 15) = False from by decide, show ((18 : Int) = 16) = False from by decide, show ((18 : Int) = 17) = False from by decide, show ((18 : Int) = 18) = True from eq_true rfl, ↓reduceIte, h3, h4]
    exact Pair.q h rfl rfl rfl
theorem Q_inspectorOf {σ τ : St} (h : Co σ τ) (p z : Int32) : Pair σ τ (M_X10_inspectorOf σ 0 p z) (M_X11_inspectorOf τ 248 p z) (fun v w => v = w) := by
  obtain ⟨nb, ns, nc, ni, r, i⟩ := h.now
  have hi3 := i.hi
  have ni1 : ¬ ((1 : Int32) = 0) := by decide
  unfold M_X10_inspectorOf M_X11_inspectorOf
  simp only [Nat.zero_add]
  rcases h_ins r i p with ⟨e1, e2⟩ | ⟨j, hj, rfl, e1, e2⟩
  · simp only [e1, e2, bcall_some, ↓reduceIte]
    exact Pair.q h rfl rfl rfl
  rw [bcall_of e1, bcall_of e2, if_neg ni1, if_neg ni1]
  by_cases c : z.toInt < 0 ∨ 2 < z.toInt
  · rw [if_pos c, if_pos c]
    exact Pair.q h rfl rfl rfl
  rw [if_neg c, if_neg c]
  obtain ⟨k, hk, rfl⟩ := sw_of (n := 2) (by decide) c
  have hk2 : k = 0 ∨ k = 1 ∨ k = 2 := by omega
  rcases hk2 with rfl | rfl | rfl
  · have tk : (Int32.ofNat 0).toInt = 0 := rfl
    rw [tk]
    simp only [show ((0 : Int) = 0) = True from eq_true rfl, ↓reduceIte]
    simp (disch := omega) only [M_X3_noseOf, M_X3_findsOf, bcall_some, blet_eq, bput_eq, at_2 (RS.B r), at_3 (RS.B r), at_5 (RS.B r), at_6 (RS.B r), at_7 (RS.B r), at_8 (RS.B r), at_9 (RS.B r), at_10 (RS.B r), at_12 (RS.B r), at_13 (RS.B r), at_14 (RS.B r), at_16 (RS.B r), at_17 (RS.B r), put_2 (RS.B r), put_3 (RS.B r), put_5 (RS.B r), put_6 (RS.B r), put_7 (RS.B r), put_8 (RS.B r), put_9 (RS.B r), put_10 (RS.B r), put_12 (RS.B r), put_13 (RS.B r), put_14 (RS.B r), put_16 (RS.B r), put_17 (RS.B r), x_ofl, x_of, x_setsl, x_sets, x_ld, x_ldl, x_stt, x_stl, x_where, oN_al, oN_la, oN_lm, u2_ne, u2_same, u2_self, (RS.cb r), (RS.cs r), (RS.cc r), (RS.ci r), (Iv.cb i), (Iv.cs i), (Iv.cc i), (Iv.ci i), (RS.a2 r), (RS.a3 r), (RS.a5 r), (RS.a6 r), (RS.a7 r), (RS.a8 r), (RS.a9 r), (RS.a10 r), (RS.a12 r), (RS.a13 r), (RS.a14 r), (RS.a16 r), (RS.a17 r), (RS.f4 r), (RS.f5 r), (RS.f6 r), (RS.f7 r), (RS.f8 r), (RS.f9 r), (RS.f10 r), (RS.f11 r), (RS.f12 r), (RS.f13 r), oN_leT, oN_leF, oN_ltT, oN_ltF, oN_leTl, oN_leFl, oN_ltTl, oN_ltFl, oN_lleT, oN_lleF, oN_lltT, oN_lltF, oN_m4, oN_nn, oN_nn2, mm_0, mm_s, oN_s1, oN_z1, m1_neg, m1_nn, m4_neg, i10, ↓reduceIte, if_true, if_false]
    exact Pair.q h rfl rfl rfl
  · have tk : (Int32.ofNat 1).toInt = 1 := rfl
    rw [tk]
    obtain ⟨v, e3, e4⟩ := q_shutBy r i hj
    simp only [show ((1 : Int) = 0) = False from by decide, show ((1 : Int) = 1) = True from eq_true rfl, ↓reduceIte, e3, e4, bcall_some]
    exact Pair.q h rfl rfl rfl
  · have tk : (Int32.ofNat 2).toInt = 2 := rfl
    rw [tk]
    simp only [show ((2 : Int) = 0) = False from by decide, show ((2 : Int) = 1) = False from by decide, show ((2 : Int) = 2) = True from eq_true rfl, ↓reduceIte]
    simp (disch := omega) only [M_X3_noseOf, M_X3_findsOf, bcall_some, blet_eq, bput_eq, at_2 (RS.B r), at_3 (RS.B r), at_5 (RS.B r), at_6 (RS.B r), at_7 (RS.B r), at_8 (RS.B r), at_9 (RS.B r), at_10 (RS.B r), at_12 (RS.B r), at_13 (RS.B r), at_14 (RS.B r), at_16 (RS.B r), at_17 (RS.B r), put_2 (RS.B r), put_3 (RS.B r), put_5 (RS.B r), put_6 (RS.B r), put_7 (RS.B r), put_8 (RS.B r), put_9 (RS.B r), put_10 (RS.B r), put_12 (RS.B r), put_13 (RS.B r), put_14 (RS.B r), put_16 (RS.B r), put_17 (RS.B r), x_ofl, x_of, x_setsl, x_sets, x_ld, x_ldl, x_stt, x_stl, x_where, oN_al, oN_la, oN_lm, u2_ne, u2_same, u2_self, (RS.cb r), (RS.cs r), (RS.cc r), (RS.ci r), (Iv.cb i), (Iv.cs i), (Iv.cc i), (Iv.ci i), (RS.a2 r), (RS.a3 r), (RS.a5 r), (RS.a6 r), (RS.a7 r), (RS.a8 r), (RS.a9 r), (RS.a10 r), (RS.a12 r), (RS.a13 r), (RS.a14 r), (RS.a16 r), (RS.a17 r), (RS.f4 r), (RS.f5 r), (RS.f6 r), (RS.f7 r), (RS.f8 r), (RS.f9 r), (RS.f10 r), (RS.f11 r), (RS.f12 r), (RS.f13 r), oN_leT, oN_leF, oN_ltT, oN_ltF, oN_leTl, oN_leFl, oN_ltTl, oN_ltFl, oN_lleT, oN_lleF, oN_lltT, oN_lltF, oN_m4, oN_nn, oN_nn2, mm_0, mm_s, oN_s1, oN_z1, m1_neg, m1_nn, m4_neg, i10, ↓reduceIte, if_true, if_false]
    exact Pair.q h rfl rfl rfl
