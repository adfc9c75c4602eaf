/-! what comes ahead: the class tries it on the scaffold 23, the reference on its own row, which it takes back -/
theorem ahead_ex {σ τ : St} (h : Co σ τ) : ∃ σ1, M_X7_take σ 23 5 = some (σ1, 0) ∧ (∀ r, Sc σ 5 r → Sc σ1 23 r) ∧ (∀ q, (q < 23 ∨ 41 ≤ q) → σ1 q = σ q) := by
  obtain ⟨σ1, t1, t2, t3⟩ := take_sc σ (k := 23) (a := 5) B23 B5 (by omega)
  exact ⟨σ1, t1, t2, fun q hq => t3 q (by omega)⟩
/-- the end of a look ahead -/
def La (σ τ τ0 : St) (x y : Option (St × Int32)) : Prop := ∃ σ1 τ1 v, x = some (σ1, v) ∧ y = some (τ1, v) ∧ (∀ q, (q < 23 ∨ 41 ≤ q) → σ1 q = σ q) ∧ (∀ k, k ≠ 249 → k ≠ 251 → τ1 k = τ k) ∧ ∀ q, q < 111 → τ1 249 q = τ0 251 q
theorem La.pair {σ τ σ0 τ0 : St} {x y : Option (St × Int32)} (h : Co σ τ) (hs : ∀ q, (q < 23 ∨ 41 ≤ q) → σ0 q = σ q) (ht : ∀ k, k ≠ 251 → τ0 k = τ k) (hq : ∀ q, q < 111 → τ0 251 q = τ 249 q) (hL : La σ0 τ0 τ0 x y) : Pair σ τ x y (fun v w => v = w) := by
  obtain ⟨σ1, τ1, v, e1, e2, f1, f2, f3⟩ := hL
  refine ⟨σ1, τ1, v, v, e1, e2, rfl, ?_, fun k hk => by rw [f1 k (by omega), hs k (by omega)], fun k hk => by rw [f2 k (by omega) (by omega), ht k (by omega)]⟩
  have hC : Co σ1 (va_up τ 249 (τ1 249)) := by
    have n1 := h.now.cg (σ1 := σ1) (r1 := τ1 249) (fun k h1 h2 => by rw [f1 k (by omega), hs k (by omega)]) (fun q hq1 => by rw [f3 q hq1, hq q hq1])
    refine ⟨by rw [up_at]; exact n1, h.sv.cg (by rw [f1 0 (by omega), hs 0 (by omega)]) (by rw [up_ne (by decide)]) (fun k h1 h2 => by rw [f1 k (by omega), hs k (by omega)]) (fun q _ => by rw [up_ne (by decide)]),
      h.hi.cg (by rw [f1 59 (by omega), hs 59 (by omega)]) (by rw [up_ne (by decide)]) (fun k h1 h2 => by rw [f1 k (by omega), hs k (by omega)]) (by rw [up_ne (by decide)]),
      h.inp.cg (by rw [f1 241 (by omega), hs 241 (by omega)]) (by rw [up_ne (by decide)]) (by rw [f1 242 (by omega), hs 242 (by omega)]) (by rw [up_ne (by decide)]),
      h.lin.cg (by rw [f1 243 (by omega), hs 243 (by omega)]) (by rw [up_ne (by decide)]) (by rw [f1 244 (by omega), hs 244 (by omega)]) (by rw [up_ne (by decide)]),
      by unfold Pfl; rw [f1 0 (by omega), hs 0 (by omega), up_ne (by decide)]; exact h.fl,
      h.re.cg (by rw [f1 2 (by omega), hs 2 (by omega)]) (by rw [up_ne (by decide)]) (by rw [f1 3 (by omega), hs 3 (by omega)]) (by rw [f1 4 (by omega), hs 4 (by omega)]) (by rw [up_ne (by decide)])⟩
  refine hC.cg2 (fun _ _ => rfl) (fun k hk => ?_) (fun q _ => ?_)
  · by_cases e : k = 249
    · rw [e, up_at]
    · rw [up_ne e, f2 k e (by omega), ht k (by omega)]
  · rw [up_ne (by decide), f2 248 (by decide) (by decide), ht 248 (by decide)]
/-- the reference takes back what it thought -/
theorem La.done {σ τ τ0 σ1 τ1 : St} {x y : Option (St × Int32)} {v : Int32} (hx : x = some (σ1, v)) (hy : y = bcall (M_X11_thinksNoMore τ1 248) fun s _ => some (s, v)) (f1 : ∀ q, (q < 23 ∨ 41 ≤ q) → σ1 q = σ q) (f2 : ∀ k, k ≠ 249 → τ1 k = τ k) (h251 : τ 251 = τ0 251) : La σ τ τ0 x y := by
  obtain ⟨τ2, u1, u2, u3⟩ := unthink_ex τ1
  refine ⟨σ1, τ2, v, hx, by rw [hy, u1, bcall_some], f1, fun k h1 h2 => by rw [u2 k h1, f2 k h1], fun q hq => by rw [u3 q hq, f2 251 (by decide), h251]⟩
theorem Q_oldIn {σ τ : St} (h : Co σ τ) (p : Int32) : Pair σ τ (M_X10_oldIn σ 0 p) (M_X11_oldIn τ 248 p) (fun v w => v = w) := by
  obtain ⟨nb, ns, nc, ni, r, i⟩ := h.now
  have hs10 := i.hs
  have ni1 : ¬ ((1 : Int32) = 0) := by decide
  unfold M_X10_oldIn M_X11_oldIn
  simp only [Nat.zero_add]
  rcases h_sto r i p with ⟨e1, e2⟩ | ⟨s, hs, rfl, e1, e2⟩
  · simp only [e1, e2, bcall_some, ↓reduceIte]
    exact Pair.q h rfl rfl rfl
  obtain ⟨σ0, t1, t2, t3⟩ := ahead_ex h
  obtain ⟨τ0, k1, k2, k3⟩ := thinks_ex τ
  rw [bcall_of e1, bcall_of e2, if_neg ni1, if_neg ni1, bcall_of t1, bcall_of k1]
  refine La.pair h t3 k2 k3 ?_
  have z := t2 _ h.now
  obtain ⟨nb, ns0, nc, ni, r0, i0⟩ := z
  have z0 : RS σ0 23 (τ0 249) nb ns0 nc ni := by rw [k2 249 (by decide)]; exact r0
  have z1 : Iv (τ0 249) nb ns0 nc ni := by rw [k2 249 (by decide)]; exact i0
  -- one step
  have stp : ∀ (n m d : Nat) (σ1 τ1 : St), d ≤ 21 → (∃ ns1, RS σ1 23 (τ1 249) nb ns1 nc ni ∧ Iv (τ1 249) nb ns1 nc ni ∧ (∀ q, (q < 23 ∨ 41 ≤ q) → σ1 q = σ0 q) ∧ (∀ k, k ≠ 249 → τ1 k = τ0 k) ∧ Tq d (τ1 249) ns1) → La σ0 τ0 τ0 (B_X10_oldIn_29 (n + 1) σ1 0 (Int32.ofNat s) (Int32.ofNat d)) (B_X11_oldIn_16 (m + 1) τ1 248 (Int32.ofNat s) (Int32.ofNat d)) ∨ (d < 21 ∧ ∃ σ2 τ2, B_X10_oldIn_29 (n + 1) σ1 0 (Int32.ofNat s) (Int32.ofNat d) = B_X10_oldIn_29 n σ2 0 (Int32.ofNat s) (Int32.ofNat (d + 1)) ∧ B_X11_oldIn_16 (m + 1) τ1 248 (Int32.ofNat s) (Int32.ofNat d) = B_X11_oldIn_16 m τ2 248 (Int32.ofNat s) (Int32.ofNat (d + 1)) ∧ ∃ ns1, RS σ2 23 (τ2 249) nb ns1 nc ni ∧ Iv (τ2 249) nb ns1 nc ni ∧ (∀ q, (q < 23 ∨ 41 ≤ q) → σ2 q = σ0 q) ∧ (∀ k, k ≠ 249 → τ2 k = τ0 k) ∧ Tq (d + 1) (τ2 249) ns1) := by
    rintro n m d σ1 τ1 hd ⟨ns1, r1, i1, f1, f2, hT⟩
    have hs1 := i1.hs
    have hd60 : ¬ ((60 : Int32) < Int32.ofNat d) := fun q => (oN_lltF (n := 60) (by decide) (by show d ≤ 60; omega)).mp q
    simp only [B_X10_oldIn_29, B_X11_oldIn_16, Nat.zero_add]
    rw [if_neg hd60]
    rcases h_sto r1 i1 (Int32.ofNat s) with ⟨a1, a2⟩ | ⟨s2, hs2, es, a1, a2⟩
    · rw [bcall_of a1, bcall_of a2, if_pos rfl, if_pos rfl, bcall_of a2]
      exact Or.inl (La.done rfl (by simp only [↓reduceIte]) f1 f2 rfl)
    · have es2 : s2 = s := by
        rw [oN_eq (by omega) (by omega)] at es; omega
      subst es2
      obtain ⟨t, ht, htd, et⟩ := hT s2 hs2
      have a3 : M_X11_of τ1 248 (Int32.ofNat s2) 2 = some (τ1, Int32.ofNat t) := by
        rw [x_ofl (n := 2) (by show 30 + 6 * s2 + 2 < 111; omega)]
        exact congrArg (fun z => some (τ1, z)) et
      have a4 : M_X10_at σ1 (23 + 4 + 3) (Int32.ofNat s2) = some (σ1, Int32.ofNat t) := by
        rw [at_7 B23 (by omega), r1.a7 s2 hs2, et]
      rw [bcall_of a1, bcall_of a2, if_neg ni1, if_neg ni1, bcall_of a3]
      by_cases c : t ≤ 20
      · have b1 : M_X9_isOld σ1 (23 + 4) (Int32.ofNat s2) = some (σ1, 0) := by
          unfold M_X9_isOld
          rw [bcall_of a4, if_pos (of_eq_true (oN_leTl (n := 20) (by decide) c))]
        obtain ⟨σ2, τ2, f, ns2, p1, p2, p3, r2, i2, g1, g2, g3, g4⟩ := passDay r1 i1
        rw [bcall_of b1, if_pos rfl, if_neg (fun q => (oN_lltF (n := 20) (by decide) c).mp q), bcall_of p1, bcall_of p2, blet_eq, blet_eq, oN_al]
        refine Or.inr ⟨by omega, σ2, τ2, rfl, rfl, ns2, r2, i2, fun q hq => by rw [g1 q (by omega), f1 q hq], fun k hk => by rw [g2 k hk, f2 k hk], g4 d (by omega) hT⟩
      · have b1 : M_X9_isOld σ1 (23 + 4) (Int32.ofNat s2) = some (σ1, 1) := by
          unfold M_X9_isOld
          rw [bcall_of a4, if_neg (fun q => (oN_leFl (n := 20) (by omega) (by show 20 < t; omega)).mp q)]
        rw [bcall_of b1, if_neg ni1, if_pos (of_eq_true (oN_lltT (n := 20) (by omega) (by show 20 < t; omega))), bcall_of a2]
        refine Or.inl (La.done rfl ?_ f1 f2 rfl)
        simp only [i10, ↓reduceIte]
  refine two (F := fun n a x => B_X10_oldIn_29 n a 0 (Int32.ofNat s) x) (G := fun n a x => B_X11_oldIn_16 n a 248 (Int32.ofNat s) x) (I := fun d σ1 τ1 => ∃ ns1, RS σ1 23 (τ1 249) nb ns1 nc ni ∧ Iv (τ1 249) nb ns1 nc ni ∧ (∀ q, (q < 23 ∨ 41 ≤ q) → σ1 q = σ0 q) ∧ (∀ k, k ≠ 249 → τ1 k = τ0 k) ∧ Tq d (τ1 249) ns1) (P := fun x y => La σ0 τ0 τ0 x y) (N := 21) ?_ ?_ 21 0 FU FU σ0 τ0 (by omega) (FU_lt (by omega)) (FU_lt (by omega)) ⟨ns0, z0, z1, fun _ _ => rfl, fun _ _ => rfl, fun j hj => by
      obtain ⟨t, ht, et⟩ := z1.tt j hj
      exact ⟨t, ht, by omega, et⟩⟩
  · intro n m σ1 τ1 hI
    rcases stp n m 21 σ1 τ1 (by omega) hI with q | ⟨q, _⟩
    · exact q
    · omega
  · intro n m d σ1 τ1 hd hI
    rcases stp n m d σ1 τ1 (by omega) hI with q | ⟨_, σ2, τ2, q1, q2, q3⟩
    · exact Or.inl q
    · exact Or.inr ⟨σ2, τ2, q1, q2, q3⟩
theorem Q_doneIn {σ τ : St} (h : Co σ τ) (p : Int32) : Pair σ τ (M_X10_doneIn σ 0 p) (M_X11_doneIn τ 248 p) (fun v w => v = w) := by
  obtain ⟨nb, ns, nc, ni, r, i⟩ := h.now
  have hs10 := i.hs
  have ni1 : ¬ ((1 : Int32) = 0) := by decide
  unfold M_X10_doneIn M_X11_doneIn
  simp only [Nat.zero_add]
  rcases h_sto r i p with ⟨e1, e2⟩ | ⟨s, hs, rfl, e1, e2⟩
  · simp only [e1, e2, bcall_some, ↓reduceIte]
    exact Pair.q h rfl rfl rfl
  obtain ⟨σ0, t1, t2, t3⟩ := ahead_ex h
  obtain ⟨τ0, k1, k2, k3⟩ := thinks_ex τ
  rw [bcall_of e1, bcall_of e2, if_neg ni1, if_neg ni1, bcall_of t1, bcall_of k1]
  refine La.pair h t3 k2 k3 ?_
  have z := t2 _ h.now
  obtain ⟨nb, ns0, nc, ni, r0, i0⟩ := z
  have z0 : RS σ0 23 (τ0 249) nb ns0 nc ni := by rw [k2 249 (by decide)]; exact r0
  have z1 : Iv (τ0 249) nb ns0 nc ni := by rw [k2 249 (by decide)]; exact i0
  refine two (F := fun n a x => B_X10_doneIn_29 n a 0 (Int32.ofNat s) x) (G := fun n a x => B_X11_doneIn_16 n a 248 (Int32.ofNat s) x) (I := fun d σ1 τ1 => ∃ ns1, RS σ1 23 (τ1 249) nb ns1 nc ni ∧ Iv (τ1 249) nb ns1 nc ni ∧ (∀ q, (q < 23 ∨ 41 ≤ q) → σ1 q = σ0 q) ∧ (∀ k, k ≠ 249 → τ1 k = τ0 k)) (P := fun x y => La σ0 τ0 τ0 x y) (N := 61) ?_ ?_ 61 0 FU FU σ0 τ0 (by omega) (FU_lt (by omega)) (FU_lt (by omega)) ⟨ns0, z0, z1, fun _ _ => rfl, fun _ _ => rfl⟩
  · rintro n m σ1 τ1 ⟨ns1, r1, i1, f1, f2⟩
    have h61 : (60 : Int32) < Int32.ofNat 61 := by decide
    simp only [B_X10_doneIn_29, B_X11_doneIn_16, B_X11_doneIn_50]
    rw [if_pos h61, if_pos h61, if_pos h61]
    refine La.done rfl ?_ f1 f2 rfl
    simp only [↓reduceIte]
  · rintro n m d σ1 τ1 hd ⟨ns1, r1, i1, f1, f2⟩
    have hs1 := i1.hs
    have hd60 : ¬ ((60 : Int32) < Int32.ofNat d) := fun q => (oN_lltF (n := 60) (by decide) (by show d ≤ 60; omega)).mp q
    simp only [B_X10_doneIn_29, B_X11_doneIn_16, B_X11_doneIn_50, Nat.zero_add]
    rw [if_neg hd60, if_neg hd60]
    rcases h_sto r1 i1 (Int32.ofNat s) with ⟨a1, a2⟩ | ⟨s2, hs2, es, a1, a2⟩
    · rw [bcall_of a1, bcall_of a2, if_pos rfl, if_pos rfl, if_neg hd60, bcall_of a2, if_pos rfl]
      refine Or.inl (La.done rfl ?_ f1 f2 rfl)
      simp only [↓reduceIte]
    · have es2 : s2 = s := by
        rw [oN_eq (by omega) (by omega)] at es; omega
      subst es2
      obtain ⟨t, ht, et⟩ := i1.sh s2 hs2
      have a3 : M_X11_of τ1 248 (Int32.ofNat s2) 3 = some (τ1, Int32.ofNat t) := by
        rw [x_ofl (n := 3) (by show 30 + 6 * s2 + 3 < 111; omega)]
        exact congrArg (fun z => some (τ1, z)) et
      have a4 : M_X9_hoursOf σ1 (23 + 4) (Int32.ofNat s2) = some (σ1, Int32.ofNat t) := by
        unfold M_X9_hoursOf
        rw [at_8 B23 (by omega), r1.a8 s2 hs2, et, bcall_some]
      rw [bcall_of a1, bcall_of a2, if_neg ni1, if_neg ni1, bcall_of a3, bcall_of a4]
      by_cases c : t = 0
      · subst c
        rw [if_pos (show Int32.ofNat 0 = (0 : Int32) from rfl), if_pos (show Int32.ofNat 0 ≤ (0 : Int32) from by decide), if_neg hd60, bcall_of a2, if_neg ni1]
        refine Or.inl (La.done rfl ?_ f1 f2 rfl)
        simp only [i10, ↓reduceIte]
      · obtain ⟨σ2, τ2, f, ns2, p1, p2, p3, r2, i2, g1, g2, g3, g4⟩ := passDay r1 i1
        rw [if_neg (fun q => (oN_eqFl (n := 0) (by omega) (by decide) c).mp q), if_neg (fun q => (oN_leFl (n := 0) (by omega) (by show 0 < t; omega)).mp q), bcall_of p1, bcall_of p2, blet_eq, blet_eq, oN_al]
        exact Or.inr ⟨σ2, τ2, rfl, rfl, ns2, r2, i2, fun q hq => by rw [g1 q (by omega), f1 q hq], fun k hk => by rw [g2 k hk, f2 k hk]⟩
