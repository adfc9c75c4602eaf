theorem O_dayV {σ τ : St} {nb ns nc ni : Nat} (r : RS σ 5 (τ 249) nb ns nc ni) (i : Iv (τ 249) nb ns nc ni) (p : Int32) (hp : (1 : Int32) ≤ p ∧ p ≤ 30) : ∃ σ1 v, M_X8_passDays σ 1 p = some (σ1, v) ∧ 0 ≤ v ∧ (∃ q, Sc σ1 5 q) ∧ Fn σ σ1 := by

  have hb8 := i.hb; have hs10 := i.hs; have hc5 := i.hc; have hi3 := i.hi
  unfold M_X8_passDays
  simp only [show (1 : Nat) + 4 = 5 from rfl]
  rcases in_pair (σ := σ) (τ := τ) p 1 30 with ⟨e1, e2, e3⟩ | ⟨e1, e2, l1, u1⟩
  · exact absurd hp e3
  obtain ⟨g, gl, gu, rfl⟩ := rng (m := 1) (n := 30) (by decide) (by decide) l1 u1
  have key := two (F := fun n a x => B_X8_passDays_23 n a 1 (Int32.ofNat g) (σ 5 12) x) (G := fun n (a : St × Int32) x => B_X11_days_17 n a.1 248 (Int32.ofNat g) a.2 x) (I := fun _ σ1 a => ∃ f ns1, ns1 + f = ns ∧ RS σ1 5 (a.1 249) nb ns1 nc ni ∧ Iv (a.1 249) nb ns1 nc ni ∧ Fn σ σ1 ∧ (∀ k, k ≠ 249 → a.1 k = τ k) ∧ σ1 5 12 = σ 5 12 + Int32.ofNat f ∧ a.2 = Int32.ofNat f) (P := fun x _ => ∃ σ1 v, x = some (σ1, v) ∧ 0 ≤ v ∧ (∃ q, Sc σ1 5 q) ∧ Fn σ σ1) (N := g) (by
    rintro n m σ1 ⟨τ1, x⟩ ⟨f, ns1, hf, r1, i1, f1, f2, f3, f4⟩
    simp only at r1 i1 f2 f4
    subst f4
    simp (disch := omega) only [B_X8_passDays_23, B_X11_days_17, oN_leT, ↓reduceIte, f3, add_back, M_X11_does, bput_eq, bcall_some]
    exact ⟨_, _, rfl, of_eq_true (oN_nn2 (by omega)), ⟨_, nb, ns1, nc, ni, r1, i1⟩, f1⟩) (by
    rintro n m j σ1 ⟨τ1, x⟩ hj ⟨f, ns1, hf, r1, i1, f1, f2, f3, f4⟩
    simp only at r1 i1 f2 f4
    subst f4
    obtain ⟨σ2, τ2, f5, ns2, p1, p2, p3, r2, i2, g1, g2, g3, _⟩ := passDay r1 i1
    refine Or.inr ⟨σ2, (τ2, Int32.ofNat (f + f5)), ?_, ?_, f + f5, ns2, by omega, r2, i2, fun k hk => by rw [g1 k (by omega), f1 k hk], fun k hk => by show τ2 k = τ k; rw [g2 k hk, f2 k hk], ?_, rfl⟩
    · simp (disch := omega) only [B_X8_passDays_23, oN_leF, ↓reduceIte, show (1 : Nat) + 4 = 5 from rfl, p1, bcall_some, blet_eq, oN_al]
    · simp (disch := omega) only [B_X11_days_17, oN_leF, ↓reduceIte, p2, bcall_some, blet_eq, oN_al, oN_add]
    · rw [g3, f3, ← oN_add]
      grind) g 0 FU FU σ (τ, 0) (by omega) (FU_lt (by omega)) (FU_lt (by omega)) ⟨0, ns, by omega, r, i, fun _ _ => rfl, fun _ _ => rfl, by exact (add0 _).symm, rfl⟩
  simp only [e1, e2, bcall_some, ↓reduceIte, i10, blet_eq]
  exact key
theorem day_0 (σ : St) : M_X8_passDays σ 1 0 = some (σ, -2) := by
  unfold M_X8_passDays
  rcases in_pair (σ := σ) (τ := σ) (0 : Int32) 1 30 with ⟨e1, -, -⟩ | ⟨-, -, e3⟩
  · rw [bcall_of e1, if_pos rfl]
  · exact absurd e3 (by decide)
theorem ob_n {σ : St} {k : Nat} (hk : k < 20) (h6 : σ 246 k = Int32.ofNat 110) : M_X10_obey σ 0 (Int32.ofNat k) = M_X8_passDays σ 1 (σ 247 (3 * k + 0)) := by
  have n0 : M_X5_numberOf σ 245 (Int32.ofNat k) 0 = some (σ, σ 247 (3 * k + 0)) := nu_ex σ (w := 0) hk (by decide)
  have n1 : M_X5_numberOf σ 245 (Int32.ofNat k) 1 = some (σ, σ 247 (3 * k + 1)) := nu_ex σ (w := 1) hk (by decide)
  have l0 := le_ex σ hk
  unfold M_X10_obey
  simp only [Nat.zero_add]
  rw [bcall_of n0, bcall_of n1, bcall_of l0, h6, show (Int32.ofNat 110).toInt = 110 from rfl]
  rw [if_neg (show ¬ ((110 : Int) < 98 ∨ 117 < (110 : Int)) from by decide), if_neg (show ¬ ((110 : Int) = 98) from by decide), if_neg (show ¬ ((110 : Int) = 99) from by decide), if_neg (show ¬ ((110 : Int) = 100) from by decide), if_neg (show ¬ ((110 : Int) = 101) from by decide), if_neg (show ¬ ((110 : Int) = 102) from by decide), if_neg (show ¬ ((110 : Int) = 103) from by decide), if_neg (show ¬ ((110 : Int) = 104) from by decide), if_neg (show ¬ ((110 : Int) = 105) from by decide), if_neg (show ¬ ((110 : Int) = 106) from by decide), if_neg (show ¬ ((110 : Int) = 107) from by decide), if_neg (show ¬ ((110 : Int) = 108) from by decide), if_neg (show ¬ ((110 : Int) = 109) from by decide), if_pos (show (110 : Int) = 110 from rfl)]
  rw [bcall_id]
def c14 (j : Nat) : Nat := [110, 49, 59, 110, 48].getD j 0
theorem s46 (n : Nat) (σ : St) (k : Nat) (x2 : Int32) : B_X10_script_46 (n + 1) σ k x2 = if (σ (k + 245) 2) ≤ x2 then (bcall (M_X10_kept σ k (σ (k + 245) 2)) fun σ7 r8 => some (σ7, r8)) else (bcall (M_X10_obey σ k x2) fun σ9 r10 => if 0 ≤ r10 then (blet (x2 + (1 : Int32)) fun v11 => B_X10_script_46 n σ9 k v11) else (bcall (M_X2_noted σ9 (k + 59)) fun σ12 r13 => bcall (M_X7_take σ12 (k + 5) r13) fun σ14 r15 => if r10 = (-3 : Int32) then (bcall (M_X6_refuseOrder σ14 ((k + 1) + 1) x2 (1 : Int32)) fun σ18 r19 => some (σ18, r19)) else (bcall (M_X6_refuseOrder σ14 ((k + 1) + 1) x2 (0 : Int32)) fun σ16 r17 => some (σ16, r17)))) := rfl
set_option maxHeartbeats 4000000 in
theorem sc_14 {σ : St} {r : Nat → Int32} {u nx : Nat} {L : Nat → Nat → Int32} {sv : Option (Nat → Int32)} {ft : Int32} (h : Cs σ r u nx L sv 5 ft) (ht : ∀ j, j < 5 → σ 242 j = Int32.ofNat (c14 j)) : ∃ σ1 ft1, M_X10_script σ 0 = some (σ1, -3) ∧ Cs σ1 r u nx L sv 0 ft1 ∧ σ1 2 2 = Int32.ofNat 1 ∧ σ1 3 0 = 12 ∧ σ1 4 0 = 1 := by
  obtain ⟨σx, vx, ft1, ex, hh⟩ := h.script
  have hx9 := h.hh.2.1
  have hpl : pl nx = 79 + 18 * nx := rfl
  have ev : ∃ σ9, M_X10_script σ 0 = some (σ9, -3) ∧ σ9 2 2 = Int32.ofNat 1 ∧ σ9 3 0 = 12 ∧ σ9 4 0 = 1 := by
    have hc : ∀ j, j < 5 → 32 ≤ c14 j ∧ c14 j ≤ 126 := by decide +kernel
    have T : Tc c14 5 (u2 (u2 σ 245 2 0) 245 3 0) := ⟨by rw [u2_ne (by decide), u2_ne (by decide)]; exact h.inp, by decide, hc, fun j hj => by rw [u2_ne (by decide), u2_ne (by decide)]; exact ht j hj⟩
    obtain ⟨σ3, o1, o2, o3, o4, o5, o6, o7⟩ := order_c (k := 0) (p := 0) (by decide) T (by decide) u2_self (by rw [u2_same (by decide), u2_self]; rfl)
    rw [show odR c14 5 0 = 1 from by decide +kernel] at o1 o4
    rw [show odP c14 5 0 = 2 from by decide +kernel] at o2
    obtain ⟨o4a, o4b⟩ := o4 rfl
    have o4b := o4b 0 (by decide +kernel)
    rw [show odV c14 5 0 0 = 1 from by decide +kernel] at o4b
    have T3 : Tc c14 5 (u2 σ3 245 2 (Int32.ofNat 1)) := T.cg (by rw [u2_ne (by decide)]; exact o7 241 (by decide) (by decide) (by decide)) (by rw [u2_ne (by decide)]; exact o7 242 (by decide) (by decide) (by decide))
    have e3 : u2 σ3 245 2 (Int32.ofNat 1) 245 3 = Int32.ofNat 2 := by rw [u2_same (by decide)]; exact o2
    have rs := rs_ok (s := 59) T3 e3 ⟨by decide, by decide +kernel⟩
    have T4 : Tc c14 5 (u2 (u2 σ3 245 2 (Int32.ofNat 1)) 245 3 (Int32.ofNat 3)) := T3.cg (u2_ne (by decide)) (u2_ne (by decide))
    obtain ⟨σ6, p1, p2, p3, p4, p5, p6, p7⟩ := order_c (k := 1) (p := 3) (by decide) T4 (by decide) u2_self (by rw [u2_same (by decide), u2_self])
    rw [show odR c14 5 3 = 1 from by decide +kernel] at p1 p4
    rw [show odP c14 5 3 = 5 from by decide +kernel] at p2
    obtain ⟨p4a, p4b⟩ := p4 rfl
    have p4b := p4b 0 (by decide +kernel)
    rw [show odV c14 5 3 0 = 0 from by decide +kernel] at p4b
    have q246 : σ6 246 0 = Int32.ofNat 110 := by rw [p5 0 (by decide), u2_ne (by decide), u2_ne (by decide)]; exact o4a
    have q247 : σ6 247 0 = Int32.ofNat 1 := by rw [p6 0 (by decide), u2_ne (by decide), u2_ne (by decide)]; exact o4b
    have l6 : σ6 241 1 = Int32.ofNat 5 := by rw [p7 241 (by decide) (by decide) (by decide)]; exact T4.l
    have fr6 : ∀ k, k ≠ 245 → k ≠ 246 → k ≠ 247 → σ6 k = σ k := fun k a b c => by rw [p7 k a b c, u2_ne a, u2_ne a, o7 k a b c, u2_ne a, u2_ne a]
    obtain ⟨σ7, hσ7⟩ : ∃ s, s = u2 (u2 σ6 245 2 (Int32.ofNat 2)) 241 1 0 := ⟨_, rfl⟩
    have fr7 : ∀ k, k ≠ 241 → k ≠ 245 → k ≠ 246 → k ≠ 247 → σ7 k = σ k := fun k a b c d => by rw [hσ7, u2_ne a, u2_ne b, fr6 k b c d]
    have x7 : σ7 59 2 = Int32.ofNat nx := by rw [fr7 59 (by decide) (by decide) (by decide) (by decide)]; exact h.hh.2.2.2
    obtain ⟨σ8, n1, n2, n3⟩ := note_ez x7 hx9
    have f8 : ∀ k, (k < 79 ∨ 241 ≤ k) → σ8 k = σ7 k := fun k hk => n3 k (by omega)
    have s8 : Sc σ8 5 r := h.sc.cg (fun k a b => by rw [f8 k (by omega), fr7 k (by omega) (by omega) (by omega) (by omega)]) (fun _ _ => rfl)
    have a8 : σ8 245 2 = Int32.ofNat 2 := by rw [f8 245 (by decide), hσ7, u2_ne (by decide), u2_self]
    have b8 : ∀ k, 246 ≤ k → σ8 k = σ6 k := fun k hk => by rw [f8 k (by omega), hσ7, u2_ne (by omega), u2_ne (by omega)]
    obtain ⟨nb, ns, nc, ni, rr, ii⟩ := s8
    obtain ⟨σ9, v9, d1, d2, -, d4⟩ := O_dayV (τ := tz r) (by rw [tz_now]; exact rr) (by rw [tz_now]; exact ii) (1 : Int32) (by decide)
    have ob1 := ob_n (σ := σ8) (k := 0) (by decide) (by rw [b8 246 (by decide)]; exact q246)
    have e8 : σ8 247 (3 * 0 + 0) = 1 := by rw [b8 247 (by decide)]; exact q247
    rw [e8, d1] at ob1
    have a9 : σ9 245 2 = Int32.ofNat 2 := by rw [d4 245 (by omega)]; exact a8
    have ob2 := ob_n (σ := σ9) (k := 1) (by decide) (by rw [d4 246 (by omega), b8 246 (by decide)]; exact p4a)
    have e9 : σ9 247 (3 * 1 + 0) = 0 := by rw [d4 247 (by omega), b8 247 (by decide)]; exact p4b
    rw [e9, day_0] at ob2
    have x9 : σ9 59 2 = Int32.ofNat nx := by rw [d4 59 (by omega), f8 59 (by decide)]; exact x7
    obtain ⟨σ10, t1, -, -⟩ := take_sc σ9 (k := 5) (a := pl nx) B5 (Bp nx hx9) (by omega)
    obtain ⟨σ11, r1, r2, r3, r4, -⟩ := ro_no σ10 1
    refine ⟨σ11, ?_, r2, r3, r4⟩
    unfold M_X10_script M_X5_read M_X4_makeEmpty
    simp only [Nat.zero_add]
    rw [bput_eq, bput_eq, FU_s, x5s, if_neg (show ¬ (20 : Int32) ≤ 0 from by decide), bcall_of o1, if_neg (show ¬ Int32.ofNat 1 = 0 from by decide), bput_eq, o3, show Int32.ofNat 0 + 1 = Int32.ofNat 1 from rfl, e3, T3.l, if_pos (show Int32.ofNat 2 < Int32.ofNat 5 from by decide), show (59 : Int32) = Int32.ofNat 59 from rfl, bcall_of rs, if_neg (show ¬ (1 : Int32) = 0 from by decide), blet_eq, show (999 : Nat) = 998 + 1 from rfl, x5s, if_neg (show ¬ (20 : Int32) ≤ 0 + 1 from by decide), bcall_of p1, if_neg (show ¬ Int32.ofNat 1 = 0 from by decide), bput_eq, p3, show Int32.ofNat 1 + 1 = Int32.ofNat 2 from rfl, u2_same (show 3 ≠ 2 from by decide), p2, u2_ne (show (241 : Nat) ≠ 245 from by decide), l6, if_neg (show ¬ Int32.ofNat 5 < Int32.ofNat 5 from by decide), bcall_some, bput_eq, bcall_some, if_pos rfl, ← hσ7, bcall_of n1]
    have st1 := s46 999 σ8 0 0
    have st2 := s46 998 σ9 0 (Int32.ofNat 1)
    simp only [Nat.zero_add, Nat.reduceAdd] at st1 st2
    rw [a8, if_neg (show ¬ Int32.ofNat 2 ≤ 0 from by decide), show (0 : Int32) = Int32.ofNat 0 from rfl, bcall_of ob1, if_pos (show Int32.ofNat 0 ≤ v9 from d2), blet_eq, show Int32.ofNat 0 + 1 = Int32.ofNat 1 from rfl] at st1
    rw [a9, if_neg (show ¬ Int32.ofNat 2 ≤ Int32.ofNat 1 from by decide), bcall_of ob2, if_neg (show ¬ (0 : Int32) ≤ -2 from by decide), bcall_of (noted_ex x9 hx9), bcall_of t1, if_neg (show ¬ (-2 : Int32) = -3 from by decide), show Int32.ofNat 1 = (1 : Int32) from rfl, bcall_of r1] at st2
    exact st1.trans st2
  obtain ⟨σ9, e9, g1, g2, g3⟩ := ev
  rw [ex] at e9
  obtain ⟨rfl, rfl⟩ := Prod.mk.injEq _ _ _ _ ▸ Option.some.inj e9
  rcases hh with ⟨-, hc1, -⟩ | ⟨hx, -⟩
  · exact ⟨σx, ft1, ex, hc1, g1, g2, g3⟩
  · exact absurd hx (by decide)
theorem rd_14 {σ : St} {r : Nat → Int32} {u nx : Nat} {L : Nat → Nat → Int32} {sv : Option (Nat → Int32)} {ft : Int32} (h : Cs σ r u nx L sv 0 ft) : ∃ σ1 ft1, M_L_reads σ 0 14 = some (σ1, -3) ∧ Cs σ1 r u nx L sv 0 ft1 ∧ σ1 2 2 = Int32.ofNat 1 ∧ σ1 3 0 = 12 ∧ σ1 4 0 = 1 := by
  unfold M_L_reads
  refine rd_ok (z := 14) (c := c14) (by decide) (by decide +kernel) σ (P := fun x => ∃ σ1 ft1, x = some (σ1, -3) ∧ Cs σ1 r u nx L sv 0 ft1 ∧ σ1 2 2 = Int32.ofNat 1 ∧ σ1 3 0 = 12 ∧ σ1 4 0 = 1) (fun σ1 h1 t1 f1 => ?_) 5 0 FU σ (by decide) (FU_lt (by decide)) h (fun i hi => by omega) (fun _ _ _ => rfl)
  have l1 : lnS 14 = 5 := by decide
  rw [l1] at h1 t1
  exact sc_14 h1 t1
theorem rs_0 {σ : St} (h : σ 2 2 = Int32.ofNat 1) (z : Int32) : M_X10_reason σ 0 0 z = some (σ, if z = 0 then σ 3 0 else σ 4 0) := by
  have l3 : ln (2 + 1) = 3 := by decide +kernel
  have l4 : ln (2 + 2) = 3 := by decide +kernel
  have a3 := at_nat (σ := σ) (k := 2 + 1) (i := 0) (by rw [l3]; decide)
  have a4 := at_nat (σ := σ) (k := 2 + 2) (i := 0) (by rw [l4]; decide)
  unfold M_X10_reason M_X6_tell
  simp only [Nat.zero_add, Nat.reduceAdd]
  rw [h, if_pos (show (0 : Int32) ≤ 0 from by decide), if_pos (show (0 : Int32) < Int32.ofNat 1 from by decide)]
  by_cases c : z = 0
  · rw [if_pos c, if_pos c, show (0 : Int32) = Int32.ofNat 0 from rfl, bcall_of a3, bcall_some]
  · rw [if_neg c, if_neg c, show (0 : Int32) = Int32.ofNat 0 from rfl, bcall_of a4, bcall_some]
theorem rs_1 {σ : St} (h : σ 2 2 = Int32.ofNat 1) : M_X10_reason σ 0 1 0 = some (σ, -4) := by
  unfold M_X10_reason M_X6_tell
  simp only [Nat.zero_add, Nat.reduceAdd]
  rw [h, if_pos (show (0 : Int32) ≤ 1 from by decide), if_neg (show ¬ (1 : Int32) < Int32.ofNat 1 from by decide), bcall_some]
theorem rs_m (σ : St) (z : Int32) : M_X10_reason σ 0 (-1) z = some (σ, -2) := by
  unfold M_X10_reason M_X6_tell
  rw [if_neg (show ¬ (0 : Int32) ≤ -1 from by decide), bcall_some]
theorem are2 (n : Nat) (σ : St) (a0 : Nat) (w : (Nat × (Nat → Int32))) (x2 : Int32) : B_L_are_2 (n + 1) σ a0 w x2 = if ((Int32.ofNat w.1) / (2 : Int32)) ≤ x2 then (bcall (M_X10_reason σ a0 ((Int32.ofNat w.1) / (2 : Int32)) (0 : Int32)) fun σ1 r2 => if r2 = (-4 : Int32) then (bcall (M_X10_reason σ1 a0 (-1 : Int32) (1 : Int32)) fun σ3 r4 => if r4 = (-2 : Int32) then some (σ3, (1 : Int32)) else none) else none) else (bcall (M_X10_reason σ a0 x2 (0 : Int32)) fun σ7 r8 => bxld w ((2 : Int32) * x2) fun q9 => if r8 = q9 then (bcall (M_X10_reason σ7 a0 x2 (1 : Int32)) fun σ10 r11 => bxld w (((2 : Int32) * x2) + (1 : Int32)) fun q12 => if r11 = q12 then (blet (x2 + (1 : Int32)) fun v13 => B_L_are_2 n σ10 a0 w v13) else none) else none) := rfl
theorem are_1 {σ : St} {a b : Int32} (h : σ 2 2 = Int32.ofNat 1) (h3 : σ 3 0 = a) (h4 : σ 4 0 = b) : M_L_are σ 0 (2, (upd (upd (fun _ => 0) ((0 : Int32)).toNatClampNeg a) ((1 : Int32)).toNatClampNeg b)) = some (σ, 1) := by
  have q1 : Int32.ofNat 2 / 2 = 1 := by decide
  unfold M_L_are
  rw [FU_s, are2]
  show (if Int32.ofNat 2 / 2 ≤ 0 then _ else _) = _
  rw [q1, if_neg (show ¬ (1 : Int32) ≤ 0 from by decide), bcall_of (rs_0 h 0), if_pos rfl, h3]
  show (if a = a then _ else _) = _
  rw [if_pos rfl, bcall_of (rs_0 h 1), if_neg (show ¬ (1 : Int32) = 0 from by decide), h4]
  show (if b = b then _ else _) = _
  rw [if_pos rfl, blet_eq, show (999 : Nat) = 998 + 1 from rfl, are2]
  show (if Int32.ofNat 2 / 2 ≤ 1 then _ else _) = _
  rw [q1, if_pos (show (1 : Int32) ≤ 1 from by decide)]
  show (bcall (M_X10_reason σ 0 (Int32.ofNat 2 / 2) 0) _) = _
  rw [q1, bcall_of (rs_1 h), if_pos rfl, bcall_of (rs_m σ 1), if_pos rfl]
theorem cmp_0 (x : Int64) : lg_cmp x x = 0 := by
  unfold lg_cmp
  simp
theorem refused_ok {σ : St} {r : Nat → Int32} {u nx : Nat} {L : Nat → Nat → Int32} {sv : Option (Nat → Int32)} {ft : Int32} {nb ns nc ni : Nat} (i : Iv r nb ns nc ni) (hb : 0 < nb) (hs : 0 < ns) (hc : 0 < nc) (hi : 0 < ni) (h : Cs σ r u nx L sv 0 ft) : ∃ σ1 ft1, M_L_refused σ 0 = some (σ1, 1) ∧ Cs σ1 r u nx L sv 0 ft1 := by
  obtain ⟨v, had, σ1, hv, hd, hJ, e⟩ := refused_to i hb hs hc hi h
  obtain ⟨σ2, a1, a2, a3⟩ := rd_13 hJ.1
  have hd2 := reason_cg hd ((a3 2 (by decide) (by decide)).trans (hJ.2 2 (by decide) (by decide))) ((a3 3 (by decide) (by decide)).trans (hJ.2 3 (by decide) (by decide))) ((a3 4 (by decide) (by decide)).trans (hJ.2 4 (by decide) (by decide)))
  obtain ⟨σ3, ft1, b1, b2, b3, b4, b5⟩ := rd_14 a2
  obtain ⟨σ4, c1, c2⟩ := hv σ3 b2.cz
  refine ⟨σ4, ft1, ?_, c2.cs b2⟩
  rw [e]
  unfold B_L_refused_677
  rw [if_neg (by decide), bcall_of a1, if_pos rfl]
  unfold M_X10_fault
  rw [bcall_some, a2.flt, if_pos rfl, bcall_of hd2, if_pos rfl, bcall_of b1, if_pos rfl, bcall_of (are_1 b3 b4 b5), if_neg (by decide), bcall_of c1, cmp_0, if_pos rfl]
