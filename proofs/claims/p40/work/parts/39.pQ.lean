/-! the second object's loads and crews, then what is asked before the changes -/
def MU (ns c : Nat) (r : Nat → Int32) : Prop := r 1 = 0 ∧ r 2 = Int32.ofNat 4 ∧ r 3 = Int32.ofNat ns ∧ r 4 = Int32.ofNat 4 ∧ r 5 = Int32.ofNat 2 ∧ (∀ j, j < ns → r (30 + 6 * j + 2) = 0 ∧ r (30 + 6 * j + 5) = 0) ∧ (∀ j, c ≤ j → j < 4 → r (90 + 3 * j + 1) = 0)
theorem Sc.g7 {σ : St} {b : Nat} {r : Nat → Int32} (h : Sc σ b r) : ∃ g, g ≤ 20 ∧ r 7 = Int32.ofNat g := by
  obtain ⟨nb, ns, nc, ni, -, i⟩ := h
  exact i.2.2.2.2.2.2.2.2.2.2.1
theorem Sc.g4 {σ : St} {b ns s : Nat} {r : Nat → Int32} (h : Sc σ b r) (e3 : r 3 = Int32.ofNat ns) (hn : ns ≤ 10) (hs : s < ns) : ∃ g, g ≤ 9 ∧ r (30 + 6 * s + 4) = Int32.ofNat g := by
  obtain ⟨nb, ns', nc, ni, -, i⟩ := h
  have e := i.cs
  have h10 := i.hs
  rw [e3, oN_eq (by omega) (by omega)] at e
  subst e
  exact i.2.2.2.2.2.2.2.2.2.2.2.2.2.2.2.2.1 s hs
theorem st_up {σ : St} {r : Nat → Int32} {ns c s : Nat} (h : Cw σ r) (hm : MU ns c r) (hn : ns ≤ 10) (hc : c < 4) (hs : s < ns) : ∃ σ1 r1 v, M_X10_up σ 0 (Int32.ofNat c) (Int32.ofNat s) = some (σ1, v) ∧ 0 ≤ v ∧ Cw σ1 r1 ∧ MU ns (c + 1) r1 := by
  obtain ⟨u, nx, L, hC⟩ := h
  obtain ⟨m1, m2, m3, m4, m5, m6, m7⟩ := hm
  obtain ⟨τz, v, e, h0, kr⟩ := D_up (nc := 4) hC.sc hn hs (by decide) hc m1 m3 m4 (m7 c (by omega) hc) (fun j hj => (m6 j (by omega)).1) (m6 s hs).2
  obtain ⟨σ1, e1, h1⟩ := hC.chgv (Z_up (tzc hC.cz) hC.hh (tz4 r) (Int32.ofNat c) (Int32.ofNat s)) (fun τ hC => (Q_up hC (Int32.ofNat c) (Int32.ofNat s)).co) h0 e
  exact ⟨σ1, τz 249, v, e1, h0, ⟨_, _, _, h1⟩, by rw [kr 1 (by omega)]; exact m1, by rw [kr 2 (by omega)]; exact m2, by rw [kr 3 (by omega)]; exact m3, by rw [kr 4 (by omega)]; exact m4, by rw [kr 5 (by omega)]; exact m5, fun j hj => ⟨by rw [kr _ (by omega)]; exact (m6 j hj).1, by rw [kr _ (by omega)]; exact (m6 j hj).2⟩, fun j h2 h3 => by rw [kr _ (by omega)]; exact m7 j (by omega) h3⟩
theorem st_lift {σ : St} {r : Nat → Int32} {ns c s p : Nat} (h : Cw σ r) (hm : MU ns c r) (hn : ns ≤ 10) (hs : s < ns) (hp : 1 ≤ p ∧ p ≤ 9) : ∃ σ1 r1 v, M_X10_lift σ 0 (Int32.ofNat s) (Int32.ofNat p) = some (σ1, v) ∧ (v = -3 ∨ 0 ≤ v) ∧ Cw σ1 r1 ∧ MU ns c r1 := by
  obtain ⟨u, nx, L, hC⟩ := h
  obtain ⟨m1, m2, m3, m4, m5, m6, m7⟩ := id hm
  obtain ⟨g, g1, g2⟩ := hC.sc.g7
  obtain ⟨a, a1, a2⟩ := hC.sc.g4 m3 hn hs
  obtain ⟨τz, v, e, hv⟩ := D_lift hn hs hp m1 m3 g1 g2 a1 a2
  obtain ⟨σ1, τ1, v1, e1, e2, hh⟩ := hC.chg (Z_lift (tzc hC.cz) hC.hh (tz4 r) (Int32.ofNat s) (Int32.ofNat p)) (fun τ hC => (Q_lift hC (Int32.ofNat s) (Int32.ofNat p)).co)
  rw [e] at e2
  obtain ⟨rfl, rfl⟩ := Prod.mk.injEq _ _ _ _ ▸ Option.some.inj e2
  rcases hh with ⟨hl, hc, -⟩ | ⟨h0, hc⟩
  · refine ⟨σ1, r, v, e1, ?_, ⟨_, _, _, hc⟩, hm⟩
    rcases hv with q | ⟨q, -⟩
    · exact Or.inl q
    · exact Or.inr q
  · rcases hv with q | ⟨-, kr⟩
    · rw [q] at h0; exact absurd h0 (by decide)
    · exact ⟨σ1, τz 249, v, e1, Or.inr h0, ⟨_, _, _, hc⟩, by rw [kr 1 (by omega) (by omega)]; exact m1, by rw [kr 2 (by omega) (by omega)]; exact m2, by rw [kr 3 (by omega) (by omega)]; exact m3, by rw [kr 4 (by omega) (by omega)]; exact m4, by rw [kr 5 (by omega) (by omega)]; exact m5, fun j hj => ⟨by rw [kr _ (by omega) (by omega)]; exact (m6 j hj).1, by rw [kr _ (by omega) (by omega)]; exact (m6 j hj).2⟩, fun j h2 h3 => by rw [kr _ (by omega) (by omega)]; exact m7 j h2 h3⟩
theorem lo_ok (A : Nat) (xs : Nat → Int32) {ns : Nat} (h2 : 2 ≤ ns) (h5 : ns ≤ 5) : ∀ (d c n : Nat) (σ : St) (r : Nat → Int32), c + d = 4 → d < n → Cw σ r → MU ns c r → ∃ σ2 q v u nx L ft, (∀ KX : St → Int64 → Int32 → Option (St × Int32), B_LO_962 KX n σ 0 (A, xs) (Int32.ofNat c) = KX σ2 v (q 0)) ∧ Cs σ2 q u nx L (some q) 0 ft ∧ Av q v := by
  intro d
  induction d with
  | zero =>
    intro c n σ r hj hn hC hM
    obtain ⟨n, rfl⟩ : ∃ k, n = k + 1 := ⟨n - 1, by omega⟩
    obtain rfl : c = 4 := by omega
    obtain ⟨u, nx, L, hC⟩ := hC
    obtain ⟨m1, m2, m3, m4, m5, -, -⟩ := hM
    obtain ⟨v, hv⟩ := hC.av
    obtain ⟨s1, e1, k1⟩ := hv σ hC.cz
    have c1 := k1.cs hC
    obtain ⟨s2, e2, k2⟩ := hv s1 c1.cz
    have c2 := k2.cs c1
    obtain ⟨nb', ns', nc', ni', -, i⟩ := id hC.sc
    have q1 := i.cb; have q2 := i.cs; have q3 := i.cc; have q4 := i.ci
    have b1 := i.hb; have b2 := i.hs; have b3 := i.hc; have b4 := i.hi
    rw [m2, oN_eq (by omega) (by omega)] at q1
    rw [m3, oN_eq (by omega) (by omega)] at q2
    rw [m4, oN_eq (by omega) (by omega)] at q3
    rw [m5, oN_eq (by omega) (by omega)] at q4
    obtain ⟨s3, ft, e3, c3⟩ := refused_ok i (by omega) (by omega) (by omega) (by omega) c2
    obtain ⟨s4, e4, c4⟩ := c3.save
    have a0 : M_X10_account s4 0 0 = some (s4, r 0) := by
      obtain ⟨_, _, _, _, rs, _⟩ := c4.sc
      rw [ac_0, rs.f4]
    obtain ⟨s5, e5, k5⟩ := hv s4 c4.cz
    refine ⟨s5, r, v, u, nx, L, ft, fun KX => ?_, k5.cs c4, hv⟩
    simp only [B_LO_962]
    rw [if_pos (by decide), bcall_of e1, bcall_of e2, cmp_0, if_pos rfl, bcall_of e3, if_neg (by decide), bcall_of e4, bcall_of a0, if_pos rfl, bcall_of e5, cmp_0, if_pos rfl]
  | succ d ih =>
    intro c n σ r hj hn hC hM
    obtain ⟨n, rfl⟩ : ∃ k, n = k + 1 := ⟨n - 1, by omega⟩
    obtain ⟨y, hy⟩ := at_ok A xs (i := 24 + c) (by omega)
    have sm : M_L_some σ y 2 = some (σ, Int32.ofNat (smN y 2)) := some_eq σ y (n := 2) (by decide) (by decide)
    have hs := smN_lt y (n := 2) (by decide)
    have sm2 : M_L_some σ (y >>> ((3 : Int32) &&& 31)) 4 = some (σ, Int32.ofNat (smN (y >>> ((3 : Int32) &&& 31)) 4)) := some_eq σ _ (n := 4) (by decide) (by decide)
    have hs2 := smN_lt (y >>> ((3 : Int32) &&& 31)) (n := 4) (by decide)
    obtain ⟨σ1, r1, v1, e1, hv1, c1, m1⟩ := st_lift (s := smN y 2) (p := 1 + smN (y >>> ((3 : Int32) &&& 31)) 4) hC hM (by omega) (by omega) (by omega)
    have sm3 : M_L_some σ1 (y >>> ((6 : Int32) &&& 31)) 2 = some (σ1, Int32.ofNat (smN (y >>> ((6 : Int32) &&& 31)) 2)) := some_eq σ1 _ (n := 2) (by decide) (by decide)
    have hs3 := smN_lt (y >>> ((6 : Int32) &&& 31)) (n := 2) (by decide)
    obtain ⟨σ2, r2, v2, e2, hv2, c2, m2⟩ := st_up (s := smN (y >>> ((6 : Int32) &&& 31)) 2) c1 m1 (by omega) (by omega) (by omega)
    obtain ⟨s9, q, v, u, nx, L, ft, hK, hc, ha⟩ := ih (c + 1) n σ2 r2 (by omega) (by omega) c2 m2
    refine ⟨s9, q, v, u, nx, L, ft, fun KX => ?_, hc, ha⟩
    simp only [B_LO_962]
    rw [if_neg (show ¬ (4 : Int32) ≤ Int32.ofNat c from fun q => by have := (ol (a := 4) (by omega) (by omega)).mp q; omega), oN_la, bcall_of (hy σ), bcall_of sm, bcall_of (hy σ), bcall_of sm2, oN_la, bcall_of e1]
    rcases hv1 with rfl | h0
    · rw [if_neg (by decide), if_pos rfl, bcall_of (hy σ1), bcall_of sm3, bcall_of e2, if_pos hv2, blet_eq, oN_al]
      exact hK KX
    · rw [if_pos h0, bcall_of (hy σ1), bcall_of sm3, bcall_of e2, if_pos hv2, blet_eq, oN_al]
      exact hK KX
theorem pure_o_of (hI : Cw iniK bareR) (A : Nat) (xs : Nat → Int32) : ∃ σ2 x3 x5 z, (∀ KX : St → Int64 → Int32 → Option (St × Int32), B_LO_950 KX iniK 0 (A, xs) = KX σ2 x3 x5) ∧ Q1 (fun σ x3 x5 => B_LT_1248 (fun σ => some (σ, (1 : Int32))) σ 0 x3 x5) (A, xs) FU σ2 0 (fun _ => 0) x3 x5 0 0 = some z := by
  obtain ⟨σ1, r1, ns, e1, c1, m1, n2, n5⟩ := makes_ok A xs hI
  obtain ⟨a1, a2, a3, a4, a5, a6, a7⟩ := m1
  obtain ⟨σ2, q, v, u, nx, L, ft, hK, hc, hv⟩ := lo_ok A xs n2 n5 4 0 FU σ1 r1 (by omega) (FU_lt (by decide)) c1 ⟨a1, a2, a3, a4, a5, a6, fun j _ h => a7 j h⟩
  obtain ⟨z, hz⟩ := q1_ok hv A xs 12 0 FU σ2 q u nx L ft (fun _ => 0) 0 (by omega) (FU_lt (by decide)) (by omega) hc (by omega) (fun t ht => by omega)
  refine ⟨σ2, v, q 0, z, fun KX => ?_, hz⟩
  unfold B_LO_950
  rw [bcall_of e1, if_neg (by decide)]
  exact hK KX
