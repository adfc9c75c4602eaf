/-! the second object is made: what its row says on the way -/
def MX (ns nc ni : Nat) (r : Nat → Int32) : Prop := r 1 = 0 ∧ r 2 = Int32.ofNat 4 ∧ r 3 = Int32.ofNat ns ∧ r 4 = Int32.ofNat nc ∧ r 5 = Int32.ofNat ni ∧ (∀ j, j < ns → r (30 + 6 * j + 2) = 0 ∧ r (30 + 6 * j + 5) = 0) ∧ (∀ j, j < nc → r (90 + 3 * j + 1) = 0)
theorem mk_inspector {σ : St} {r : Nat → Int32} {ns j a : Nat} (h : Cw σ r) (hj : j < 3) (hn : ns ≤ 10) (hm : MX ns 4 j r) (ha : a < 9) : ∃ σ1 r1, M_X10_inspector σ 0 (Int32.ofNat (1 + a)) = some (σ1, Int32.ofNat j) ∧ Cw σ1 r1 ∧ MX ns 4 (j + 1) r1 := by
  obtain ⟨u, nx, L, hC⟩ := h
  obtain ⟨m1, m2, m3, m4, m5, m6, m7⟩ := hm
  obtain ⟨τz, e, k5, kr⟩ := D_inspector hj m5 (p := Int32.ofNat (1 + a)) ⟨(ol (a := 1) (by omega) (by omega)).mpr (by omega), (ol (j := 9) (by omega) (by omega)).mpr (by omega)⟩
  obtain ⟨σ1, e1, h1⟩ := hC.chgv (Z_inspector (tzc hC.cz) hC.hh (tz4 r) (Int32.ofNat (1 + a))) (fun τ hC => (Q_inspector hC (Int32.ofNat (1 + a))).co) (of_eq_true (oN_nn2 (by omega))) e
  exact ⟨σ1, τz 249, e1, ⟨_, _, _, h1⟩, by rw [kr 1 (by omega) (by omega)]; exact m1, by rw [kr 2 (by omega) (by omega)]; exact m2, by rw [kr 3 (by omega) (by omega)]; exact m3, by rw [kr 4 (by omega) (by omega)]; exact m4, k5, fun i hi => ⟨by rw [kr _ (by omega) (by omega)]; exact (m6 i hi).1, by rw [kr _ (by omega) (by omega)]; exact (m6 i hi).2⟩, fun i hi => by rw [kr _ (by omega) (by omega)]; exact m7 i hi⟩
theorem mk_crew {σ : St} {r : Nat → Int32} {ns j a : Nat} (h : Cw σ r) (hj : j < 5) (hn : ns ≤ 10) (hm : MX ns j 0 r) (ha : a < 4) : ∃ σ1 r1, M_X10_crew σ 0 (Int32.ofNat (1 + a)) = some (σ1, Int32.ofNat j) ∧ Cw σ1 r1 ∧ MX ns (j + 1) 0 r1 := by
  obtain ⟨u, nx, L, hC⟩ := h
  obtain ⟨m1, m2, m3, m4, m5, m6, m7⟩ := hm
  obtain ⟨τz, e, k4, k0, kr⟩ := D_crew hj m4 (p := Int32.ofNat (1 + a)) ⟨(ol (a := 1) (by omega) (by omega)).mpr (by omega), (ol (j := 4) (by omega) (by omega)).mpr (by omega)⟩
  obtain ⟨σ1, e1, h1⟩ := hC.chgv (Z_crew (tzc hC.cz) hC.hh (tz4 r) (Int32.ofNat (1 + a))) (fun τ hC => (Q_crew hC (Int32.ofNat (1 + a))).co) (of_eq_true (oN_nn2 (by omega))) e
  refine ⟨σ1, τz 249, e1, ⟨_, _, _, h1⟩, by rw [kr 1 (by omega) (by omega)]; exact m1, by rw [kr 2 (by omega) (by omega)]; exact m2, by rw [kr 3 (by omega) (by omega)]; exact m3, k4, by rw [kr 5 (by omega) (by omega)]; exact m5, fun i hi => ⟨by rw [kr _ (by omega) (by omega)]; exact (m6 i hi).1, by rw [kr _ (by omega) (by omega)]; exact (m6 i hi).2⟩, fun i hi => ?_⟩
  by_cases c : i = j
  · rw [c]; exact k0
  · rw [kr _ (by omega) (by omega)]; exact m7 i (by omega)
/-- the bundles' poles while storeys are built -/
def MP (s : Nat) (r : Nat → Int32) : Prop := (∃ t, t ≤ 200 ∧ 150 ≤ t + 12 * s ∧ r 6 = Int32.ofNat t) ∧ ∀ b, b < 4 → ∃ g, g ≤ 30 ∧ (if b + 4 < s then 0 else if b < s then 6 else 12) ≤ g ∧ r (14 + 2 * b) = Int32.ofNat g
theorem mk_build {σ : St} {r : Nat → Int32} {s a w : Nat} (h : Cw σ r) (hs : s < 5) (hm : MX s 0 0 r) (hp : MP s r) (ha : a < 3) (hw : w < 41) : ∃ σ1 r1, M_X10_build σ 0 (Int32.ofNat (s % 4)) (Int32.ofNat (4 + a)) (Int32.ofNat w) = some (σ1, Int32.ofNat s) ∧ Cw σ1 r1 ∧ MX (s + 1) 0 0 r1 ∧ MP (s + 1) r1 := by
  obtain ⟨u, nx, L, hC⟩ := h
  obtain ⟨m1, m2, m3, m4, m5, m6, m7⟩ := hm
  obtain ⟨⟨t, t1, t2, t3⟩, hb⟩ := hp
  obtain ⟨g, g1, g2, g3⟩ := hb (s % 4) (by omega)
  have g6 : 6 ≤ g := by
    by_cases c : s < 4
    · rw [if_neg (by omega), if_neg (by omega)] at g2; omega
    · rw [if_neg (by omega), if_pos (by omega)] at g2; exact g2
  obtain ⟨τz, e, k3, kg, k6, ka, kr5, kr⟩ := D_build (nb := 4) (s := s) (b := s % 4) (g := g) (t := t) (p := 4 + a) (w := w) (by omega) (by omega) (by omega) (by omega) m1 m2 m3 (by omega) g3 t1 t3 (by omega) (by omega) (by omega) (by omega)
  obtain ⟨σ1, e1, h1⟩ := hC.chgv (Z_build (tzc hC.cz) hC.hh (tz4 r) (Int32.ofNat (s % 4)) (Int32.ofNat (4 + a)) (Int32.ofNat w)) (fun τ hC => (Q_build hC (Int32.ofNat (s % 4)) (Int32.ofNat (4 + a)) (Int32.ofNat w)).co) (of_eq_true (oN_nn2 (by omega))) e
  refine ⟨σ1, τz 249, e1, ⟨_, _, _, h1⟩, ⟨by rw [kr 1 (by omega) (by omega) (by omega) (by omega) (by omega)]; exact m1, by rw [kr 2 (by omega) (by omega) (by omega) (by omega) (by omega)]; exact m2, k3, by rw [kr 4 (by omega) (by omega) (by omega) (by omega) (by omega)]; exact m4, by rw [kr 5 (by omega) (by omega) (by omega) (by omega) (by omega)]; exact m5, fun i hi => ?_, fun i hi => by omega⟩, ⟨t - 2 * (4 + a), by omega, by omega, k6⟩, fun b hb4 => ?_⟩
  · by_cases c : i = s
    · rw [c]; exact ⟨ka, kr5⟩
    · exact ⟨by rw [kr _ (by omega) (by omega) (by omega) (by omega) (by omega)]; exact (m6 i (by omega)).1, by rw [kr _ (by omega) (by omega) (by omega) (by omega) (by omega)]; exact (m6 i (by omega)).2⟩
  · by_cases c : b = s % 4
    · rw [c]
      refine ⟨g - (4 + a), by omega, ?_, kg⟩
      by_cases c4 : s < 4
      · rw [if_neg (by omega), if_neg (by omega)] at g2
        rw [if_neg (by omega), if_pos (by omega)]
        omega
      · rw [if_pos (by omega)]
        omega
    · obtain ⟨g', q1, q2, q3⟩ := hb b hb4
      refine ⟨g', q1, ?_, by rw [kr _ (by omega) (by omega) (by omega) (by omega) (by omega)]; exact q3⟩
      by_cases x1 : b + 4 < s + 1
      · rw [if_pos x1]; omega
      · rw [if_neg x1]
        rw [if_neg (by omega)] at q2
        by_cases x2 : b < s + 1
        · rw [if_pos x2]
          by_cases x3 : b < s
          · rw [if_pos x3] at q2; exact q2
          · rw [if_neg x3] at q2; omega
        · rw [if_neg x2]
          rw [if_neg (by omega)] at q2
          exact q2
def MB (j : Nat) (r : Nat → Int32) : Prop := r 1 = 0 ∧ r 2 = Int32.ofNat j ∧ r 3 = 0 ∧ r 4 = 0 ∧ r 5 = 0 ∧ r 6 = Int32.ofNat 60 ∧ ∀ b, b < j → ∃ g, g ≤ 30 ∧ 12 ≤ g ∧ r (14 + 2 * b) = Int32.ofNat g
theorem mk_bundle {σ : St} {r : Nat → Int32} {j a w : Nat} (h : Cw σ r) (hj : j < 8) (hm : MB j r) (ha : a < 19) (hw : w < 61) : ∃ σ1 r1, M_X10_bundle σ 0 (Int32.ofNat (12 + a)) (Int32.ofNat w) = some (σ1, Int32.ofNat j) ∧ Cw σ1 r1 ∧ MB (j + 1) r1 := by
  obtain ⟨u, nx, L, hC⟩ := h
  obtain ⟨m1, m2, m3, m4, m5, m6, m7⟩ := hm
  obtain ⟨τz, e, k2, kp, kr⟩ := D_bundle hj m2 (p := Int32.ofNat (12 + a)) (q := Int32.ofNat w) ⟨(ol (a := 1) (by omega) (by omega)).mpr (by omega), (ol (j := 30) (by omega) (by omega)).mpr (by omega)⟩ ⟨(ol (a := 0) (by omega) (by omega)).mpr (by omega), (ol (j := 60) (by omega) (by omega)).mpr (by omega)⟩
  obtain ⟨σ1, e1, h1⟩ := hC.chgv (Z_bundle (tzc hC.cz) hC.hh (tz4 r) (Int32.ofNat (12 + a)) (Int32.ofNat w)) (fun τ hC => (Q_bundle hC (Int32.ofNat (12 + a)) (Int32.ofNat w)).co) (of_eq_true (oN_nn2 (by omega))) e
  refine ⟨σ1, τz 249, e1, ⟨_, _, _, h1⟩, by rw [kr 1 (by omega) (by omega) (by omega)]; exact m1, k2, by rw [kr 3 (by omega) (by omega) (by omega)]; exact m3, by rw [kr 4 (by omega) (by omega) (by omega)]; exact m4, by rw [kr 5 (by omega) (by omega) (by omega)]; exact m5, by rw [kr 6 (by omega) (by omega) (by omega)]; exact m6, fun b hb => ?_⟩
  by_cases c : b = j
  · rw [c]; exact ⟨12 + a, by omega, by omega, kp⟩
  · obtain ⟨g, q1, q2, q3⟩ := m7 b (by omega)
    exact ⟨g, q1, q2, by rw [kr _ (by omega) (by omega) (by omega)]; exact q3⟩
theorem mk_strips {σ : St} {r : Nat → Int32} (h : Cw σ r) (hm : MB 4 r) : ∃ σ1 r1, M_X10_strips σ 0 90 = some (σ1, 150) ∧ Cw σ1 r1 ∧ MX 0 0 0 r1 ∧ MP 0 r1 := by
  obtain ⟨u, nx, L, hC⟩ := h
  obtain ⟨m1, m2, m3, m4, m5, m6, m7⟩ := hm
  obtain ⟨τz, e, k6, kr⟩ := D_strips (t := 60) (p := 90) (by omega) m6 (by omega)
  obtain ⟨σ1, e1, h1⟩ := hC.chgv (Z_strips (tzc hC.cz) hC.hh (tz4 r) (Int32.ofNat 90)) (fun τ hC => (Q_strips hC (Int32.ofNat 90)).co) (of_eq_true (oN_nn2 (by omega))) e
  exact ⟨σ1, τz 249, e1, ⟨_, _, _, h1⟩, ⟨by rw [kr 1 (by omega)]; exact m1, by rw [kr 2 (by omega)]; exact m2, by rw [kr 3 (by omega)]; exact m3, by rw [kr 4 (by omega)]; exact m4, by rw [kr 5 (by omega)]; exact m5, fun i hi => by omega, fun i hi => by omega⟩, ⟨150, by omega, by omega, k6⟩, fun b hb => by
    obtain ⟨g, q1, q2, q3⟩ := m7 b hb
    exact ⟨g, q1, by rw [if_neg (by omega), if_neg (by omega)]; exact q2, by rw [kr _ (by omega)]; exact q3⟩⟩
