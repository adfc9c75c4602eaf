/-- what is copied -/
def cp (f g : Nat → Int32) (n : Nat) : Nat → Int32 := fun q => if q < n then f q else g q
theorem copy_ex (σ : St) {a c n : Nat} (ha : ln a = n) (hc : ln c = n) : ∃ σ1, M_X10_copy σ a c = some (σ1, 0) ∧ (∀ q, q < n → σ1 c q = σ a q) ∧ (∀ k, k ≠ c → σ1 k = σ k) := by
  have h1 := ln_le a
  rw [ha] at h1
  refine ⟨va_up σ c (va_cpy (σ a) (σ c) 0 0 n), ?_, fun q hq => ?_, fun k hk => up_ne hk⟩
  · unfold M_X10_copy
    rw [ha, hc, imin_nat (by omega) (by omega), Nat.min_self]
    rw [blet_eq]
    unfold bcpy
    have e1 : (0 : Int32).toNatClampNeg = 0 := rfl
    rw [oN_clamp (by omega), e1, if_pos ⟨by decide, by decide, fun q => (oN_nn (a := n) (by omega)).mp q, by omega, by omega⟩]
  · rw [up_at]
    unfold va_cpy
    rw [if_pos (by omega), Nat.zero_add, Nat.sub_zero]
theorem take_X0 (σ : St) {k a : Nat} (Bk : Blk k) (Ba : Blk a) (hd : k + 18 ≤ a ∨ a + 18 ≤ k) : ∃ σ1, M_X0_take σ (k + 1) (a + 1) = some (σ1, 0) ∧ (∀ i, i < 8 → σ1 (k + 2) i = σ (a + 2) i) ∧ (∀ i, i < 8 → σ1 (k + 3) i = σ (a + 3) i) ∧ σ1 (k + 1) 2 = σ (a + 1) 2 ∧ (∀ q, q ≠ k + 1 → q ≠ k + 2 → q ≠ k + 3 → σ1 q = σ q) := by
  obtain ⟨s0, e0, p0, q0⟩ := copy_ex σ (a := a + 1 + 1) (c := k + 1 + 1) (Ba.l2) (Bk.l2)
  obtain ⟨s1, e1, p1, q1⟩ := copy_ex s0 (a := a + 1 + 2) (c := k + 1 + 2) (Ba.l3) (Bk.l3)
  refine ⟨u2 s1 (k + 1) 2 (s1 (a + 1) 2), by simp only [M_X0_take, bcall_some, bput_eq, e0, e1], ?_, ?_, ?_, ?_⟩
  · intro i hi
    rw [u2_ne (show k + 2 ≠ k + 1 by omega), q1 (k + 2) (by omega)]
    exact p0 i hi
  · intro i hi
    rw [u2_ne (show k + 3 ≠ k + 1 by omega)]
    refine (p1 i hi).trans ?_
    rw [q0 (a + 1 + 2) (by omega)]
  · rw [u2_self, q1 (a + 1) (by omega), q0 (a + 1) (by omega)]
  · intro q h0 h1 h2
    rw [u2_ne h0, q1 q h2, q0 q h1]
theorem take_X9 (σ : St) {k a : Nat} (Bk : Blk k) (Ba : Blk a) (hd : k + 18 ≤ a ∨ a + 18 ≤ k) : ∃ σ1, M_X9_take σ (k + 4) (a + 4) = some (σ1, 0) ∧ (∀ i, i < 10 → σ1 (k + 5) i = σ (a + 5) i) ∧ (∀ i, i < 10 → σ1 (k + 6) i = σ (a + 6) i) ∧ (∀ i, i < 10 → σ1 (k + 7) i = σ (a + 7) i) ∧ (∀ i, i < 10 → σ1 (k + 8) i = σ (a + 8) i) ∧ (∀ i, i < 10 → σ1 (k + 9) i = σ (a + 9) i) ∧ (∀ i, i < 10 → σ1 (k + 10) i = σ (a + 10) i) ∧ σ1 (k + 4) 6 = σ (a + 4) 6 ∧ (∀ q, q ≠ k + 4 → q ≠ k + 5 → q ≠ k + 6 → q ≠ k + 7 → q ≠ k + 8 → q ≠ k + 9 → q ≠ k + 10 → σ1 q = σ q) := by
  obtain ⟨s0, e0, p0, q0⟩ := copy_ex σ (a := a + 4 + 1) (c := k + 4 + 1) (Ba.l5) (Bk.l5)
  obtain ⟨s1, e1, p1, q1⟩ := copy_ex s0 (a := a + 4 + 2) (c := k + 4 + 2) (Ba.l6) (Bk.l6)
  obtain ⟨s2, e2, p2, q2⟩ := copy_ex s1 (a := a + 4 + 3) (c := k + 4 + 3) (Ba.l7) (Bk.l7)
  obtain ⟨s3, e3, p3, q3⟩ := copy_ex s2 (a := a + 4 + 4) (c := k + 4 + 4) (Ba.l8) (Bk.l8)
  obtain ⟨s4, e4, p4, q4⟩ := copy_ex s3 (a := a + 4 + 5) (c := k + 4 + 5) (Ba.l9) (Bk.l9)
  obtain ⟨s5, e5, p5, q5⟩ := copy_ex s4 (a := a + 4 + 6) (c := k + 4 + 6) (Ba.l10) (Bk.l10)
  refine ⟨u2 s5 (k + 4) 6 (s5 (a + 4) 6), by simp only [M_X9_take, bcall_some, bput_eq, e0, e1, e2, e3, e4, e5], ?_, ?_, ?_, ?_, ?_, ?_, ?_, ?_⟩
  · intro i hi
    rw [u2_ne (show k + 5 ≠ k + 4 by omega), q5 (k + 5) (by omega), q4 (k + 5) (by omega), q3 (k + 5) (by omega), q2 (k + 5) (by omega), q1 (k + 5) (by omega)]
    exact p0 i hi
  · intro i hi
    rw [u2_ne (show k + 6 ≠ k + 4 by omega), q5 (k + 6) (by omega), q4 (k + 6) (by omega), q3 (k + 6) (by omega), q2 (k + 6) (by omega)]
    refine (p1 i hi).trans ?_
    rw [q0 (a + 4 + 2) (by omega)]
  · intro i hi
    rw [u2_ne (show k + 7 ≠ k + 4 by omega), q5 (k + 7) (by omega), q4 (k + 7) (by omega), q3 (k + 7) (by omega)]
    refine (p2 i hi).trans ?_
    rw [q1 (a + 4 + 3) (by omega), q0 (a + 4 + 3) (by omega)]
  · intro i hi
    rw [u2_ne (show k + 8 ≠ k + 4 by omega), q5 (k + 8) (by omega), q4 (k + 8) (by omega)]
    refine (p3 i hi).trans ?_
    rw [q2 (a + 4 + 4) (by omega), q1 (a + 4 + 4) (by omega), q0 (a + 4 + 4) (by omega)]
  · intro i hi
    rw [u2_ne (show k + 9 ≠ k + 4 by omega), q5 (k + 9) (by omega)]
    refine (p4 i hi).trans ?_
    rw [q3 (a + 4 + 5) (by omega), q2 (a + 4 + 5) (by omega), q1 (a + 4 + 5) (by omega), q0 (a + 4 + 5) (by omega)]
  · intro i hi
    rw [u2_ne (show k + 10 ≠ k + 4 by omega)]
    refine (p5 i hi).trans ?_
    rw [q4 (a + 4 + 6) (by omega), q3 (a + 4 + 6) (by omega), q2 (a + 4 + 6) (by omega), q1 (a + 4 + 6) (by omega), q0 (a + 4 + 6) (by omega)]
  · rw [u2_self, q5 (a + 4) (by omega), q4 (a + 4) (by omega), q3 (a + 4) (by omega), q2 (a + 4) (by omega), q1 (a + 4) (by omega), q0 (a + 4) (by omega)]
  · intro q h0 h1 h2 h3 h4 h5 h6
    rw [u2_ne h0, q5 q h6, q4 q h5, q3 q h4, q2 q h3, q1 q h2, q0 q h1]
theorem take_X1 (σ : St) {k a : Nat} (Bk : Blk k) (Ba : Blk a) (hd : k + 18 ≤ a ∨ a + 18 ≤ k) : ∃ σ1, M_X1_take σ (k + 11) (a + 11) = some (σ1, 0) ∧ (∀ i, i < 5 → σ1 (k + 12) i = σ (a + 12) i) ∧ (∀ i, i < 5 → σ1 (k + 13) i = σ (a + 13) i) ∧ (∀ i, i < 5 → σ1 (k + 14) i = σ (a + 14) i) ∧ σ1 (k + 11) 3 = σ (a + 11) 3 ∧ (∀ q, q ≠ k + 11 → q ≠ k + 12 → q ≠ k + 13 → q ≠ k + 14 → σ1 q = σ q) := by
  obtain ⟨s0, e0, p0, q0⟩ := copy_ex σ (a := a + 11 + 1) (c := k + 11 + 1) (Ba.l12) (Bk.l12)
  obtain ⟨s1, e1, p1, q1⟩ := copy_ex s0 (a := a + 11 + 2) (c := k + 11 + 2) (Ba.l13) (Bk.l13)
  obtain ⟨s2, e2, p2, q2⟩ := copy_ex s1 (a := a + 11 + 3) (c := k + 11 + 3) (Ba.l14) (Bk.l14)
  refine ⟨u2 s2 (k + 11) 3 (s2 (a + 11) 3), by simp only [M_X1_take, bcall_some, bput_eq, e0, e1, e2], ?_, ?_, ?_, ?_, ?_⟩
  · intro i hi
    rw [u2_ne (show k + 12 ≠ k + 11 by omega), q2 (k + 12) (by omega), q1 (k + 12) (by omega)]
    exact p0 i hi
  · intro i hi
    rw [u2_ne (show k + 13 ≠ k + 11 by omega), q2 (k + 13) (by omega)]
    refine (p1 i hi).trans ?_
    rw [q0 (a + 11 + 2) (by omega)]
  · intro i hi
    rw [u2_ne (show k + 14 ≠ k + 11 by omega)]
    refine (p2 i hi).trans ?_
    rw [q1 (a + 11 + 3) (by omega), q0 (a + 11 + 3) (by omega)]
  · rw [u2_self, q2 (a + 11) (by omega), q1 (a + 11) (by omega), q0 (a + 11) (by omega)]
  · intro q h0 h1 h2 h3
    rw [u2_ne h0, q2 q h3, q1 q h2, q0 q h1]
theorem take_X3 (σ : St) {k a : Nat} (Bk : Blk k) (Ba : Blk a) (hd : k + 18 ≤ a ∨ a + 18 ≤ k) : ∃ σ1, M_X3_take σ (k + 15) (a + 15) = some (σ1, 0) ∧ (∀ i, i < 3 → σ1 (k + 16) i = σ (a + 16) i) ∧ (∀ i, i < 3 → σ1 (k + 17) i = σ (a + 17) i) ∧ σ1 (k + 15) 2 = σ (a + 15) 2 ∧ (∀ q, q ≠ k + 15 → q ≠ k + 16 → q ≠ k + 17 → σ1 q = σ q) := by
  obtain ⟨s0, e0, p0, q0⟩ := copy_ex σ (a := a + 15 + 1) (c := k + 15 + 1) (Ba.l16) (Bk.l16)
  obtain ⟨s1, e1, p1, q1⟩ := copy_ex s0 (a := a + 15 + 2) (c := k + 15 + 2) (Ba.l17) (Bk.l17)
  refine ⟨u2 s1 (k + 15) 2 (s1 (a + 15) 2), by simp only [M_X3_take, bcall_some, bput_eq, e0, e1], ?_, ?_, ?_, ?_⟩
  · intro i hi
    rw [u2_ne (show k + 16 ≠ k + 15 by omega), q1 (k + 16) (by omega)]
    exact p0 i hi
  · intro i hi
    rw [u2_ne (show k + 17 ≠ k + 15 by omega)]
    refine (p1 i hi).trans ?_
    rw [q0 (a + 15 + 2) (by omega)]
  · rw [u2_self, q1 (a + 15) (by omega), q0 (a + 15) (by omega)]
  · intro q h0 h1 h2
    rw [u2_ne h0, q1 q h2, q0 q h1]
theorem take_ok (σ : St) {k a : Nat} (Bk : Blk k) (Ba : Blk a) (hd : k + 18 ≤ a ∨ a + 18 ≤ k) : ∃ σ1, M_X7_take σ k a = some (σ1, 0) ∧ (∀ r nb ns nc ni, nb ≤ 8 → ns ≤ 10 → nc ≤ 5 → ni ≤ 3 → RS σ a r nb ns nc ni → RS σ1 k r nb ns nc ni) ∧ (∀ q, (q < k ∨ k + 18 ≤ q) → σ1 q = σ q) := by
  obtain ⟨s1, e1, p2, p3, c1, g1⟩ := take_X0 σ Bk Ba hd
  obtain ⟨s2, e2, p5, p6, p7, p8, p9, p10, c2, g2⟩ := take_X9 s1 Bk Ba hd
  obtain ⟨s3, e3, p12, p13, p14, c3, g3⟩ := take_X1 s2 Bk Ba hd
  obtain ⟨s4, e4, p16, p17, c4, g4⟩ := take_X3 s3 Bk Ba hd
  have f0 : ∀ q, (q < k ∨ k + 18 ≤ q) → s4 q = σ q := fun q hq => by
    rw [g4 q (by omega) (by omega) (by omega), g3 q (by omega) (by omega) (by omega) (by omega), g2 q (by omega) (by omega) (by omega) (by omega) (by omega) (by omega) (by omega), g1 q (by omega) (by omega) (by omega)]
  have f1 : ∀ q, (q < k ∨ k + 18 ≤ q) → s1 q = σ q := fun q hq => by
    rw [g1 q (by omega) (by omega) (by omega)]
  have f2 : ∀ q, (q < k ∨ k + 18 ≤ q) → s2 q = σ q := fun q hq => by
    rw [g2 q (by omega) (by omega) (by omega) (by omega) (by omega) (by omega) (by omega), f1 q hq]
  have f3 : ∀ q, (q < k ∨ k + 18 ≤ q) → s3 q = σ q := fun q hq => by
    rw [g3 q (by omega) (by omega) (by omega) (by omega), f2 q hq]
  have ha : s4 a = σ a := f0 a (by omega)
  refine ⟨u2 (u2 (u2 (u2 (u2 (u2 (u2 (u2 (u2 (u2 s4 k 4 (σ a 4)) k 5 (σ a 5)) k 6 (σ a 6)) k 7 (σ a 7)) k 8 (σ a 8)) k 9 (σ a 9)) k 10 (σ a 10)) k 11 (σ a 11)) k 12 (σ a 12)) k 13 (σ a 13), ?_, ?_, ?_⟩
  · unfold M_X7_take
    have hak : a ≠ k := by omega
    simp only [bcall_some, bput_eq, e1, e2, e3, e4]
    simp only [u2_ne hak, ha]
  · intro r nb ns nc ni hb hs hc hi h
    have z : ∀ q, k < q → ∀ s, u2 (u2 (u2 (u2 (u2 (u2 (u2 (u2 (u2 (u2 s k 4 (σ a 4)) k 5 (σ a 5)) k 6 (σ a 6)) k 7 (σ a 7)) k 8 (σ a 8)) k 9 (σ a 9)) k 10 (σ a 10)) k 11 (σ a 11)) k 12 (σ a 12)) k 13 (σ a 13) q = s q := fun q hq s => by
      have : q ≠ k := by omega
      rw [u2_ne this, u2_ne this, u2_ne this, u2_ne this, u2_ne this, u2_ne this, u2_ne this, u2_ne this, u2_ne this, u2_ne this]
    apply RS.mk
    exact Bk
    case f4 => rw [u2_same (by omega), u2_same (by omega), u2_same (by omega), u2_same (by omega), u2_same (by omega), u2_same (by omega), u2_same (by omega), u2_same (by omega), u2_same (by omega), u2_self]; exact h.f4
    case f5 => rw [u2_same (by omega), u2_same (by omega), u2_same (by omega), u2_same (by omega), u2_same (by omega), u2_same (by omega), u2_same (by omega), u2_same (by omega), u2_self]; exact h.f5
    case f6 => rw [u2_same (by omega), u2_same (by omega), u2_same (by omega), u2_same (by omega), u2_same (by omega), u2_same (by omega), u2_same (by omega), u2_self]; exact h.f6
    case f7 => rw [u2_same (by omega), u2_same (by omega), u2_same (by omega), u2_same (by omega), u2_same (by omega), u2_same (by omega), u2_self]; exact h.f7
    case f8 => rw [u2_same (by omega), u2_same (by omega), u2_same (by omega), u2_same (by omega), u2_same (by omega), u2_self]; exact h.f8
    case f9 => rw [u2_same (by omega), u2_same (by omega), u2_same (by omega), u2_same (by omega), u2_self]; exact h.f9
    case f10 => rw [u2_same (by omega), u2_same (by omega), u2_same (by omega), u2_self]; exact h.f10
    case f11 => rw [u2_same (by omega), u2_same (by omega), u2_self]; exact h.f11
    case f12 => rw [u2_same (by omega), u2_self]; exact h.f12
    case f13 => rw [u2_self]; exact h.f13
    case cb => rw [z _ (by omega), g4 _ (by omega) (by omega) (by omega), g3 _ (by omega) (by omega) (by omega) (by omega), g2 _ (by omega) (by omega) (by omega) (by omega) (by omega) (by omega) (by omega), c1]; exact h.cb
    case cs => rw [z _ (by omega), g4 _ (by omega) (by omega) (by omega), g3 _ (by omega) (by omega) (by omega) (by omega), c2, f1 _ (by omega)]; exact h.cs
    case cc => rw [z _ (by omega), g4 _ (by omega) (by omega) (by omega), c3, f2 _ (by omega)]; exact h.cc
    case ci => rw [z _ (by omega), c4, f3 _ (by omega)]; exact h.ci
    case a2 => intro i hi; rw [z _ (by omega), g4 _ (by omega) (by omega) (by omega), g3 _ (by omega) (by omega) (by omega) (by omega), g2 _ (by omega) (by omega) (by omega) (by omega) (by omega) (by omega) (by omega), p2 i (by omega)]; exact h.a2 i hi
    case a3 => intro i hi; rw [z _ (by omega), g4 _ (by omega) (by omega) (by omega), g3 _ (by omega) (by omega) (by omega) (by omega), g2 _ (by omega) (by omega) (by omega) (by omega) (by omega) (by omega) (by omega), p3 i (by omega)]; exact h.a3 i hi
    case a5 => intro i hi; rw [z _ (by omega), g4 _ (by omega) (by omega) (by omega), g3 _ (by omega) (by omega) (by omega) (by omega), p5 i (by omega), f1 _ (by omega)]; exact h.a5 i hi
    case a6 => intro i hi; rw [z _ (by omega), g4 _ (by omega) (by omega) (by omega), g3 _ (by omega) (by omega) (by omega) (by omega), p6 i (by omega), f1 _ (by omega)]; exact h.a6 i hi
    case a7 => intro i hi; rw [z _ (by omega), g4 _ (by omega) (by omega) (by omega), g3 _ (by omega) (by omega) (by omega) (by omega), p7 i (by omega), f1 _ (by omega)]; exact h.a7 i hi
    case a8 => intro i hi; rw [z _ (by omega), g4 _ (by omega) (by omega) (by omega), g3 _ (by omega) (by omega) (by omega) (by omega), p8 i (by omega), f1 _ (by omega)]; exact h.a8 i hi
    case a9 => intro i hi; rw [z _ (by omega), g4 _ (by omega) (by omega) (by omega), g3 _ (by omega) (by omega) (by omega) (by omega), p9 i (by omega), f1 _ (by omega)]; exact h.a9 i hi
    case a10 => intro i hi; rw [z _ (by omega), g4 _ (by omega) (by omega) (by omega), g3 _ (by omega) (by omega) (by omega) (by omega), p10 i (by omega), f1 _ (by omega)]; exact h.a10 i hi
    case a12 => intro i hi; rw [z _ (by omega), g4 _ (by omega) (by omega) (by omega), p12 i (by omega), f2 _ (by omega)]; exact h.a12 i hi
    case a13 => intro i hi; rw [z _ (by omega), g4 _ (by omega) (by omega) (by omega), p13 i (by omega), f2 _ (by omega)]; exact h.a13 i hi
    case a14 => intro i hi; rw [z _ (by omega), g4 _ (by omega) (by omega) (by omega), p14 i (by omega), f2 _ (by omega)]; exact h.a14 i hi
    case a16 => intro i hi; rw [z _ (by omega), p16 i (by omega), f3 _ (by omega)]; exact h.a16 i hi
    case a17 => intro i hi; rw [z _ (by omega), p17 i (by omega), f3 _ (by omega)]; exact h.a17 i hi
  · intro q hq
    have : q ≠ k := by omega
    rw [u2_ne this, u2_ne this, u2_ne this, u2_ne this, u2_ne this, u2_ne this, u2_ne this, u2_ne this, u2_ne this, u2_ne this]
    exact f0 q hq
theorem RS.cg {σ σ1 : St} {b nb ns nc ni : Nat} {r r1 : Nat → Int32} (h : RS σ b r nb ns nc ni) (hI : Iv r nb ns nc ni) (hs : ∀ k, b ≤ k → k < b + 18 → σ1 k = σ k) (hr : ∀ q, q < 111 → r1 q = r q) : RS σ1 b r1 nb ns nc ni := by
  have hb8 := hI.hb; have hs10 := hI.hs; have hc5 := hI.hc; have hi3 := hI.hi
  have f4 := h.f4
  have f5 := h.f5
  have f6 := h.f6
  have f7 := h.f7
  have f8 := h.f8
  have f9 := h.f9
  have f10 := h.f10
  have f11 := h.f11
  have f12 := h.f12
  have f13 := h.f13
  have cb := h.cb
  have cs := h.cs
  have cc := h.cc
  have ci := h.ci
  have a2 := h.a2
  have a3 := h.a3
  have a5 := h.a5
  have a6 := h.a6
  have a7 := h.a7
  have a8 := h.a8
  have a9 := h.a9
  have a10 := h.a10
  have a12 := h.a12
  have a13 := h.a13
  have a14 := h.a14
  have a16 := h.a16
  have a17 := h.a17
  apply RS.mk
  exact h.B
  all_goals first
    | (simp (disch := omega) only [hs, hr, f4, f5, f6, f7, f8, f9, f10, f11, f12, f13, cb, cs, cc, ci, a2, a3, a5, a6, a7, a8, a9, a10, a12, a13, a14, a16, a17]; done)
    | (intro i hi; simp (disch := omega) only [hs, hr, f4, f5, f6, f7, f8, f9, f10, f11, f12, f13, cb, cs, cc, ci, a2, a3, a5, a6, a7, a8, a9, a10, a12, a13, a14, a16, a17]; done)
theorem Iv.cg {nb ns nc ni : Nat} {r r1 : Nat → Int32} (hI : Iv r nb ns nc ni) (hr : ∀ q, q < 111 → r1 q = r q) : Iv r1 nb ns nc ni := by
  have hb := hI.hb; have hs := hI.hs; have hc := hI.hc; have hi3 := hI.hi
  refine ⟨hb, hs, hc, hi3, ?_, ?_, ?_, ?_, ?_, ?_, ?_, ?_, ?_, ?_, ?_, ?_, ?_, ?_, ?_, ?_, ?_, ?_, ?_⟩
  · rw [hr _ (by omega)]; exact hI.cb
  · rw [hr _ (by omega)]; exact hI.cs
  · rw [hr _ (by omega)]; exact hI.cc
  · rw [hr _ (by omega)]; exact hI.ci
  · rw [hr _ (by omega)]; exact hI.sg
  · rw [hr _ (by omega)]; exact hI.st
  · rw [hr _ (by omega)]; exact hI.tu
  · intro i hi; rw [hr _ (by omega)]; exact hI.ba i hi
  · intro i hi; rw [hr _ (by omega)]; exact hI.sp i hi
  · intro i hi; rw [hr _ (by omega)]; exact hI.sw i hi
  · intro i hi; rw [hr _ (by omega)]; exact hI.tt i hi
  · intro i hi; rw [hr _ (by omega)]; exact hI.sh i hi
  · intro i hi; rw [hr _ (by omega)]; exact hI.sl i hi
  · intro i hi; rw [hr _ (by omega)]; exact hI.su i hi
  · intro i hi; rw [hr _ (by omega)]; exact hI.ck i hi
  · intro i hi; rw [hr _ (by omega)]; exact hI.cp i hi
  · intro i hi; rw [hr _ (by omega)]; exact hI.nn i hi
  · intro g i hi; rw [hr _ (by omega)] at g ⊢; exact hI.gr g i hi
  · intro i c hi hc1 g; rw [hr _ (by omega)] at g ⊢; exact hI.nc0 i c hi hc1 g
/-- the scaffold at b is the row r, whatever the counts -/
def Sc (σ : St) (b : Nat) (r : Nat → Int32) : Prop := ∃ nb ns nc ni, RS σ b r nb ns nc ni ∧ Iv r nb ns nc ni
theorem Sc.cg {σ σ1 : St} {b : Nat} {r r1 : Nat → Int32} (h : Sc σ b r) (hs : ∀ k, b ≤ k → k < b + 18 → σ1 k = σ k) (hr : ∀ q, q < 111 → r1 q = r q) : Sc σ1 b r1 := by
  obtain ⟨nb, ns, nc, ni, h1, h2⟩ := h
  exact ⟨nb, ns, nc, ni, h1.cg h2 hs hr, h2.cg hr⟩
theorem take_sc (σ : St) {k a : Nat} (Bk : Blk k) (Ba : Blk a) (hd : k + 18 ≤ a ∨ a + 18 ≤ k) : ∃ σ1, M_X7_take σ k a = some (σ1, 0) ∧ (∀ r, Sc σ a r → Sc σ1 k r) ∧ (∀ q, (q < k ∨ k + 18 ≤ q) → σ1 q = σ q) := by
  obtain ⟨σ1, e, h, f⟩ := take_ok σ Bk Ba hd
  exact ⟨σ1, e, fun r ⟨nb, ns, nc, ni, h1, h2⟩ => ⟨nb, ns, nc, ni, h r nb ns nc ni h2.hb h2.hs h2.hc h2.hi h1, h2⟩, f⟩
theorem B5 : Blk 5 := by apply Blk.mk <;> decide +kernel
theorem B23 : Blk 23 := by apply Blk.mk <;> decide +kernel
theorem B41 : Blk 41 := by apply Blk.mk <;> decide +kernel
theorem Bp : ∀ i, i < 9 → Blk (79 + 18 * i) := by
  intro i hi
  have c : i = 0 ∨ i = 1 ∨ i = 2 ∨ i = 3 ∨ i = 4 ∨ i = 5 ∨ i = 6 ∨ i = 7 ∨ i = 8 := by omega
  rcases c with rfl | rfl | rfl | rfl | rfl | rfl | rfl | rfl | rfl <;> apply Blk.mk <;> decide +kernel
/-- a loop that copies -/
theorem copyLoop {α : Type} (F : Nat → St → Int32 → Option α) (K : St → Option α) (N ks kd so d0 : Nat) (fs fd : St → Int32 → Int32) (τ : St)
    (hF : ∀ n σ x, F (n + 1) σ x = if Int32.ofNat N ≤ x then K σ else bald σ ks (fs σ x) fun q => bast σ kd (fd σ x) q fun σ2 => blet (x + (1 : Int32)) fun v => F n σ2 v)
    (hfs : ∀ f i, i < N → fs (va_up τ kd f) (Int32.ofNat i) = Int32.ofNat (so + i)) (hfd : ∀ f i, i < N → fd (va_up τ kd f) (Int32.ofNat i) = Int32.ofNat (d0 + i))
    (hs : so + N ≤ ln ks) (hd : d0 + N ≤ ln kd) (hk : ks ≠ kd ∨ d0 ≤ so) (hN : N < 1000) : F FU τ 0 = K (va_up τ kd (fun q => if d0 ≤ q ∧ q < d0 + N then τ ks (so + (q - d0)) else τ kd q)) := by
  refine one (F := fun n a x => F n a x) (I := fun i σ => σ = va_up τ kd (fun q => if d0 ≤ q ∧ q < d0 + i then τ ks (so + (q - d0)) else τ kd q)) (P := fun z => z = K (va_up τ kd (fun q => if d0 ≤ q ∧ q < d0 + N then τ ks (so + (q - d0)) else τ kd q))) (N := N) ?_ ?_ N 0 FU τ (by omega) (FU_lt hN) ?_
  · rintro n a rfl
    rw [hF, if_pos (Int32.le_refl _)]
  · rintro n i a hi rfl
    refine Or.inr ⟨_, ?_, rfl⟩
    rw [hF, if_neg (oN_nle (by omega) (by omega) hi), hfs _ _ hi, bald_nat (by omega), hfd _ _ hi, bast_nat (by omega), u2_up, blet_eq, oN_al]
    have e1 : va_up τ kd (fun q => if d0 ≤ q ∧ q < d0 + i then τ ks (so + (q - d0)) else τ kd q) ks (so + i) = τ ks (so + i) := by
      by_cases c : ks = kd
      · subst c
        rw [up_at, if_neg (by omega)]
      · rw [up_ne c]
    rw [e1]
    congr 2
    funext q
    unfold upd
    show (if q = d0 + i then τ ks (so + i) else if d0 ≤ q ∧ q < d0 + i then τ ks (so + (q - d0)) else τ kd q) = if d0 ≤ q ∧ q < d0 + (i + 1) then τ ks (so + (q - d0)) else τ kd q
    by_cases c : q = d0 + i
    · rw [if_pos c, if_pos (by omega), c, Nat.add_sub_cancel_left]
    · rw [if_neg c]
      by_cases c2 : d0 ≤ q ∧ q < d0 + i
      · rw [if_pos c2, if_pos (by omega)]
      · rw [if_neg c2, if_neg (by omega)]
  · have : (fun q => if d0 ≤ q ∧ q < d0 + 0 then τ ks (so + (q - d0)) else τ kd q) = τ kd := by
      funext q; rw [if_neg (by omega)]
    rw [this, up_eta]
