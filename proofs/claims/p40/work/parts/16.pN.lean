/-! the single changes -/
theorem rng {x : Int32} {m n : Nat} (hm : m < 2147483648) (hn : n < 2147483648) (h0 : Int32.ofNat m ≤ x) (h1 : x ≤ Int32.ofNat n) : ∃ g, m ≤ g ∧ g ≤ n ∧ x = Int32.ofNat g := by
  rw [Int32.le_iff_toInt_le, oN_toInt hm] at h0
  rw [Int32.le_iff_toInt_le, oN_toInt hn] at h1
  refine ⟨x.toInt.toNat, by omega, by omega, ?_⟩
  apply Int32.toInt_inj.mp
  rw [oN_toInt (by omega)]; omega
theorem mm_z : mm 0 = -4 := by decide
theorem z_ne {a : Nat} (h : a < 1000) : (0 : Int32) ≠ Int32.ofNat (a + 1) := fun q => by
  have q2 : Int32.ofNat 0 = Int32.ofNat (a + 1) := q
  rw [oN_eq (by omega) (by omega)] at q2
  omega
theorem m4_ne {a : Nat} (h : a < 1000) : ((-4 : Int32) = Int32.ofNat a) = False := eq_false (fun q => (oN_m4 (a := a) (by omega)).mp q.symm)
theorem m1_ne {a : Nat} (h : a < 1000) : ((-1 : Int32) = Int32.ofNat a) = False := eq_false (fun q => by
  have e := oN_nn (a := a) (by omega)
  rw [← q] at e
  exact e.mp (by decide))
def bc (x : Int32) : Int32 :=
  let v1 := x - (((x.toUInt32 >>> ((1 : Int32).toUInt32 &&& Int32.toUInt32 31)).toInt32) &&& (1431655765 : Int32))
  let v2 := (v1 &&& (858993459 : Int32)) + (((v1.toUInt32 >>> ((2 : Int32).toUInt32 &&& Int32.toUInt32 31)).toInt32) &&& (858993459 : Int32))
  let v3 := (v2 + ((v2.toUInt32 >>> ((4 : Int32).toUInt32 &&& Int32.toUInt32 31)).toInt32)) &&& (252645135 : Int32)
  let v4 := v3 + ((v3.toUInt32 >>> ((8 : Int32).toUInt32 &&& Int32.toUInt32 31)).toInt32)
  let v5 := v4 + ((v4.toUInt32 >>> ((16 : Int32).toUInt32 &&& Int32.toUInt32 31)).toInt32)
  v5 &&& (63 : Int32)
theorem bc_eq (σ : St) (x : Int32) : M_J6_bitCount_0f7a4 σ x = some (σ, bc x) := rfl
def pcN (m : Nat) : Nat := m % 2 + m / 2 % 2 + m / 4 % 2 + m / 8 % 2 + m / 16 % 2
theorem bc_nat : ∀ m, m < 32 → bc (Int32.ofNat m) = Int32.ofNat (pcN m) := by decide +kernel
theorem pcN_le (m : Nat) : pcN m ≤ 5 := by unfold pcN; omega
/-- a refusal -/
theorem ref_ex (σ τ : St) (a b : Int32) : ∃ σ1 τ1, M_X6_refuse σ 2 a b = some (σ1, -3) ∧ M_X11_refuses τ 248 a b = some (τ1, -3) ∧ Pre 1 σ1 τ1 ∧ Fr σ σ1 ∧ Gr τ τ1 := by
  have l3 : ln 3 = 3 := by decide +kernel
  have l4 : ln 4 = 3 := by decide +kernel
  have l257 : ln 257 = 8 := by decide +kernel
  have p1 : ∀ (s : St) (v : Int32), M_X10_put s (2 + 1) 0 v = some (u2 s 3 0 v, 0) := fun s v => put_nat (k := 3) (i := 0) (by rw [l3]; decide)
  have p2 : ∀ (s : St) (v : Int32), M_X10_put s (2 + 2) 0 v = some (u2 s 4 0 v, 0) := fun s v => put_nat (k := 4) (i := 0) (by rw [l4]; decide)
  have q1 : ∀ (s : St) (v : Int32) (K : St → Option (St × Int32)), bast s (248 + 9) 0 v K = K (u2 s 257 0 v) := fun s v K => bast_nat (k := 257) (i := 0) (by rw [l257]; decide)
  have q2 : ∀ (s : St) (v : Int32) (K : St → Option (St × Int32)), bast s (248 + 9) 1 v K = K (u2 s 257 1 v) := fun s v K => bast_nat (k := 257) (i := 1) (by rw [l257]; decide)
  refine ⟨u2 (u2 (u2 (u2 σ 2 2 0) 3 0 a) 4 0 b) 2 2 1, u2 (u2 (u2 τ 257 0 a) 257 1 b) 248 16 1, ?_, ?_, ⟨1, by omega, by rw [u2_self]; rfl, by rw [u2_self]; rfl, fun j hj => ?_⟩, fun k h2 h3 h4 => by rw [u2_ne h2, u2_ne h4, u2_ne h3, u2_ne h2], fun k h1 h2 => by rw [u2_ne h1, u2_ne h2, u2_ne h2], fun q hq => by rw [u2_same hq, u2_ne (by decide), u2_ne (by decide)]⟩
  · simp (disch := omega) only [M_X6_refuse, M_X6_putBehind, bput_eq, bcall_some, u2_self, p1, p2, u2_ne, show (0 : Int32) + 1 = 1 from by decide]
  · simp only [M_X11_refuses, q1, q2, bput_eq]
  · obtain rfl : j = 0 := by omega
    show u2 (u2 (u2 (u2 σ 2 2 0) 3 0 a) 4 0 b) 2 2 1 3 0 = u2 (u2 (u2 τ 257 0 a) 257 1 b) 248 16 1 257 0 ∧ u2 (u2 (u2 (u2 σ 2 2 0) 3 0 a) 4 0 b) 2 2 1 4 0 = u2 (u2 (u2 τ 257 0 a) 257 1 b) 248 16 1 257 1
    exact ⟨by simp (disch := omega) only [u2_ne, u2_same, u2_self], by simp (disch := omega) only [u2_ne, u2_same, u2_self]⟩
theorem Opx.ref (σ τ : St) (a b : Int32) : Opx σ τ (bcall (M_X6_refuse σ 2 a b) fun s r => some (s, r)) (bcall (M_X11_refuses τ 248 a b) fun s r => some (s, r)) := by
  obtain ⟨σ1, τ1, e1, e2, hP, f, g⟩ := ref_ex σ τ a b
  exact Or.inr (Or.inl ⟨σ1, τ1, by rw [e1, bcall_some], by rw [e2, bcall_some], hP.le (by decide), f, g⟩)
theorem OpK.ref (σ τ : St) (a b : Int32) : OpK σ τ (bcall (M_X6_refuse σ 2 a b) fun s r => some (s, r)) (bcall (M_X11_refuses τ 248 a b) fun s r => some (s, r)) := by
  obtain ⟨σ1, τ1, e1, e2, hP, f, g⟩ := ref_ex σ τ a b
  exact Or.inr (Or.inl ⟨σ1, τ1, by rw [e1, bcall_some], by rw [e2, bcall_some], hP.le (by decide), f, g⟩)
theorem Opx.ok {σ τ σ1 τ1 : St} {v : Int32} (h0 : 0 ≤ v) (hS : Sc σ1 5 (τ1 249)) (hF : Fn σ σ1) (hT : ∀ k, k ≠ 249 → τ1 k = τ k) : Opx σ τ (some (σ1, v)) (some (u2 τ1 248 17 v, 0)) :=
  Or.inr (Or.inr ⟨σ1, _, v, rfl, rfl, h0, u2_self, by rw [u2_ne (by decide)]; exact hS, hF, fun k h1 h2 => by rw [u2_ne h1, hT k h2], fun q hq => by rw [u2_same hq, hT 248 (by decide)]⟩)
theorem OpK.ok {σ τ σ1 τ1 : St} {v : Int32} (h0 : 0 ≤ v) (hS : Sc σ1 5 (τ1 249)) (hF : Fn σ σ1) (hT : ∀ k, k ≠ 249 → τ1 k = τ k) : OpK σ τ (some (σ1, v)) (bcall (M_X11_keeps τ1 248 v) fun s r => some (s, r)) :=
  Or.inr (Or.inr ⟨σ1, _, v, rfl, rfl, h0, hS, hF, fun k _ h2 => hT k h2, fun q _ => by rw [hT 248 (by decide)]⟩)
theorem rby_step (n : Nat) (σ : St) (x1 x2 : Int32) {j : Nat} (hj : j + 2 < 8) : B_X11_refusesBy_9 (n + 1) σ 248 x1 x2 (Int32.ofNat j) = B_X11_refusesBy_9 n (u2 σ 257 (j + 2) (σ 257 j)) 248 x1 x2 (Int32.ofNat j + -1) := by
  have l257 : ln 257 = 8 := by decide +kernel
  simp only [B_X11_refusesBy_9]
  rw [if_neg (fun q => (oN_nn (a := j) (by omega)).mp q), bald_nat (k := 257) (by omega), oN_al, bast_nat (k := 257) (by omega), blet_eq]
theorem rby_end (n : Nat) (σ : St) (x1 x2 : Int32) : B_X11_refusesBy_9 (n + 1) σ 248 x1 x2 (-1) = some (u2 (u2 (u2 σ 257 0 x1) 257 1 x2) 248 16 (σ 248 16 + 1), -3) := by
  have l257 : ln 257 = 8 := by decide +kernel
  have q1 : ∀ (s : St) (v : Int32) (K : St → Option (St × Int32)), bast s (248 + 9) 0 v K = K (u2 s 257 0 v) := fun s v K => bast_nat (k := 257) (i := 0) (by rw [l257]; decide)
  have q2 : ∀ (s : St) (v : Int32) (K : St → Option (St × Int32)), bast s (248 + 9) 1 v K = K (u2 s 257 1 v) := fun s v K => bast_nat (k := 257) (i := 1) (by rw [l257]; decide)
  simp (disch := omega) only [B_X11_refusesBy_9, m1_neg, ↓reduceIte, q1, q2, bput_eq, u2_ne]
/-- a reason ahead of those that stand -/
theorem rby_ex {τ : St} {d : Nat} (e : τ 248 16 = Int32.ofNat d) (hd : d ≤ 2) (a b : Int32) : ∃ τ1, M_X11_refusesBy τ 248 a b = some (τ1, -3) ∧ τ1 248 16 = Int32.ofNat (d + 1) ∧ τ1 257 0 = a ∧ τ1 257 1 = b ∧ (∀ q, q < 2 * d → τ1 257 (q + 2) = τ 257 q) ∧ Gr τ τ1 := by
  have hd3 : d = 0 ∨ d = 1 ∨ d = 2 := by omega
  rcases hd3 with rfl | rfl | rfl
  · refine ⟨u2 (u2 (u2 τ 257 0 a) 257 1 b) 248 16 (τ 248 16 + 1), ?_, by rw [u2_self, e, oN_al], by simp (disch := omega) only [u2_ne, u2_same, u2_self], by simp (disch := omega) only [u2_ne, u2_same, u2_self], fun q hq => by omega, fun k h1 h2 => by rw [u2_ne h1, u2_ne h2, u2_ne h2], fun q hq => by rw [u2_same hq, u2_ne (by decide), u2_ne (by decide)]⟩
    unfold M_X11_refusesBy
    rw [blet_eq, e, show (2 : Int32) * Int32.ofNat 0 - 1 = -1 from by decide]
    refine (rby_end 999 τ a b).trans ?_
    rw [e]
  · refine ⟨u2 (u2 (u2 (u2 (u2 τ 257 3 (τ 257 1)) 257 2 (u2 τ 257 3 (τ 257 1) 257 0)) 257 0 a) 257 1 b) 248 16 (u2 (u2 τ 257 3 (τ 257 1)) 257 2 (u2 τ 257 3 (τ 257 1) 257 0) 248 16 + 1), ?_, by rw [u2_self, u2_ne (by decide), u2_ne (by decide), e, oN_al], by simp (disch := omega) only [u2_ne, u2_same, u2_self], by simp (disch := omega) only [u2_ne, u2_same, u2_self], fun q hq => ?_, fun k h1 h2 => by rw [u2_ne h1, u2_ne h2, u2_ne h2, u2_ne h2, u2_ne h2], fun q hq => by rw [u2_same hq, u2_ne (by decide), u2_ne (by decide), u2_ne (by decide), u2_ne (by decide)]⟩
    · unfold M_X11_refusesBy
      rw [blet_eq, e, show (2 : Int32) * Int32.ofNat 1 - 1 = Int32.ofNat 1 from by decide]
      refine (rby_step 999 τ a b (by decide)).trans ?_
      rw [show Int32.ofNat 1 + -1 = Int32.ofNat 0 from by decide]
      refine (rby_step 998 _ a b (by decide)).trans ?_
      rw [show Int32.ofNat 0 + -1 = -1 from by decide]
      exact rby_end 997 _ a b
    · have hq2 : q = 0 ∨ q = 1 := by omega
      rcases hq2 with rfl | rfl <;> simp (disch := omega) only [u2_ne, u2_same, u2_self, show 0 + 2 = 2 from rfl, show 1 + 2 = 3 from rfl]
  · refine ⟨u2 (u2 (u2 (u2 (u2 (u2 (u2 τ 257 5 (τ 257 3)) 257 4 (τ 257 2)) 257 3 (τ 257 1)) 257 2 (τ 257 0)) 257 0 a) 257 1 b) 248 16 (τ 248 16 + 1), ?_, by rw [u2_self, e, oN_al], by simp (disch := omega) only [u2_ne, u2_same, u2_self], by simp (disch := omega) only [u2_ne, u2_same, u2_self], fun q hq => ?_, fun k h1 h2 => by rw [u2_ne h1, u2_ne h2, u2_ne h2, u2_ne h2, u2_ne h2, u2_ne h2, u2_ne h2], fun q hq => by rw [u2_same hq, u2_ne (by decide), u2_ne (by decide), u2_ne (by decide), u2_ne (by decide), u2_ne (by decide), u2_ne (by decide)]⟩
    · unfold M_X11_refusesBy
      rw [blet_eq, e, show (2 : Int32) * Int32.ofNat 2 - 1 = Int32.ofNat 3 from by decide]
      refine (rby_step 999 τ a b (by decide)).trans ?_
      rw [show Int32.ofNat 3 + -1 = Int32.ofNat 2 from by decide]
      refine (rby_step 998 _ a b (by decide)).trans ?_
      rw [show Int32.ofNat 2 + -1 = Int32.ofNat 1 from by decide]
      refine (rby_step 997 _ a b (by decide)).trans ?_
      rw [show Int32.ofNat 1 + -1 = Int32.ofNat 0 from by decide]
      refine (rby_step 996 _ a b (by decide)).trans ?_
      rw [show Int32.ofNat 0 + -1 = -1 from by decide]
      refine (rby_end 995 _ a b).trans ?_
      simp (disch := omega) only [u2_ne, u2_same, show 3 + 2 = 5 from rfl, show 2 + 2 = 4 from rfl, show 1 + 2 = 3 from rfl, show 0 + 2 = 2 from rfl]
      rw [e]
    · have hq2 : q = 0 ∨ q = 1 ∨ q = 2 ∨ q = 3 := by omega
      rcases hq2 with rfl | rfl | rfl | rfl <;> simp (disch := omega) only [u2_ne, u2_same, u2_self, show 0 + 2 = 2 from rfl, show 1 + 2 = 3 from rfl, show 2 + 2 = 4 from rfl, show 3 + 2 = 5 from rfl]
theorem Opx.shut (σ τ : St) (a b : Int32) : Opx σ τ (bcall (M_X6_refuseShut σ 2 a b) fun s r => some (s, r)) (bcall (M_X11_refuses τ 248 13 b) fun s1 _ => bcall (M_X11_refusesBy s1 248 6 a) fun s r => some (s, r)) := by
  have l3 : ln 3 = 3 := by decide +kernel
  have l4 : ln 4 = 3 := by decide +kernel
  have l257 : ln 257 = 8 := by decide +kernel
  have p1 : ∀ (s : St) (v : Int32), M_X10_put s (2 + 1) 0 v = some (u2 s 3 0 v, 0) := fun s v => put_nat (k := 3) (i := 0) (by rw [l3]; decide)
  have p2 : ∀ (s : St) (v : Int32), M_X10_put s (2 + 2) 0 v = some (u2 s 4 0 v, 0) := fun s v => put_nat (k := 4) (i := 0) (by rw [l4]; decide)
  have p3 : ∀ (s : St) (v : Int32), M_X10_put s (2 + 1) 1 v = some (u2 s 3 1 v, 0) := fun s v => put_nat (k := 3) (i := 1) (by rw [l3]; decide)
  have p4 : ∀ (s : St) (v : Int32), M_X10_put s (2 + 2) 1 v = some (u2 s 4 1 v, 0) := fun s v => put_nat (k := 4) (i := 1) (by rw [l4]; decide)
  have q1 : ∀ (s : St) (v : Int32) (K : St → Option (St × Int32)), bast s (248 + 9) 0 v K = K (u2 s 257 0 v) := fun s v K => bast_nat (k := 257) (i := 0) (by rw [l257]; decide)
  have q2 : ∀ (s : St) (v : Int32) (K : St → Option (St × Int32)), bast s (248 + 9) 1 v K = K (u2 s 257 1 v) := fun s v K => bast_nat (k := 257) (i := 1) (by rw [l257]; decide)
  have e1 : M_X6_refuseShut σ 2 a b = some (u2 (u2 (u2 (u2 (u2 (u2 (u2 σ 2 2 0) 3 0 6) 4 0 a) 2 2 1) 3 1 13) 4 1 b) 2 2 2, -3) := by
    simp (disch := omega) only [M_X6_refuseShut, M_X6_refuse, M_X6_putBehind, bput_eq, bcall_some, u2_self, p1, p2, p3, p4, u2_ne, show (0 : Int32) + 1 = 1 from by decide, show (1 : Int32) + 1 = 2 from by decide]
  have e2 : M_X11_refuses τ 248 13 b = some (u2 (u2 (u2 τ 257 0 13) 257 1 b) 248 16 1, -3) := by
    simp only [M_X11_refuses, q1, q2, bput_eq]
  obtain ⟨τ1, e3, e4, e5, e6, e7, e8⟩ := rby_ex (τ := u2 (u2 (u2 τ 257 0 13) 257 1 b) 248 16 1) (d := 1) u2_self (by decide) 6 a
  refine Or.inr (Or.inl ⟨_, τ1, by rw [e1, bcall_some], by rw [e2, bcall_some, e3, bcall_some], ⟨2, by omega, by rw [u2_self]; rfl, e4, fun j hj => ?_⟩, fun k h2 h3 h4 => by rw [u2_ne h2, u2_ne h4, u2_ne h3, u2_ne h2, u2_ne h4, u2_ne h3, u2_ne h2], fun k h1 h2 => by rw [e8.1 k h1 h2, u2_ne h1, u2_ne h2, u2_ne h2], fun q hq => by rw [e8.2 q hq, u2_same hq, u2_ne (by decide), u2_ne (by decide)]⟩)
  have hj2 : j = 0 ∨ j = 1 := by omega
  rcases hj2 with rfl | rfl
  · refine ⟨?_, ?_⟩
    · refine Eq.trans ?_ e5.symm
      simp (disch := omega) only [u2_ne, u2_same, u2_self]
    · refine Eq.trans ?_ e6.symm
      simp (disch := omega) only [u2_ne, u2_same, u2_self]
  · refine ⟨?_, ?_⟩
    · refine Eq.trans ?_ (e7 0 (by decide)).symm
      simp (disch := omega) only [u2_ne, u2_same, u2_self]
    · refine Eq.trans ?_ (e7 1 (by decide)).symm
      simp (disch := omega) only [u2_ne, u2_same, u2_self]
theorem Q_bundle {σ τ : St} (h : Co σ τ) (p q : Int32) : Pair σ τ (M_X10_bundle σ 0 p q) (M_X11_bundle τ 248 p q) (fun v w => v = w) := by
  unfold M_X10_bundle M_X11_bundle
  simp only [Nat.zero_add]
  refine chg h (fun s => M_X8_addBundle s 1 p q) _ (fun σ τ h => ?_)
  obtain ⟨nb, ns, nc, ni, r, i⟩ := h.now
  have hb8 := i.hb; have hs10 := i.hs; have hc5 := i.hc; have hi3 := i.hi
  unfold M_X8_addBundle
  simp only [show (1 : Nat) + 4 = 5 from rfl, show (1 : Nat) + 1 = 2 from rfl]
  rcases in_pair (σ := σ) (τ := τ) p 1 30 with ⟨e1, e2, _⟩ | ⟨e1, e2, l1, u1⟩
  · simp only [e1, e2, bcall_some, ↓reduceIte, i10]
    exact Or.inl ⟨-2, Or.inr rfl, rfl, rfl⟩
  obtain ⟨g, gl, gu, rfl⟩ := rng (m := 1) (n := 30) (by decide) (by decide) l1 u1
  rcases in_pair (σ := σ) (τ := τ) q 0 60 with ⟨e3, e4, _⟩ | ⟨e3, e4, l3, u3⟩
  · simp only [e1, e2, e3, e4, bcall_some, ↓reduceIte, i10]
    exact Or.inl ⟨-2, Or.inr rfl, rfl, rfl⟩
  obtain ⟨t, tl, tu, rfl⟩ := rng (m := 0) (n := 60) (by decide) (by decide) l3 u3
  by_cases c : nb = 8
  · subst c
    simp (disch := omega) only [e1, e2, e3, e4, show (Int32.ofNat 8 = (8 : Int32)) = True from eq_true rfl, bcall_some, blet_eq, bput_eq, at_2 (RS.B r), at_3 (RS.B r), at_5 (RS.B r), at_6 (RS.B r), at_7 (RS.B r), at_8 (RS.B r), at_9 (RS.B r), at_10 (RS.B r), at_12 (RS.B r), at_13 (RS.B r), at_14 (RS.B r), at_16 (RS.B r), at_17 (RS.B r), put_2 (RS.B r), put_3 (RS.B r), put_5 (RS.B r), put_6 (RS.B r), put_7 (RS.B r), put_8 (RS.B r), put_9 (RS.B r), put_10 (RS.B r), put_12 (RS.B r), put_13 (RS.B r), put_14 (RS.B r), put_16 (RS.B r), put_17 (RS.B r), x_ofl, x_of, x_setsl, x_sets, x_ld, x_ldl, x_stt, x_stl, x_where, oN_al, oN_la, oN_lm, u2_ne, u2_same, u2_self, (RS.cb r), (RS.cs r), (RS.cc r), (RS.ci r), (Iv.cb i), (Iv.cs i), (Iv.cc i), (Iv.ci i), (RS.a2 r), (RS.a3 r), (RS.a5 r), (RS.a6 r), (RS.a7 r), (RS.a8 r), (RS.a9 r), (RS.a10 r), (RS.a12 r), (RS.a13 r), (RS.a14 r), (RS.a16 r), (RS.a17 r), (RS.f4 r), (RS.f5 r), (RS.f6 r), (RS.f7 r), (RS.f8 r), (RS.f9 r), (RS.f10 r), (RS.f11 r), (RS.f12 r), (RS.f13 r), oN_leT, oN_leF, oN_ltT, oN_ltF, oN_leTl, oN_leFl, oN_ltTl, oN_ltFl, oN_lleT, oN_lleF, oN_lltT, oN_lltF, oN_m4, oN_nn, oN_nn2, mm_0, mm_s, oN_s1, oN_z1, m1_neg, m1_nn, m4_neg, i10, ↓reduceIte, if_true, if_false]
    exact OpK.ref _ _ _ _
  · simp (disch := omega) only [e1, e2, e3, e4, M_X0_add, oN_eqFl, bcall_some, blet_eq, bput_eq, at_2 (RS.B r), at_3 (RS.B r), at_5 (RS.B r), at_6 (RS.B r), at_7 (RS.B r), at_8 (RS.B r), at_9 (RS.B r), at_10 (RS.B r), at_12 (RS.B r), at_13 (RS.B r), at_14 (RS.B r), at_16 (RS.B r), at_17 (RS.B r), put_2 (RS.B r), put_3 (RS.B r), put_5 (RS.B r), put_6 (RS.B r), put_7 (RS.B r), put_8 (RS.B r), put_9 (RS.B r), put_10 (RS.B r), put_12 (RS.B r), put_13 (RS.B r), put_14 (RS.B r), put_16 (RS.B r), put_17 (RS.B r), x_ofl, x_of, x_setsl, x_sets, x_ld, x_ldl, x_stt, x_stl, x_where, oN_al, oN_la, oN_lm, u2_ne, u2_same, u2_self, (RS.cb r), (RS.cs r), (RS.cc r), (RS.ci r), (Iv.cb i), (Iv.cs i), (Iv.cc i), (Iv.ci i), (RS.a2 r), (RS.a3 r), (RS.a5 r), (RS.a6 r), (RS.a7 r), (RS.a8 r), (RS.a9 r), (RS.a10 r), (RS.a12 r), (RS.a13 r), (RS.a14 r), (RS.a16 r), (RS.a17 r), (RS.f4 r), (RS.f5 r), (RS.f6 r), (RS.f7 r), (RS.f8 r), (RS.f9 r), (RS.f10 r), (RS.f11 r), (RS.f12 r), (RS.f13 r), oN_leT, oN_leF, oN_ltT, oN_ltF, oN_leTl, oN_leFl, oN_ltTl, oN_ltFl, oN_lleT, oN_lleF, oN_lltT, oN_lltF, oN_m4, oN_nn, oN_nn2, mm_0, mm_s, oN_s1, oN_z1, m1_neg, m1_nn, m4_neg, i10, ↓reduceIte, if_true, if_false]
    refine OpK.ok (of_eq_true (oN_nn2 (by omega))) ⟨nb + 1, ns, nc, ni, ?_, ?_⟩ (fun k hk => by simp (disch := omega) only [u2_ne]) (fun k hk => by simp (disch := omega) only [u2_ne])
    · apply RS.mk
      exact B5
      all_goals first | (simp (disch := omega) only [u2_ne, u2_same, u2_self, mm_z, (RS.f4 r), (RS.f5 r), (RS.f6 r), (RS.f7 r), (RS.f8 r), (RS.f9 r), (RS.f10 r), (RS.f11 r), (RS.f12 r), (RS.f13 r), (RS.cb r), (RS.cs r), (RS.cc r), (RS.ci r), (RS.a2 r), (RS.a3 r), (RS.a5 r), (RS.a6 r), (RS.a7 r), (RS.a8 r), (RS.a9 r), (RS.a10 r), (RS.a12 r), (RS.a13 r), (RS.a14 r), (RS.a16 r), (RS.a17 r)]; done) | (intro z9 h9; simp (disch := omega) only [u2_ne, u2_same, u2_self, mm_z, (RS.f4 r), (RS.f5 r), (RS.f6 r), (RS.f7 r), (RS.f8 r), (RS.f9 r), (RS.f10 r), (RS.f11 r), (RS.f12 r), (RS.f13 r), (RS.cb r), (RS.cs r), (RS.cc r), (RS.ci r), (RS.a2 r), (RS.a3 r), (RS.a5 r), (RS.a6 r), (RS.a7 r), (RS.a8 r), (RS.a9 r), (RS.a10 r), (RS.a12 r), (RS.a13 r), (RS.a14 r), (RS.a16 r), (RS.a17 r)]; done) | (intro z9 h9; by_cases e : z9 = nb <;> first | (rw [e]; simp (disch := omega) only [u2_ne, u2_same, u2_self, mm_z, (RS.f4 r), (RS.f5 r), (RS.f6 r), (RS.f7 r), (RS.f8 r), (RS.f9 r), (RS.f10 r), (RS.f11 r), (RS.f12 r), (RS.f13 r), (RS.cb r), (RS.cs r), (RS.cc r), (RS.ci r), (RS.a2 r), (RS.a3 r), (RS.a5 r), (RS.a6 r), (RS.a7 r), (RS.a8 r), (RS.a9 r), (RS.a10 r), (RS.a12 r), (RS.a13 r), (RS.a14 r), (RS.a16 r), (RS.a17 r)]; done) | (simp (disch := omega) only [u2_ne, u2_same, u2_self, mm_z, (RS.f4 r), (RS.f5 r), (RS.f6 r), (RS.f7 r), (RS.f8 r), (RS.f9 r), (RS.f10 r), (RS.f11 r), (RS.f12 r), (RS.f13 r), (RS.cb r), (RS.cs r), (RS.cc r), (RS.ci r), (RS.a2 r), (RS.a3 r), (RS.a5 r), (RS.a6 r), (RS.a7 r), (RS.a8 r), (RS.a9 r), (RS.a10 r), (RS.a12 r), (RS.a13 r), (RS.a14 r), (RS.a16 r), (RS.a17 r)]; done))
    · apply Iv.mk
      · omega
      · omega
      · omega
      · omega
      · simp (disch := omega) only [u2_same, u2_self]
      · simp (disch := omega) only [u2_same, u2_self]; exact i.cs
      · simp (disch := omega) only [u2_same, u2_self]; exact i.cc
      · simp (disch := omega) only [u2_same, u2_self]; exact i.ci
      · simp (disch := omega) only [u2_same, u2_self]; exact i.sg
      · simp (disch := omega) only [u2_same, u2_self]; exact i.st
      · simp (disch := omega) only [u2_same, u2_self]; exact i.tu
      · intro j hj
        by_cases e : j = nb
        · rw [e]; simp (disch := omega) only [u2_same, u2_self]; exact ⟨t, tu, rfl⟩
        · simp (disch := omega) only [u2_same, u2_self]; exact i.ba j (by omega)
      · intro j hj; simp (disch := omega) only [u2_same, u2_self]; exact i.sp j hj
      · intro j hj; simp (disch := omega) only [u2_same, u2_self]; exact i.sw j hj
      · intro j hj; simp (disch := omega) only [u2_same, u2_self]; exact i.tt j hj
      · intro j hj; simp (disch := omega) only [u2_same, u2_self]; exact i.sh j hj
      · intro j hj; simp (disch := omega) only [u2_same, u2_self]; exact i.sl j hj
      · intro j hj; simp (disch := omega) only [u2_same, u2_self]; exact i.su j hj
      · intro j hj; simp (disch := omega) only [u2_same, u2_self]; exact i.ck j hj
      · intro j hj; simp (disch := omega) only [u2_same, u2_self]; exact i.cp j hj
      · intro j hj; simp (disch := omega) only [u2_same, u2_self]; exact i.nn j hj
      · intro g j hj; simp (disch := omega) only [u2_same, u2_self] at g ⊢; exact i.gr g j hj
      · intro j c hj hc g; simp (disch := omega) only [u2_same, u2_self] at g ⊢; exact i.nc0 j c hj hc g
theorem Q_strips {σ τ : St} (h : Co σ τ) (p : Int32) : Pair σ τ (M_X10_strips σ 0 p) (M_X11_strips τ 248 p) (fun v w => v = w) := by
  unfold M_X10_strips M_X11_strips
  simp only [Nat.zero_add]
  refine chg h (fun s => M_X8_addStrips s 1 p) _ (fun σ τ h => ?_)
  obtain ⟨nb, ns, nc, ni, r, i⟩ := h.now
  have hb8 := i.hb; have hs10 := i.hs; have hc5 := i.hc; have hi3 := i.hi
  unfold M_X8_addStrips
  simp only [show (1 : Nat) + 4 = 5 from rfl, show (1 : Nat) + 1 = 2 from rfl]
  rcases in_pair (σ := σ) (τ := τ) p 1 99 with ⟨e1, e2, _⟩ | ⟨e1, e2, l1, u1⟩
  · simp only [e1, e2, bcall_some, ↓reduceIte, i10]
    exact Or.inl ⟨-2, Or.inr rfl, rfl, rfl⟩
  obtain ⟨g, gl, gu, rfl⟩ := rng (m := 1) (n := 99) (by decide) (by decide) l1 u1
  obtain ⟨s, hs, es⟩ := i.st
  have m1 : imin (Int32.ofNat (s + g)) 200 = Int32.ofNat (min (s + g) 200) := by rw [show (200 : Int32) = Int32.ofNat 200 from rfl, imin_nat (by omega) (by omega)]
  have m2 : imin 200 (Int32.ofNat (s + g)) = Int32.ofNat (min (s + g) 200) := by rw [imin_comm]; exact m1
  simp (disch := omega) only [e1, e2, es, m1, m2, oN_add, bcall_some, blet_eq, bput_eq, at_2 (RS.B r), at_3 (RS.B r), at_5 (RS.B r), at_6 (RS.B r), at_7 (RS.B r), at_8 (RS.B r), at_9 (RS.B r), at_10 (RS.B r), at_12 (RS.B r), at_13 (RS.B r), at_14 (RS.B r), at_16 (RS.B r), at_17 (RS.B r), put_2 (RS.B r), put_3 (RS.B r), put_5 (RS.B r), put_6 (RS.B r), put_7 (RS.B r), put_8 (RS.B r), put_9 (RS.B r), put_10 (RS.B r), put_12 (RS.B r), put_13 (RS.B r), put_14 (RS.B r), put_16 (RS.B r), put_17 (RS.B r), x_ofl, x_of, x_setsl, x_sets, x_ld, x_ldl, x_stt, x_stl, x_where, oN_al, oN_la, oN_lm, u2_ne, u2_same, u2_self, (RS.cb r), (RS.cs r), (RS.cc r), (RS.ci r), (Iv.cb i), (Iv.cs i), (Iv.cc i), (Iv.ci i), (RS.a2 r), (RS.a3 r), (RS.a5 r), (RS.a6 r), (RS.a7 r), (RS.a8 r), (RS.a9 r), (RS.a10 r), (RS.a12 r), (RS.a13 r), (RS.a14 r), (RS.a16 r), (RS.a17 r), (RS.f4 r), (RS.f5 r), (RS.f6 r), (RS.f7 r), (RS.f8 r), (RS.f9 r), (RS.f10 r), (RS.f11 r), (RS.f12 r), (RS.f13 r), oN_leT, oN_leF, oN_ltT, oN_ltF, oN_leTl, oN_leFl, oN_ltTl, oN_ltFl, oN_lleT, oN_lleF, oN_lltT, oN_lltF, oN_m4, oN_nn, oN_nn2, mm_0, mm_s, oN_s1, oN_z1, m1_neg, m1_nn, m4_neg, i10, ↓reduceIte, if_true, if_false]
  exact OpK.ok (of_eq_true (oN_nn2 (by omega))) ⟨nb, ns, nc, ni, rs_f6 r i _, iv_st i ⟨_, by omega, rfl⟩⟩ (fun k hk => by simp (disch := omega) only [u2_ne]) (fun k hk => by simp (disch := omega) only [u2_ne])
theorem Q_crew {σ τ : St} (h : Co σ τ) (p : Int32) : Pair σ τ (M_X10_crew σ 0 p) (M_X11_crew τ 248 p) (fun v w => v = w) := by
  unfold M_X10_crew M_X11_crew
  simp only [Nat.zero_add]
  refine chg h (fun s => M_X8_addCrew s 1 p) _ (fun σ τ h => ?_)
  obtain ⟨nb, ns, nc, ni, r, i⟩ := h.now
  have hb8 := i.hb; have hs10 := i.hs; have hc5 := i.hc; have hi3 := i.hi
  unfold M_X8_addCrew
  simp only [show (1 : Nat) + 4 = 5 from rfl, show (1 : Nat) + 1 = 2 from rfl]
  rcases in_pair (σ := σ) (τ := τ) p 1 4 with ⟨e1, e2, _⟩ | ⟨e1, e2, l1, u1⟩
  · simp only [e1, e2, bcall_some, ↓reduceIte, i10]
    exact Or.inl ⟨-2, Or.inr rfl, rfl, rfl⟩
  obtain ⟨g, gl, gu, rfl⟩ := rng (m := 1) (n := 4) (by decide) (by decide) l1 u1
  by_cases c : nc = 5
  · subst c
    simp (disch := omega) only [e1, e2, show (Int32.ofNat 5 = (5 : Int32)) = True from eq_true rfl, bcall_some, blet_eq, bput_eq, at_2 (RS.B r), at_3 (RS.B r), at_5 (RS.B r), at_6 (RS.B r), at_7 (RS.B r), at_8 (RS.B r), at_9 (RS.B r), at_10 (RS.B r), at_12 (RS.B r), at_13 (RS.B r), at_14 (RS.B r), at_16 (RS.B r), at_17 (RS.B r), put_2 (RS.B r), put_3 (RS.B r), put_5 (RS.B r), put_6 (RS.B r), put_7 (RS.B r), put_8 (RS.B r), put_9 (RS.B r), put_10 (RS.B r), put_12 (RS.B r), put_13 (RS.B r), put_14 (RS.B r), put_16 (RS.B r), put_17 (RS.B r), x_ofl, x_of, x_setsl, x_sets, x_ld, x_ldl, x_stt, x_stl, x_where, oN_al, oN_la, oN_lm, u2_ne, u2_same, u2_self, (RS.cb r), (RS.cs r), (RS.cc r), (RS.ci r), (Iv.cb i), (Iv.cs i), (Iv.cc i), (Iv.ci i), (RS.a2 r), (RS.a3 r), (RS.a5 r), (RS.a6 r), (RS.a7 r), (RS.a8 r), (RS.a9 r), (RS.a10 r), (RS.a12 r), (RS.a13 r), (RS.a14 r), (RS.a16 r), (RS.a17 r), (RS.f4 r), (RS.f5 r), (RS.f6 r), (RS.f7 r), (RS.f8 r), (RS.f9 r), (RS.f10 r), (RS.f11 r), (RS.f12 r), (RS.f13 r), oN_leT, oN_leF, oN_ltT, oN_ltF, oN_leTl, oN_leFl, oN_ltTl, oN_ltFl, oN_lleT, oN_lleF, oN_lltT, oN_lltF, oN_m4, oN_nn, oN_nn2, mm_0, mm_s, oN_s1, oN_z1, m1_neg, m1_nn, m4_neg, i10, ↓reduceIte, if_true, if_false]
    exact OpK.ref _ _ _ _
  · simp (disch := omega) only [e1, e2, M_X1_add, oN_eqFl, bcall_some, blet_eq, bput_eq, at_2 (RS.B r), at_3 (RS.B r), at_5 (RS.B r), at_6 (RS.B r), at_7 (RS.B r), at_8 (RS.B r), at_9 (RS.B r), at_10 (RS.B r), at_12 (RS.B r), at_13 (RS.B r), at_14 (RS.B r), at_16 (RS.B r), at_17 (RS.B r), put_2 (RS.B r), put_3 (RS.B r), put_5 (RS.B r), put_6 (RS.B r), put_7 (RS.B r), put_8 (RS.B r), put_9 (RS.B r), put_10 (RS.B r), put_12 (RS.B r), put_13 (RS.B r), put_14 (RS.B r), put_16 (RS.B r), put_17 (RS.B r), x_ofl, x_of, x_setsl, x_sets, x_ld, x_ldl, x_stt, x_stl, x_where, oN_al, oN_la, oN_lm, u2_ne, u2_same, u2_self, (RS.cb r), (RS.cs r), (RS.cc r), (RS.ci r), (Iv.cb i), (Iv.cs i), (Iv.cc i), (Iv.ci i), (RS.a2 r), (RS.a3 r), (RS.a5 r), (RS.a6 r), (RS.a7 r), (RS.a8 r), (RS.a9 r), (RS.a10 r), (RS.a12 r), (RS.a13 r), (RS.a14 r), (RS.a16 r), (RS.a17 r), (RS.f4 r), (RS.f5 r), (RS.f6 r), (RS.f7 r), (RS.f8 r), (RS.f9 r), (RS.f10 r), (RS.f11 r), (RS.f12 r), (RS.f13 r), oN_leT, oN_leF, oN_ltT, oN_ltF, oN_leTl, oN_leFl, oN_ltTl, oN_ltFl, oN_lleT, oN_lleF, oN_lltT, oN_lltF, oN_m4, oN_nn, oN_nn2, mm_0, mm_s, oN_s1, oN_z1, m1_neg, m1_nn, m4_neg, i10, ↓reduceIte, if_true, if_false]
    refine OpK.ok (of_eq_true (oN_nn2 (by omega))) ⟨nb, ns, nc + 1, ni, ?_, ?_⟩ (fun k hk => by simp (disch := omega) only [u2_ne]) (fun k hk => by simp (disch := omega) only [u2_ne])
    · apply RS.mk
      exact B5
      all_goals first | (simp (disch := omega) only [u2_ne, u2_same, u2_self, mm_z, (RS.f4 r), (RS.f5 r), (RS.f6 r), (RS.f7 r), (RS.f8 r), (RS.f9 r), (RS.f10 r), (RS.f11 r), (RS.f12 r), (RS.f13 r), (RS.cb r), (RS.cs r), (RS.cc r), (RS.ci r), (RS.a2 r), (RS.a3 r), (RS.a5 r), (RS.a6 r), (RS.a7 r), (RS.a8 r), (RS.a9 r), (RS.a10 r), (RS.a12 r), (RS.a13 r), (RS.a14 r), (RS.a16 r), (RS.a17 r)]; done) | (intro z9 h9; simp (disch := omega) only [u2_ne, u2_same, u2_self, mm_z, (RS.f4 r), (RS.f5 r), (RS.f6 r), (RS.f7 r), (RS.f8 r), (RS.f9 r), (RS.f10 r), (RS.f11 r), (RS.f12 r), (RS.f13 r), (RS.cb r), (RS.cs r), (RS.cc r), (RS.ci r), (RS.a2 r), (RS.a3 r), (RS.a5 r), (RS.a6 r), (RS.a7 r), (RS.a8 r), (RS.a9 r), (RS.a10 r), (RS.a12 r), (RS.a13 r), (RS.a14 r), (RS.a16 r), (RS.a17 r)]; done) | (intro z9 h9; by_cases e : z9 = nc <;> first | (rw [e]; simp (disch := omega) only [u2_ne, u2_same, u2_self, mm_z, (RS.f4 r), (RS.f5 r), (RS.f6 r), (RS.f7 r), (RS.f8 r), (RS.f9 r), (RS.f10 r), (RS.f11 r), (RS.f12 r), (RS.f13 r), (RS.cb r), (RS.cs r), (RS.cc r), (RS.ci r), (RS.a2 r), (RS.a3 r), (RS.a5 r), (RS.a6 r), (RS.a7 r), (RS.a8 r), (RS.a9 r), (RS.a10 r), (RS.a12 r), (RS.a13 r), (RS.a14 r), (RS.a16 r), (RS.a17 r)]; done) | (simp (disch := omega) only [u2_ne, u2_same, u2_self, mm_z, (RS.f4 r), (RS.f5 r), (RS.f6 r), (RS.f7 r), (RS.f8 r), (RS.f9 r), (RS.f10 r), (RS.f11 r), (RS.f12 r), (RS.f13 r), (RS.cb r), (RS.cs r), (RS.cc r), (RS.ci r), (RS.a2 r), (RS.a3 r), (RS.a5 r), (RS.a6 r), (RS.a7 r), (RS.a8 r), (RS.a9 r), (RS.a10 r), (RS.a12 r), (RS.a13 r), (RS.a14 r), (RS.a16 r), (RS.a17 r)]; done))
    · apply Iv.mk
      · omega
      · omega
      · omega
      · omega
      · simp (disch := omega) only [u2_same, u2_self]; exact i.cb
      · simp (disch := omega) only [u2_same, u2_self]; exact i.cs
      · simp (disch := omega) only [u2_same, u2_self]
      · simp (disch := omega) only [u2_same, u2_self]; exact i.ci
      · simp (disch := omega) only [u2_same, u2_self]; exact i.sg
      · simp (disch := omega) only [u2_same, u2_self]; exact i.st
      · simp (disch := omega) only [u2_same, u2_self]; exact i.tu
      · intro j hj; simp (disch := omega) only [u2_same, u2_self]; exact i.ba j hj
      · intro j hj; simp (disch := omega) only [u2_same, u2_self]; exact i.sp j hj
      · intro j hj; simp (disch := omega) only [u2_same, u2_self]; exact i.sw j hj
      · intro j hj; simp (disch := omega) only [u2_same, u2_self]; exact i.tt j hj
      · intro j hj; simp (disch := omega) only [u2_same, u2_self]; exact i.sh j hj
      · intro j hj; simp (disch := omega) only [u2_same, u2_self]; exact i.sl j hj
      · intro j hj; simp (disch := omega) only [u2_same, u2_self]; exact i.su j hj
      · intro j hj
        by_cases e : j = nc
        · rw [e]; simp (disch := omega) only [u2_same, u2_self]; exact ⟨g, gl, gu, rfl⟩
        · simp (disch := omega) only [u2_same, u2_self]; exact i.ck j (by omega)
      · intro j hj
        by_cases e : j = nc
        · rw [e]; simp (disch := omega) only [u2_same, u2_self]; exact ⟨0, by omega, rfl⟩
        · simp (disch := omega) only [u2_same, u2_self]; exact i.cp j (by omega)
      · intro j hj; simp (disch := omega) only [u2_same, u2_self]; exact i.nn j hj
      · intro g j hj; simp (disch := omega) only [u2_same] at g
        by_cases e : j = nc
        · rw [e]; simp (disch := omega) only [u2_same, u2_self]
        · simp (disch := omega) only [u2_same, u2_self]; exact i.gr g j (by omega)
      · intro j c2 hj hc2 g; simp (disch := omega) only [u2_same] at g
        by_cases e : c2 = nc
        · rw [e]; simp (disch := omega) only [u2_same, u2_self]; exact z_ne (by omega)
        · simp (disch := omega) only [u2_same, u2_self]; exact i.nc0 j c2 hj (by omega) g
theorem Q_inspector {σ τ : St} (h : Co σ τ) (p : Int32) : Pair σ τ (M_X10_inspector σ 0 p) (M_X11_inspector τ 248 p) (fun v w => v = w) := by
  unfold M_X10_inspector M_X11_inspector
  simp only [Nat.zero_add]
  refine chg h (fun s => M_X8_addInspector s 1 p) _ (fun σ τ h => ?_)
  obtain ⟨nb, ns, nc, ni, r, i⟩ := h.now
  have hb8 := i.hb; have hs10 := i.hs; have hc5 := i.hc; have hi3 := i.hi
  unfold M_X8_addInspector
  simp only [show (1 : Nat) + 4 = 5 from rfl, show (1 : Nat) + 1 = 2 from rfl]
  rcases in_pair (σ := σ) (τ := τ) p 1 9 with ⟨e1, e2, _⟩ | ⟨e1, e2, l1, u1⟩
  · simp only [e1, e2, bcall_some, ↓reduceIte, i10]
    exact Or.inl ⟨-2, Or.inr rfl, rfl, rfl⟩
  obtain ⟨g, gl, gu, rfl⟩ := rng (m := 1) (n := 9) (by decide) (by decide) l1 u1
  by_cases c : ni = 3
  · subst c
    simp (disch := omega) only [e1, e2, show (Int32.ofNat 3 = (3 : Int32)) = True from eq_true rfl, bcall_some, blet_eq, bput_eq, at_2 (RS.B r), at_3 (RS.B r), at_5 (RS.B r), at_6 (RS.B r), at_7 (RS.B r), at_8 (RS.B r), at_9 (RS.B r), at_10 (RS.B r), at_12 (RS.B r), at_13 (RS.B r), at_14 (RS.B r), at_16 (RS.B r), at_17 (RS.B r), put_2 (RS.B r), put_3 (RS.B r), put_5 (RS.B r), put_6 (RS.B r), put_7 (RS.B r), put_8 (RS.B r), put_9 (RS.B r), put_10 (RS.B r), put_12 (RS.B r), put_13 (RS.B r), put_14 (RS.B r), put_16 (RS.B r), put_17 (RS.B r), x_ofl, x_of, x_setsl, x_sets, x_ld, x_ldl, x_stt, x_stl, x_where, oN_al, oN_la, oN_lm, u2_ne, u2_same, u2_self, (RS.cb r), (RS.cs r), (RS.cc r), (RS.ci r), (Iv.cb i), (Iv.cs i), (Iv.cc i), (Iv.ci i), (RS.a2 r), (RS.a3 r), (RS.a5 r), (RS.a6 r), (RS.a7 r), (RS.a8 r), (RS.a9 r), (RS.a10 r), (RS.a12 r), (RS.a13 r), (RS.a14 r), (RS.a16 r), (RS.a17 r), (RS.f4 r), (RS.f5 r), (RS.f6 r), (RS.f7 r), (RS.f8 r), (RS.f9 r), (RS.f10 r), (RS.f11 r), (RS.f12 r), (RS.f13 r), oN_leT, oN_leF, oN_ltT, oN_ltF, oN_leTl, oN_leFl, oN_ltTl, oN_ltFl, oN_lleT, oN_lleF, oN_lltT, oN_lltF, oN_m4, oN_nn, oN_nn2, mm_0, mm_s, oN_s1, oN_z1, m1_neg, m1_nn, m4_neg, i10, ↓reduceIte, if_true, if_false]
    exact OpK.ref _ _ _ _
  · simp (disch := omega) only [e1, e2, M_X3_add, oN_eqFl, bcall_some, blet_eq, bput_eq, at_2 (RS.B r), at_3 (RS.B r), at_5 (RS.B r), at_6 (RS.B r), at_7 (RS.B r), at_8 (RS.B r), at_9 (RS.B r), at_10 (RS.B r), at_12 (RS.B r), at_13 (RS.B r), at_14 (RS.B r), at_16 (RS.B r), at_17 (RS.B r), put_2 (RS.B r), put_3 (RS.B r), put_5 (RS.B r), put_6 (RS.B r), put_7 (RS.B r), put_8 (RS.B r), put_9 (RS.B r), put_10 (RS.B r), put_12 (RS.B r), put_13 (RS.B r), put_14 (RS.B r), put_16 (RS.B r), put_17 (RS.B r), x_ofl, x_of, x_setsl, x_sets, x_ld, x_ldl, x_stt, x_stl, x_where, oN_al, oN_la, oN_lm, u2_ne, u2_same, u2_self, (RS.cb r), (RS.cs r), (RS.cc r), (RS.ci r), (Iv.cb i), (Iv.cs i), (Iv.cc i), (Iv.ci i), (RS.a2 r), (RS.a3 r), (RS.a5 r), (RS.a6 r), (RS.a7 r), (RS.a8 r), (RS.a9 r), (RS.a10 r), (RS.a12 r), (RS.a13 r), (RS.a14 r), (RS.a16 r), (RS.a17 r), (RS.f4 r), (RS.f5 r), (RS.f6 r), (RS.f7 r), (RS.f8 r), (RS.f9 r), (RS.f10 r), (RS.f11 r), (RS.f12 r), (RS.f13 r), oN_leT, oN_leF, oN_ltT, oN_ltF, oN_leTl, oN_leFl, oN_ltTl, oN_ltFl, oN_lleT, oN_lleF, oN_lltT, oN_lltF, oN_m4, oN_nn, oN_nn2, mm_0, mm_s, oN_s1, oN_z1, m1_neg, m1_nn, m4_neg, i10, ↓reduceIte, if_true, if_false]
    refine OpK.ok (of_eq_true (oN_nn2 (by omega))) ⟨nb, ns, nc, ni + 1, ?_, ?_⟩ (fun k hk => by simp (disch := omega) only [u2_ne]) (fun k hk => by simp (disch := omega) only [u2_ne])
    · apply RS.mk
      exact B5
      all_goals first | (simp (disch := omega) only [u2_ne, u2_same, u2_self, mm_z, (RS.f4 r), (RS.f5 r), (RS.f6 r), (RS.f7 r), (RS.f8 r), (RS.f9 r), (RS.f10 r), (RS.f11 r), (RS.f12 r), (RS.f13 r), (RS.cb r), (RS.cs r), (RS.cc r), (RS.ci r), (RS.a2 r), (RS.a3 r), (RS.a5 r), (RS.a6 r), (RS.a7 r), (RS.a8 r), (RS.a9 r), (RS.a10 r), (RS.a12 r), (RS.a13 r), (RS.a14 r), (RS.a16 r), (RS.a17 r)]; done) | (intro z9 h9; simp (disch := omega) only [u2_ne, u2_same, u2_self, mm_z, (RS.f4 r), (RS.f5 r), (RS.f6 r), (RS.f7 r), (RS.f8 r), (RS.f9 r), (RS.f10 r), (RS.f11 r), (RS.f12 r), (RS.f13 r), (RS.cb r), (RS.cs r), (RS.cc r), (RS.ci r), (RS.a2 r), (RS.a3 r), (RS.a5 r), (RS.a6 r), (RS.a7 r), (RS.a8 r), (RS.a9 r), (RS.a10 r), (RS.a12 r), (RS.a13 r), (RS.a14 r), (RS.a16 r), (RS.a17 r)]; done) | (intro z9 h9; by_cases e : z9 = ni <;> first | (rw [e]; simp (disch := omega) only [u2_ne, u2_same, u2_self, mm_z, (RS.f4 r), (RS.f5 r), (RS.f6 r), (RS.f7 r), (RS.f8 r), (RS.f9 r), (RS.f10 r), (RS.f11 r), (RS.f12 r), (RS.f13 r), (RS.cb r), (RS.cs r), (RS.cc r), (RS.ci r), (RS.a2 r), (RS.a3 r), (RS.a5 r), (RS.a6 r), (RS.a7 r), (RS.a8 r), (RS.a9 r), (RS.a10 r), (RS.a12 r), (RS.a13 r), (RS.a14 r), (RS.a16 r), (RS.a17 r)]; done) | (simp (disch := omega) only [u2_ne, u2_same, u2_self, mm_z, (RS.f4 r), (RS.f5 r), (RS.f6 r), (RS.f7 r), (RS.f8 r), (RS.f9 r), (RS.f10 r), (RS.f11 r), (RS.f12 r), (RS.f13 r), (RS.cb r), (RS.cs r), (RS.cc r), (RS.ci r), (RS.a2 r), (RS.a3 r), (RS.a5 r), (RS.a6 r), (RS.a7 r), (RS.a8 r), (RS.a9 r), (RS.a10 r), (RS.a12 r), (RS.a13 r), (RS.a14 r), (RS.a16 r), (RS.a17 r)]; done))
    · apply Iv.mk
      · omega
      · omega
      · omega
      · omega
      · simp (disch := omega) only [u2_same, u2_self]; exact i.cb
      · simp (disch := omega) only [u2_same, u2_self]; exact i.cs
      · simp (disch := omega) only [u2_same, u2_self]; exact i.cc
      · simp (disch := omega) only [u2_same, u2_self]
      · simp (disch := omega) only [u2_same, u2_self]; exact i.sg
      · simp (disch := omega) only [u2_same, u2_self]; exact i.st
      · simp (disch := omega) only [u2_same, u2_self]; exact i.tu
      · intro j hj; simp (disch := omega) only [u2_same, u2_self]; exact i.ba j hj
      · intro j hj; simp (disch := omega) only [u2_same, u2_self]; exact i.sp j hj
      · intro j hj; simp (disch := omega) only [u2_same, u2_self]; exact i.sw j hj
      · intro j hj; simp (disch := omega) only [u2_same, u2_self]; exact i.tt j hj
      · intro j hj; simp (disch := omega) only [u2_same, u2_self]; exact i.sh j hj
      · intro j hj; simp (disch := omega) only [u2_same, u2_self]; exact i.sl j hj
      · intro j hj; simp (disch := omega) only [u2_same, u2_self]; exact i.su j hj
      · intro j hj; simp (disch := omega) only [u2_same, u2_self]; exact i.ck j hj
      · intro j hj; simp (disch := omega) only [u2_same, u2_self]; exact i.cp j hj
      · intro j hj
        by_cases e : j = ni
        · rw [e]; simp (disch := omega) only [u2_same, u2_self]; exact ⟨g, gu, rfl⟩
        · simp (disch := omega) only [u2_same, u2_self]; exact i.nn j (by omega)
      · intro g j hj; simp (disch := omega) only [u2_same, u2_self] at g ⊢; exact i.gr g j hj
      · intro j c hj hc g; simp (disch := omega) only [u2_same, u2_self] at g ⊢; exact i.nc0 j c hj hc g
theorem O_tie {σ τ : St} {nb ns nc ni : Nat} (r : RS σ 5 (τ 249) nb ns nc ni) (i : Iv (τ 249) nb ns nc ni) (p : Int32) : Opx σ τ (M_X8_tieAnew σ 1 p) (M_X11_ties τ 248 p) := by
  have hb8 := i.hb; have hs10 := i.hs; have hc5 := i.hc; have hi3 := i.hi
  unfold M_X8_tieAnew M_X11_ties
  simp only [show (1 : Nat) + 4 = 5 from rfl, show (1 : Nat) + 1 = 2 from rfl]
  rcases h_sto r i p with ⟨e1, e2⟩ | ⟨s, hs, rfl, e1, e2⟩
  · simp only [e1, e2, bcall_some, ↓reduceIte, i10]
    exact Or.inl ⟨-1, Or.inl rfl, rfl, rfl⟩
  by_cases cw : τ 249 1 < 3
  · obtain ⟨t, ht, et⟩ := i.tt s hs
    obtain ⟨g, hg, eg⟩ := i.sp s hs
    obtain ⟨st, hst, es⟩ := i.st
    by_cases ct : t = 0
    · subst ct
      simp (disch := omega) only [e1, e2, cw, et, M_X7_isWarned, M_X9_tieOf, show (Int32.ofNat 0 = (0 : Int32)) = True from eq_true rfl, bcall_some, blet_eq, bput_eq, at_2 (RS.B r), at_3 (RS.B r), at_5 (RS.B r), at_6 (RS.B r), at_7 (RS.B r), at_8 (RS.B r), at_9 (RS.B r), at_10 (RS.B r), at_12 (RS.B r), at_13 (RS.B r), at_14 (RS.B r), at_16 (RS.B r), at_17 (RS.B r), put_2 (RS.B r), put_3 (RS.B r), put_5 (RS.B r), put_6 (RS.B r), put_7 (RS.B r), put_8 (RS.B r), put_9 (RS.B r), put_10 (RS.B r), put_12 (RS.B r), put_13 (RS.B r), put_14 (RS.B r), put_16 (RS.B r), put_17 (RS.B r), x_ofl, x_of, x_setsl, x_sets, x_ld, x_ldl, x_stt, x_stl, x_where, oN_al, oN_la, oN_lm, u2_ne, u2_same, u2_self, (RS.cb r), (RS.cs r), (RS.cc r), (RS.ci r), (Iv.cb i), (Iv.cs i), (Iv.cc i), (Iv.ci i), (RS.a2 r), (RS.a3 r), (RS.a5 r), (RS.a6 r), (RS.a7 r), (RS.a8 r), (RS.a9 r), (RS.a10 r), (RS.a12 r), (RS.a13 r), (RS.a14 r), (RS.a16 r), (RS.a17 r), (RS.f4 r), (RS.f5 r), (RS.f6 r), (RS.f7 r), (RS.f8 r), (RS.f9 r), (RS.f10 r), (RS.f11 r), (RS.f12 r), (RS.f13 r), oN_leT, oN_leF, oN_ltT, oN_ltF, oN_leTl, oN_leFl, oN_ltTl, oN_ltFl, oN_lleT, oN_lleF, oN_lltT, oN_lltF, oN_m4, oN_nn, oN_nn2, mm_0, mm_s, oN_s1, oN_z1, m1_neg, m1_nn, m4_neg, i10, ↓reduceIte, if_true, if_false]
      exact Opx.ref _ _ _ _
    · have m1 : Int32.ofNat g * 2 = Int32.ofNat (2 * g) := by rw [show (2 : Int32) = Int32.ofNat 2 from rfl, oN_mul, Nat.mul_comm]
      by_cases cs : 2 * g ≤ st
      · simp (disch := omega) only [e1, e2, cw, et, eg, es, m1, M_X7_isWarned, M_X9_tieOf, M_X9_stripsFor, M_X9_polesOf, M_X9_bind, M_X11_does, oN_eqFl, oN_sub, bcall_some, blet_eq, bput_eq, at_2 (RS.B r), at_3 (RS.B r), at_5 (RS.B r), at_6 (RS.B r), at_7 (RS.B r), at_8 (RS.B r), at_9 (RS.B r), at_10 (RS.B r), at_12 (RS.B r), at_13 (RS.B r), at_14 (RS.B r), at_16 (RS.B r), at_17 (RS.B r), put_2 (RS.B r), put_3 (RS.B r), put_5 (RS.B r), put_6 (RS.B r), put_7 (RS.B r), put_8 (RS.B r), put_9 (RS.B r), put_10 (RS.B r), put_12 (RS.B r), put_13 (RS.B r), put_14 (RS.B r), put_16 (RS.B r), put_17 (RS.B r), x_ofl, x_of, x_setsl, x_sets, x_ld, x_ldl, x_stt, x_stl, x_where, oN_al, oN_la, oN_lm, u2_ne, u2_same, u2_self, (RS.cb r), (RS.cs r), (RS.cc r), (RS.ci r), (Iv.cb i), (Iv.cs i), (Iv.cc i), (Iv.ci i), (RS.a2 r), (RS.a3 r), (RS.a5 r), (RS.a6 r), (RS.a7 r), (RS.a8 r), (RS.a9 r), (RS.a10 r), (RS.a12 r), (RS.a13 r), (RS.a14 r), (RS.a16 r), (RS.a17 r), (RS.f4 r), (RS.f5 r), (RS.f6 r), (RS.f7 r), (RS.f8 r), (RS.f9 r), (RS.f10 r), (RS.f11 r), (RS.f12 r), (RS.f13 r), oN_leT, oN_leF, oN_ltT, oN_ltF, oN_leTl, oN_leFl, oN_ltTl, oN_ltFl, oN_lleT, oN_lleF, oN_lltT, oN_lltF, oN_m4, oN_nn, oN_nn2, mm_0, mm_s, oN_s1, oN_z1, m1_neg, m1_nn, m4_neg, i10, ↓reduceIte, if_true, if_false]
        have r1 := rs_f6 r i (Int32.ofNat (st - 2 * g))
        have i1 := iv_st i (v := Int32.ofNat (st - 2 * g)) ⟨_, by omega, rfl⟩
        have r2 := rs_a7 r1 i1 hs 0
        have i2 := iv_tt i1 hs (v := 0) ⟨0, by omega, rfl⟩
        have r3 := rs_a10 r2 i2 hs 0
        have i3 := iv_su i2 hs (v := 0) ⟨0, by omega, rfl⟩ (fun q => absurd rfl q)
        rw [mm_z] at r3
        exact Opx.ok (of_eq_true (oN_nn2 (by omega))) ⟨nb, ns, nc, ni, r3, i3⟩ (fun k hk => by simp (disch := omega) only [u2_ne]) (fun k hk => by simp (disch := omega) only [u2_ne])
      · simp (disch := omega) only [e1, e2, cw, et, eg, es, m1, M_X7_isWarned, M_X9_tieOf, M_X9_stripsFor, M_X9_polesOf, oN_eqFl, oN_sub, bcall_some, blet_eq, bput_eq, at_2 (RS.B r), at_3 (RS.B r), at_5 (RS.B r), at_6 (RS.B r), at_7 (RS.B r), at_8 (RS.B r), at_9 (RS.B r), at_10 (RS.B r), at_12 (RS.B r), at_13 (RS.B r), at_14 (RS.B r), at_16 (RS.B r), at_17 (RS.B r), put_2 (RS.B r), put_3 (RS.B r), put_5 (RS.B r), put_6 (RS.B r), put_7 (RS.B r), put_8 (RS.B r), put_9 (RS.B r), put_10 (RS.B r), put_12 (RS.B r), put_13 (RS.B r), put_14 (RS.B r), put_16 (RS.B r), put_17 (RS.B r), x_ofl, x_of, x_setsl, x_sets, x_ld, x_ldl, x_stt, x_stl, x_where, oN_al, oN_la, oN_lm, u2_ne, u2_same, u2_self, (RS.cb r), (RS.cs r), (RS.cc r), (RS.ci r), (Iv.cb i), (Iv.cs i), (Iv.cc i), (Iv.ci i), (RS.a2 r), (RS.a3 r), (RS.a5 r), (RS.a6 r), (RS.a7 r), (RS.a8 r), (RS.a9 r), (RS.a10 r), (RS.a12 r), (RS.a13 r), (RS.a14 r), (RS.a16 r), (RS.a17 r), (RS.f4 r), (RS.f5 r), (RS.f6 r), (RS.f7 r), (RS.f8 r), (RS.f9 r), (RS.f10 r), (RS.f11 r), (RS.f12 r), (RS.f13 r), oN_leT, oN_leF, oN_ltT, oN_ltF, oN_leTl, oN_leFl, oN_ltTl, oN_ltFl, oN_lleT, oN_lleF, oN_lltT, oN_lltF, oN_m4, oN_nn, oN_nn2, mm_0, mm_s, oN_s1, oN_z1, m1_neg, m1_nn, m4_neg, i10, ↓reduceIte, if_true, if_false]
        exact Opx.ref _ _ _ _
  · simp (disch := omega) only [e1, e2, cw, M_X7_isWarned, bcall_some, blet_eq, bput_eq, at_2 (RS.B r), at_3 (RS.B r), at_5 (RS.B r), at_6 (RS.B r), at_7 (RS.B r), at_8 (RS.B r), at_9 (RS.B r), at_10 (RS.B r), at_12 (RS.B r), at_13 (RS.B r), at_14 (RS.B r), at_16 (RS.B r), at_17 (RS.B r), put_2 (RS.B r), put_3 (RS.B r), put_5 (RS.B r), put_6 (RS.B r), put_7 (RS.B r), put_8 (RS.B r), put_9 (RS.B r), put_10 (RS.B r), put_12 (RS.B r), put_13 (RS.B r), put_14 (RS.B r), put_16 (RS.B r), put_17 (RS.B r), x_ofl, x_of, x_setsl, x_sets, x_ld, x_ldl, x_stt, x_stl, x_where, oN_al, oN_la, oN_lm, u2_ne, u2_same, u2_self, (RS.cb r), (RS.cs r), (RS.cc r), (RS.ci r), (Iv.cb i), (Iv.cs i), (Iv.cc i), (Iv.ci i), (RS.a2 r), (RS.a3 r), (RS.a5 r), (RS.a6 r), (RS.a7 r), (RS.a8 r), (RS.a9 r), (RS.a10 r), (RS.a12 r), (RS.a13 r), (RS.a14 r), (RS.a16 r), (RS.a17 r), (RS.f4 r), (RS.f5 r), (RS.f6 r), (RS.f7 r), (RS.f8 r), (RS.f9 r), (RS.f10 r), (RS.f11 r), (RS.f12 r), (RS.f13 r), oN_leT, oN_leF, oN_ltT, oN_ltF, oN_leTl, oN_leFl, oN_ltTl, oN_ltFl, oN_lleT, oN_lleF, oN_lltT, oN_lltF, oN_m4, oN_nn, oN_nn2, mm_0, mm_s, oN_s1, oN_z1, m1_neg, m1_nn, m4_neg, i10, ↓reduceIte, if_true, if_false]
    exact Opx.ref _ _ _ _
theorem Q_tie {σ τ : St} (h : Co σ τ) (p : Int32) : Pair σ τ (M_X10_tie σ 0 p) (M_X11_tie τ 248 p) (fun v w => v = w) := by
  unfold M_X10_tie M_X11_tie
  simp only [Nat.zero_add]
  exact chg h (fun s => M_X8_tieAnew s 1 p) _ (fun σ τ h => by
    obtain ⟨nb, ns, nc, ni, r, i⟩ := h.now
    exact (O_tie r i p).toK)
theorem O_up {σ τ : St} {nb ns nc ni : Nat} (r : RS σ 5 (τ 249) nb ns nc ni) (i : Iv (τ 249) nb ns nc ni) (p q : Int32) : Opx σ τ (M_X8_sendUp σ 1 p q) (M_X11_goesUp τ 248 p q) := by
  have hb8 := i.hb; have hs10 := i.hs; have hc5 := i.hc; have hi3 := i.hi
  unfold M_X8_sendUp M_X11_goesUp
  simp only [show (1 : Nat) + 4 = 5 from rfl, show (1 : Nat) + 1 = 2 from rfl]
  rcases h_crw r i p with ⟨e1, e2⟩ | ⟨c, hc, rfl, e1, e2⟩
  · simp only [e1, e2, bcall_some, ↓reduceIte, i10]
    exact Or.inl ⟨-1, Or.inl rfl, rfl, rfl⟩
  rcases h_sto r i q with ⟨e3, e4⟩ | ⟨s, hs, rfl, e3, e4⟩
  · simp only [e1, e2, e3, e4, bcall_some, ↓reduceIte, i10]
    exact Or.inl ⟨-1, Or.inl rfl, rfl, rfl⟩
  obtain ⟨g, hg, eg⟩ := i.cp c hc
  by_cases cg : g = s + 1
  · subst cg
    simp (disch := omega) only [e1, e2, e3, e4, eg, M_X1_placeOf, eq_self, bcall_some, blet_eq, bput_eq, at_2 (RS.B r), at_3 (RS.B r), at_5 (RS.B r), at_6 (RS.B r), at_7 (RS.B r), at_8 (RS.B r), at_9 (RS.B r), at_10 (RS.B r), at_12 (RS.B r), at_13 (RS.B r), at_14 (RS.B r), at_16 (RS.B r), at_17 (RS.B r), put_2 (RS.B r), put_3 (RS.B r), put_5 (RS.B r), put_6 (RS.B r), put_7 (RS.B r), put_8 (RS.B r), put_9 (RS.B r), put_10 (RS.B r), put_12 (RS.B r), put_13 (RS.B r), put_14 (RS.B r), put_16 (RS.B r), put_17 (RS.B r), x_ofl, x_of, x_setsl, x_sets, x_ld, x_ldl, x_stt, x_stl, x_where, oN_al, oN_la, oN_lm, u2_ne, u2_same, u2_self, (RS.cb r), (RS.cs r), (RS.cc r), (RS.ci r), (Iv.cb i), (Iv.cs i), (Iv.cc i), (Iv.ci i), (RS.a2 r), (RS.a3 r), (RS.a5 r), (RS.a6 r), (RS.a7 r), (RS.a8 r), (RS.a9 r), (RS.a10 r), (RS.a12 r), (RS.a13 r), (RS.a14 r), (RS.a16 r), (RS.a17 r), (RS.f4 r), (RS.f5 r), (RS.f6 r), (RS.f7 r), (RS.f8 r), (RS.f9 r), (RS.f10 r), (RS.f11 r), (RS.f12 r), (RS.f13 r), oN_leT, oN_leF, oN_ltT, oN_ltF, oN_leTl, oN_leFl, oN_ltTl, oN_ltFl, oN_lleT, oN_lleF, oN_lltT, oN_lltF, oN_m4, oN_nn, oN_nn2, mm_0, mm_s, oN_s1, oN_z1, m1_neg, m1_nn, m4_neg, i10, ↓reduceIte, if_true, if_false]
    exact Opx.ref _ _ _ _
  have k1 : (mm (Int32.ofNat g) = Int32.ofNat s) = False := by
    rcases g with _ | g
    · rw [mm_0]; exact m4_ne (by omega)
    · rw [mm_s (by omega)]; exact oN_eqF (by omega) (by omega) (by omega)
  have k2 : (Int32.ofNat g - 1 = Int32.ofNat s) = False := by
    rcases g with _ | g
    · rw [oN_z1]; exact m1_ne (by omega)
    · rw [oN_s1]; exact oN_eqF (by omega) (by omega) (by omega)
  by_cases cw : τ 249 1 < 3
  · obtain ⟨v, w, e5, e6, e7⟩ := q_old r i hs
    rcases e7 with ⟨rfl, rfl, ho⟩ | ⟨j, hj, rfl, rfl, ho⟩
    · obtain ⟨u, hu, eu⟩ := i.su s hs
      rcases u with _ | u
      · have r1 := rs_a13 r i hc (Int32.ofNat (s + 1))
        rw [mm_s (by omega)] at r1
        have i1 := iv_cp i hc (v := Int32.ofNat (s + 1)) ⟨s + 1, by omega, rfl⟩ (fun q => absurd cw (Int32.not_lt.mpr q)) (fun s2 h2 n2 q => by
          rw [oN_eq (by omega) (by omega)] at q
          have q2 : s2 = s := by omega
          rw [q2, eu] at n2
          exact n2 rfl)
        have R : RS (u2 σ (5 + 13) c (Int32.ofNat s)) 5 ((u2 τ 249 (90 + 3 * c + 1) (Int32.ofNat (s + 1))) 249) nb ns nc ni := r1
        have I : Iv ((u2 τ 249 (90 + 3 * c + 1) (Int32.ofNat (s + 1))) 249) nb ns nc ni := i1
        obtain ⟨m, hm, b1, b2⟩ := q_bits R I hs
        have hp := pcN_le m
        simp (disch := omega) only [e1, e2, e3, e4, eg, k1, k2, cw, e5, e6, eu, M_X1_placeOf, M_X7_isWarned, M_X9_isShut, M_X9_shutterOf, M_X1_moveTo, M_X1_howManyOn, b1, b2, bc_eq, bc_nat m hm, M_X11_does, i44, bcall_some, blet_eq, bput_eq, at_2 (RS.B r), at_3 (RS.B r), at_5 (RS.B r), at_6 (RS.B r), at_7 (RS.B r), at_8 (RS.B r), at_9 (RS.B r), at_10 (RS.B r), at_12 (RS.B r), at_13 (RS.B r), at_14 (RS.B r), at_16 (RS.B r), at_17 (RS.B r), put_2 (RS.B r), put_3 (RS.B r), put_5 (RS.B r), put_6 (RS.B r), put_7 (RS.B r), put_8 (RS.B r), put_9 (RS.B r), put_10 (RS.B r), put_12 (RS.B r), put_13 (RS.B r), put_14 (RS.B r), put_16 (RS.B r), put_17 (RS.B r), x_ofl, x_of, x_setsl, x_sets, x_ld, x_ldl, x_stt, x_stl, x_where, oN_al, oN_la, oN_lm, u2_ne, u2_same, u2_self, (RS.cb r), (RS.cs r), (RS.cc r), (RS.ci r), (Iv.cb i), (Iv.cs i), (Iv.cc i), (Iv.ci i), (RS.a2 r), (RS.a3 r), (RS.a5 r), (RS.a6 r), (RS.a7 r), (RS.a8 r), (RS.a9 r), (RS.a10 r), (RS.a12 r), (RS.a13 r), (RS.a14 r), (RS.a16 r), (RS.a17 r), (RS.f4 r), (RS.f5 r), (RS.f6 r), (RS.f7 r), (RS.f8 r), (RS.f9 r), (RS.f10 r), (RS.f11 r), (RS.f12 r), (RS.f13 r), oN_leT, oN_leF, oN_ltT, oN_ltF, oN_leTl, oN_leFl, oN_ltTl, oN_ltFl, oN_lleT, oN_lleF, oN_lltT, oN_lltF, oN_m4, oN_nn, oN_nn2, mm_0, mm_s, oN_s1, oN_z1, m1_neg, m1_nn, m4_neg, i10, ↓reduceIte, if_true, if_false]
        exact Opx.ok (of_eq_true (oN_nn2 (by omega))) ⟨nb, ns, nc, ni, R, I⟩ (fun k hk => by simp (disch := omega) only [u2_ne]) (fun k hk => by simp (disch := omega) only [u2_ne])
      · simp (disch := omega) only [e1, e2, e3, e4, eg, k1, k2, cw, e5, e6, eu, M_X1_placeOf, M_X7_isWarned, M_X9_isShut, M_X9_shutterOf, i44, bcall_some, blet_eq, bput_eq, at_2 (RS.B r), at_3 (RS.B r), at_5 (RS.B r), at_6 (RS.B r), at_7 (RS.B r), at_8 (RS.B r), at_9 (RS.B r), at_10 (RS.B r), at_12 (RS.B r), at_13 (RS.B r), at_14 (RS.B r), at_16 (RS.B r), at_17 (RS.B r), put_2 (RS.B r), put_3 (RS.B r), put_5 (RS.B r), put_6 (RS.B r), put_7 (RS.B r), put_8 (RS.B r), put_9 (RS.B r), put_10 (RS.B r), put_12 (RS.B r), put_13 (RS.B r), put_14 (RS.B r), put_16 (RS.B r), put_17 (RS.B r), x_ofl, x_of, x_setsl, x_sets, x_ld, x_ldl, x_stt, x_stl, x_where, oN_al, oN_la, oN_lm, u2_ne, u2_same, u2_self, (RS.cb r), (RS.cs r), (RS.cc r), (RS.ci r), (Iv.cb i), (Iv.cs i), (Iv.cc i), (Iv.ci i), (RS.a2 r), (RS.a3 r), (RS.a5 r), (RS.a6 r), (RS.a7 r), (RS.a8 r), (RS.a9 r), (RS.a10 r), (RS.a12 r), (RS.a13 r), (RS.a14 r), (RS.a16 r), (RS.a17 r), (RS.f4 r), (RS.f5 r), (RS.f6 r), (RS.f7 r), (RS.f8 r), (RS.f9 r), (RS.f10 r), (RS.f11 r), (RS.f12 r), (RS.f13 r), oN_leT, oN_leF, oN_ltT, oN_ltF, oN_leTl, oN_leFl, oN_ltTl, oN_ltFl, oN_lleT, oN_lleF, oN_lltT, oN_lltF, oN_m4, oN_nn, oN_nn2, mm_0, mm_s, oN_s1, oN_z1, m1_neg, m1_nn, m4_neg, i10, ↓reduceIte, if_true, if_false]
        exact Opx.shut _ _ _ _
    · simp (disch := omega) only [e1, e2, e3, e4, eg, k1, k2, cw, e5, e6, M_X1_placeOf, M_X7_isWarned, bcall_some, blet_eq, bput_eq, at_2 (RS.B r), at_3 (RS.B r), at_5 (RS.B r), at_6 (RS.B r), at_7 (RS.B r), at_8 (RS.B r), at_9 (RS.B r), at_10 (RS.B r), at_12 (RS.B r), at_13 (RS.B r), at_14 (RS.B r), at_16 (RS.B r), at_17 (RS.B r), put_2 (RS.B r), put_3 (RS.B r), put_5 (RS.B r), put_6 (RS.B r), put_7 (RS.B r), put_8 (RS.B r), put_9 (RS.B r), put_10 (RS.B r), put_12 (RS.B r), put_13 (RS.B r), put_14 (RS.B r), put_16 (RS.B r), put_17 (RS.B r), x_ofl, x_of, x_setsl, x_sets, x_ld, x_ldl, x_stt, x_stl, x_where, oN_al, oN_la, oN_lm, u2_ne, u2_same, u2_self, (RS.cb r), (RS.cs r), (RS.cc r), (RS.ci r), (Iv.cb i), (Iv.cs i), (Iv.cc i), (Iv.ci i), (RS.a2 r), (RS.a3 r), (RS.a5 r), (RS.a6 r), (RS.a7 r), (RS.a8 r), (RS.a9 r), (RS.a10 r), (RS.a12 r), (RS.a13 r), (RS.a14 r), (RS.a16 r), (RS.a17 r), (RS.f4 r), (RS.f5 r), (RS.f6 r), (RS.f7 r), (RS.f8 r), (RS.f9 r), (RS.f10 r), (RS.f11 r), (RS.f12 r), (RS.f13 r), oN_leT, oN_leF, oN_ltT, oN_ltF, oN_leTl, oN_leFl, oN_ltTl, oN_ltFl, oN_lleT, oN_lleF, oN_lltT, oN_lltF, oN_m4, oN_nn, oN_nn2, mm_0, mm_s, oN_s1, oN_z1, m1_neg, m1_nn, m4_neg, i10, ↓reduceIte, if_true, if_false]
      exact Opx.ref _ _ _ _
  · simp (disch := omega) only [e1, e2, e3, e4, eg, k1, k2, cw, M_X1_placeOf, M_X7_isWarned, bcall_some, blet_eq, bput_eq, at_2 (RS.B r), at_3 (RS.B r), at_5 (RS.B r), at_6 (RS.B r), at_7 (RS.B r), at_8 (RS.B r), at_9 (RS.B r), at_10 (RS.B r), at_12 (RS.B r), at_13 (RS.B r), at_14 (RS.B r), at_16 (RS.B r), at_17 (RS.B r), put_2 (RS.B r), put_3 (RS.B r), put_5 (RS.B r), put_6 (RS.B r), put_7 (RS.B r), put_8 (RS.B r), put_9 (RS.B r), put_10 (RS.B r), put_12 (RS.B r), put_13 (RS.B r), put_14 (RS.B r), put_16 (RS.B r), put_17 (RS.B r), x_ofl, x_of, x_setsl, x_sets, x_ld, x_ldl, x_stt, x_stl, x_where, oN_al, oN_la, oN_lm, u2_ne, u2_same, u2_self, (RS.cb r), (RS.cs r), (RS.cc r), (RS.ci r), (Iv.cb i), (Iv.cs i), (Iv.cc i), (Iv.ci i), (RS.a2 r), (RS.a3 r), (RS.a5 r), (RS.a6 r), (RS.a7 r), (RS.a8 r), (RS.a9 r), (RS.a10 r), (RS.a12 r), (RS.a13 r), (RS.a14 r), (RS.a16 r), (RS.a17 r), (RS.f4 r), (RS.f5 r), (RS.f6 r), (RS.f7 r), (RS.f8 r), (RS.f9 r), (RS.f10 r), (RS.f11 r), (RS.f12 r), (RS.f13 r), oN_leT, oN_leF, oN_ltT, oN_ltF, oN_leTl, oN_leFl, oN_ltTl, oN_ltFl, oN_lleT, oN_lleF, oN_lltT, oN_lltF, oN_m4, oN_nn, oN_nn2, mm_0, mm_s, oN_s1, oN_z1, m1_neg, m1_nn, m4_neg, i10, ↓reduceIte, if_true, if_false]
    exact Opx.ref _ _ _ _
theorem Q_up {σ τ : St} (h : Co σ τ) (p q : Int32) : Pair σ τ (M_X10_up σ 0 p q) (M_X11_up τ 248 p q) (fun v w => v = w) := by
  unfold M_X10_up M_X11_up
  simp only [Nat.zero_add]
  exact chg h (fun s => M_X8_sendUp s 1 p q) _ (fun σ τ h => by
    obtain ⟨nb, ns, nc, ni, r, i⟩ := h.now
    exact (O_up r i p q).toK)
theorem O_down {σ τ : St} {nb ns nc ni : Nat} (r : RS σ 5 (τ 249) nb ns nc ni) (i : Iv (τ 249) nb ns nc ni) (p : Int32) : Opx σ τ (M_X8_callDown σ 1 p) (M_X11_comesDown τ 248 p) := by
  have hb8 := i.hb; have hs10 := i.hs; have hc5 := i.hc; have hi3 := i.hi
  unfold M_X8_callDown M_X11_comesDown
  simp only [show (1 : Nat) + 4 = 5 from rfl, show (1 : Nat) + 1 = 2 from rfl]
  rcases h_crw r i p with ⟨e1, e2⟩ | ⟨c, hc, rfl, e1, e2⟩
  · simp only [e1, e2, bcall_some, ↓reduceIte, i10]
    exact Or.inl ⟨-1, Or.inl rfl, rfl, rfl⟩
  obtain ⟨g, hg, eg⟩ := i.cp c hc
  rcases g with _ | g
  · simp (disch := omega) only [e1, e2, eg, M_X1_isUp, i44, bcall_some, blet_eq, bput_eq, at_2 (RS.B r), at_3 (RS.B r), at_5 (RS.B r), at_6 (RS.B r), at_7 (RS.B r), at_8 (RS.B r), at_9 (RS.B r), at_10 (RS.B r), at_12 (RS.B r), at_13 (RS.B r), at_14 (RS.B r), at_16 (RS.B r), at_17 (RS.B r), put_2 (RS.B r), put_3 (RS.B r), put_5 (RS.B r), put_6 (RS.B r), put_7 (RS.B r), put_8 (RS.B r), put_9 (RS.B r), put_10 (RS.B r), put_12 (RS.B r), put_13 (RS.B r), put_14 (RS.B r), put_16 (RS.B r), put_17 (RS.B r), x_ofl, x_of, x_setsl, x_sets, x_ld, x_ldl, x_stt, x_stl, x_where, oN_al, oN_la, oN_lm, u2_ne, u2_same, u2_self, (RS.cb r), (RS.cs r), (RS.cc r), (RS.ci r), (Iv.cb i), (Iv.cs i), (Iv.cc i), (Iv.ci i), (RS.a2 r), (RS.a3 r), (RS.a5 r), (RS.a6 r), (RS.a7 r), (RS.a8 r), (RS.a9 r), (RS.a10 r), (RS.a12 r), (RS.a13 r), (RS.a14 r), (RS.a16 r), (RS.a17 r), (RS.f4 r), (RS.f5 r), (RS.f6 r), (RS.f7 r), (RS.f8 r), (RS.f9 r), (RS.f10 r), (RS.f11 r), (RS.f12 r), (RS.f13 r), oN_leT, oN_leF, oN_ltT, oN_ltF, oN_leTl, oN_leFl, oN_ltTl, oN_ltFl, oN_lleT, oN_lleF, oN_lltT, oN_lltF, oN_m4, oN_nn, oN_nn2, mm_0, mm_s, oN_s1, oN_z1, m1_neg, m1_nn, m4_neg, i10, ↓reduceIte, if_true, if_false]
    exact Opx.ref _ _ _ _
  · simp (disch := omega) only [e1, e2, eg, M_X1_isUp, M_X1_placeOf, M_X1_moveTo, M_X11_does, bcall_some, blet_eq, bput_eq, at_2 (RS.B r), at_3 (RS.B r), at_5 (RS.B r), at_6 (RS.B r), at_7 (RS.B r), at_8 (RS.B r), at_9 (RS.B r), at_10 (RS.B r), at_12 (RS.B r), at_13 (RS.B r), at_14 (RS.B r), at_16 (RS.B r), at_17 (RS.B r), put_2 (RS.B r), put_3 (RS.B r), put_5 (RS.B r), put_6 (RS.B r), put_7 (RS.B r), put_8 (RS.B r), put_9 (RS.B r), put_10 (RS.B r), put_12 (RS.B r), put_13 (RS.B r), put_14 (RS.B r), put_16 (RS.B r), put_17 (RS.B r), x_ofl, x_of, x_setsl, x_sets, x_ld, x_ldl, x_stt, x_stl, x_where, oN_al, oN_la, oN_lm, u2_ne, u2_same, u2_self, (RS.cb r), (RS.cs r), (RS.cc r), (RS.ci r), (Iv.cb i), (Iv.cs i), (Iv.cc i), (Iv.ci i), (RS.a2 r), (RS.a3 r), (RS.a5 r), (RS.a6 r), (RS.a7 r), (RS.a8 r), (RS.a9 r), (RS.a10 r), (RS.a12 r), (RS.a13 r), (RS.a14 r), (RS.a16 r), (RS.a17 r), (RS.f4 r), (RS.f5 r), (RS.f6 r), (RS.f7 r), (RS.f8 r), (RS.f9 r), (RS.f10 r), (RS.f11 r), (RS.f12 r), (RS.f13 r), oN_leT, oN_leF, oN_ltT, oN_ltF, oN_leTl, oN_leFl, oN_ltTl, oN_ltFl, oN_lleT, oN_lleF, oN_lltT, oN_lltF, oN_m4, oN_nn, oN_nn2, mm_0, mm_s, oN_s1, oN_z1, m1_neg, m1_nn, m4_neg, i10, ↓reduceIte, if_true, if_false]
    have r1 := rs_a13 r i hc 0
    rw [mm_z] at r1
    have i1 := iv_cp i hc (v := 0) ⟨0, by omega, rfl⟩ (fun _ => rfl) (fun s2 h2 _ => z_ne (by omega))
    exact Opx.ok (of_eq_true (oN_nn2 (by omega))) ⟨nb, ns, nc, ni, r1, i1⟩ (fun k hk => by simp (disch := omega) only [u2_ne]) (fun k hk => by simp (disch := omega) only [u2_ne])
theorem Q_down {σ τ : St} (h : Co σ τ) (p : Int32) : Pair σ τ (M_X10_down σ 0 p) (M_X11_down τ 248 p) (fun v w => v = w) := by
  unfold M_X10_down M_X11_down
  simp only [Nat.zero_add]
  exact chg h (fun s => M_X8_callDown s 1 p) _ (fun σ τ h => by
    obtain ⟨nb, ns, nc, ni, r, i⟩ := h.now
    exact (O_down r i p).toK)
theorem O_lift {σ τ : St} {nb ns nc ni : Nat} (r : RS σ 5 (τ 249) nb ns nc ni) (i : Iv (τ 249) nb ns nc ni) (p q : Int32) : Opx σ τ (M_X8_bringLoads σ 1 p q) (M_X11_lifts τ 248 p q) := by
  have hb8 := i.hb; have hs10 := i.hs; have hc5 := i.hc; have hi3 := i.hi
  unfold M_X8_bringLoads M_X11_lifts
  simp only [show (1 : Nat) + 4 = 5 from rfl, show (1 : Nat) + 1 = 2 from rfl]
  rcases h_sto r i p with ⟨e1, e2⟩ | ⟨s, hs, rfl, e1, e2⟩
  · simp only [e1, e2, bcall_some, ↓reduceIte, i10]
    exact Or.inl ⟨-1, Or.inl rfl, rfl, rfl⟩
  rcases in_pair (σ := σ) (τ := τ) q 1 9 with ⟨e3, e4, _⟩ | ⟨e3, e4, l3, u3⟩
  · simp only [e1, e2, e3, e4, bcall_some, ↓reduceIte, i10]
    exact Or.inl ⟨-2, Or.inr rfl, rfl, rfl⟩
  obtain ⟨l, ll, lu, rfl⟩ := rng (m := 1) (n := 9) (by decide) (by decide) l3 u3
  by_cases cw : τ 249 1 < 3
  · obtain ⟨d, hd, ed⟩ := i.sl s hs
    obtain ⟨t, ht, et⟩ := i.tu
    have hm : l * (s + 1) ≤ 9 * 10 := Nat.mul_le_mul lu (by omega)
    have em : Int32.ofNat l * Int32.ofNat (s + 1) = Int32.ofNat (l * (s + 1)) := oN_mul _ _
    generalize l * (s + 1) = m at hm em
    by_cases c9 : d + l ≤ 9
    · by_cases ct : m ≤ t
      · simp (disch := omega) only [e1, e2, e3, e4, cw, ed, et, em, oN_add, oN_sub, M_X7_isWarned, M_X9_loadsOf, M_X9_addLoads, M_X11_does, bcall_some, blet_eq, bput_eq, at_2 (RS.B r), at_3 (RS.B r), at_5 (RS.B r), at_6 (RS.B r), at_7 (RS.B r), at_8 (RS.B r), at_9 (RS.B r), at_10 (RS.B r), at_12 (RS.B r), at_13 (RS.B r), at_14 (RS.B r), at_16 (RS.B r), at_17 (RS.B r), put_2 (RS.B r), put_3 (RS.B r), put_5 (RS.B r), put_6 (RS.B r), put_7 (RS.B r), put_8 (RS.B r), put_9 (RS.B r), put_10 (RS.B r), put_12 (RS.B r), put_13 (RS.B r), put_14 (RS.B r), put_16 (RS.B r), put_17 (RS.B r), x_ofl, x_of, x_setsl, x_sets, x_ld, x_ldl, x_stt, x_stl, x_where, oN_al, oN_la, oN_lm, u2_ne, u2_same, u2_self, (RS.cb r), (RS.cs r), (RS.cc r), (RS.ci r), (Iv.cb i), (Iv.cs i), (Iv.cc i), (Iv.ci i), (RS.a2 r), (RS.a3 r), (RS.a5 r), (RS.a6 r), (RS.a7 r), (RS.a8 r), (RS.a9 r), (RS.a10 r), (RS.a12 r), (RS.a13 r), (RS.a14 r), (RS.a16 r), (RS.a17 r), (RS.f4 r), (RS.f5 r), (RS.f6 r), (RS.f7 r), (RS.f8 r), (RS.f9 r), (RS.f10 r), (RS.f11 r), (RS.f12 r), (RS.f13 r), oN_leT, oN_leF, oN_ltT, oN_ltF, oN_leTl, oN_leFl, oN_ltTl, oN_ltFl, oN_lleT, oN_lleF, oN_lltT, oN_lltF, oN_m4, oN_nn, oN_nn2, mm_0, mm_s, oN_s1, oN_z1, m1_neg, m1_nn, m4_neg, i10, ↓reduceIte, if_true, if_false]
        have r1 := rs_f7 r i (Int32.ofNat (t - m))
        have i1 := iv_tu i (v := Int32.ofNat (t - m)) ⟨_, by omega, rfl⟩
        have r2 := rs_a9 r1 i1 hs (Int32.ofNat (d + l))
        have i2 := iv_sl i1 hs (v := Int32.ofNat (d + l)) ⟨_, by omega, rfl⟩
        exact Opx.ok (of_eq_true (oN_nn2 (by omega))) ⟨nb, ns, nc, ni, r2, i2⟩ (fun k hk => by simp (disch := omega) only [u2_ne]) (fun k hk => by simp (disch := omega) only [u2_ne])
      · simp (disch := omega) only [e1, e2, e3, e4, cw, ed, et, em, oN_add, M_X7_isWarned, M_X9_loadsOf, bcall_some, blet_eq, bput_eq, at_2 (RS.B r), at_3 (RS.B r), at_5 (RS.B r), at_6 (RS.B r), at_7 (RS.B r), at_8 (RS.B r), at_9 (RS.B r), at_10 (RS.B r), at_12 (RS.B r), at_13 (RS.B r), at_14 (RS.B r), at_16 (RS.B r), at_17 (RS.B r), put_2 (RS.B r), put_3 (RS.B r), put_5 (RS.B r), put_6 (RS.B r), put_7 (RS.B r), put_8 (RS.B r), put_9 (RS.B r), put_10 (RS.B r), put_12 (RS.B r), put_13 (RS.B r), put_14 (RS.B r), put_16 (RS.B r), put_17 (RS.B r), x_ofl, x_of, x_setsl, x_sets, x_ld, x_ldl, x_stt, x_stl, x_where, oN_al, oN_la, oN_lm, u2_ne, u2_same, u2_self, (RS.cb r), (RS.cs r), (RS.cc r), (RS.ci r), (Iv.cb i), (Iv.cs i), (Iv.cc i), (Iv.ci i), (RS.a2 r), (RS.a3 r), (RS.a5 r), (RS.a6 r), (RS.a7 r), (RS.a8 r), (RS.a9 r), (RS.a10 r), (RS.a12 r), (RS.a13 r), (RS.a14 r), (RS.a16 r), (RS.a17 r), (RS.f4 r), (RS.f5 r), (RS.f6 r), (RS.f7 r), (RS.f8 r), (RS.f9 r), (RS.f10 r), (RS.f11 r), (RS.f12 r), (RS.f13 r), oN_leT, oN_leF, oN_ltT, oN_ltF, oN_leTl, oN_leFl, oN_ltTl, oN_ltFl, oN_lleT, oN_lleF, oN_lltT, oN_lltF, oN_m4, oN_nn, oN_nn2, mm_0, mm_s, oN_s1, oN_z1, m1_neg, m1_nn, m4_neg, i10, ↓reduceIte, if_true, if_false]
        exact Opx.ref _ _ _ _
    · simp (disch := omega) only [e1, e2, e3, e4, cw, ed, et, oN_add, M_X7_isWarned, M_X9_loadsOf, bcall_some, blet_eq, bput_eq, at_2 (RS.B r), at_3 (RS.B r), at_5 (RS.B r), at_6 (RS.B r), at_7 (RS.B r), at_8 (RS.B r), at_9 (RS.B r), at_10 (RS.B r), at_12 (RS.B r), at_13 (RS.B r), at_14 (RS.B r), at_16 (RS.B r), at_17 (RS.B r), put_2 (RS.B r), put_3 (RS.B r), put_5 (RS.B r), put_6 (RS.B r), put_7 (RS.B r), put_8 (RS.B r), put_9 (RS.B r), put_10 (RS.B r), put_12 (RS.B r), put_13 (RS.B r), put_14 (RS.B r), put_16 (RS.B r), put_17 (RS.B r), x_ofl, x_of, x_setsl, x_sets, x_ld, x_ldl, x_stt, x_stl, x_where, oN_al, oN_la, oN_lm, u2_ne, u2_same, u2_self, (RS.cb r), (RS.cs r), (RS.cc r), (RS.ci r), (Iv.cb i), (Iv.cs i), (Iv.cc i), (Iv.ci i), (RS.a2 r), (RS.a3 r), (RS.a5 r), (RS.a6 r), (RS.a7 r), (RS.a8 r), (RS.a9 r), (RS.a10 r), (RS.a12 r), (RS.a13 r), (RS.a14 r), (RS.a16 r), (RS.a17 r), (RS.f4 r), (RS.f5 r), (RS.f6 r), (RS.f7 r), (RS.f8 r), (RS.f9 r), (RS.f10 r), (RS.f11 r), (RS.f12 r), (RS.f13 r), oN_leT, oN_leF, oN_ltT, oN_ltF, oN_leTl, oN_leFl, oN_ltTl, oN_ltFl, oN_lleT, oN_lleF, oN_lltT, oN_lltF, oN_m4, oN_nn, oN_nn2, mm_0, mm_s, oN_s1, oN_z1, m1_neg, m1_nn, m4_neg, i10, ↓reduceIte, if_true, if_false]
      exact Opx.ref _ _ _ _
  · simp (disch := omega) only [e1, e2, e3, e4, cw, M_X7_isWarned, bcall_some, blet_eq, bput_eq, at_2 (RS.B r), at_3 (RS.B r), at_5 (RS.B r), at_6 (RS.B r), at_7 (RS.B r), at_8 (RS.B r), at_9 (RS.B r), at_10 (RS.B r), at_12 (RS.B r), at_13 (RS.B r), at_14 (RS.B r), at_16 (RS.B r), at_17 (RS.B r), put_2 (RS.B r), put_3 (RS.B r), put_5 (RS.B r), put_6 (RS.B r), put_7 (RS.B r), put_8 (RS.B r), put_9 (RS.B r), put_10 (RS.B r), put_12 (RS.B r), put_13 (RS.B r), put_14 (RS.B r), put_16 (RS.B r), put_17 (RS.B r), x_ofl, x_of, x_setsl, x_sets, x_ld, x_ldl, x_stt, x_stl, x_where, oN_al, oN_la, oN_lm, u2_ne, u2_same, u2_self, (RS.cb r), (RS.cs r), (RS.cc r), (RS.ci r), (Iv.cb i), (Iv.cs i), (Iv.cc i), (Iv.ci i), (RS.a2 r), (RS.a3 r), (RS.a5 r), (RS.a6 r), (RS.a7 r), (RS.a8 r), (RS.a9 r), (RS.a10 r), (RS.a12 r), (RS.a13 r), (RS.a14 r), (RS.a16 r), (RS.a17 r), (RS.f4 r), (RS.f5 r), (RS.f6 r), (RS.f7 r), (RS.f8 r), (RS.f9 r), (RS.f10 r), (RS.f11 r), (RS.f12 r), (RS.f13 r), oN_leT, oN_leF, oN_ltT, oN_ltF, oN_leTl, oN_leFl, oN_ltTl, oN_ltFl, oN_lleT, oN_lleF, oN_lltT, oN_lltF, oN_m4, oN_nn, oN_nn2, mm_0, mm_s, oN_s1, oN_z1, m1_neg, m1_nn, m4_neg, i10, ↓reduceIte, if_true, if_false]
    exact Opx.ref _ _ _ _
theorem Q_lift {σ τ : St} (h : Co σ τ) (p q : Int32) : Pair σ τ (M_X10_lift σ 0 p q) (M_X11_lift τ 248 p q) (fun v w => v = w) := by
  unfold M_X10_lift M_X11_lift
  simp only [Nat.zero_add]
  exact chg h (fun s => M_X8_bringLoads s 1 p q) _ (fun σ τ h => by
    obtain ⟨nb, ns, nc, ni, r, i⟩ := h.now
    exact (O_lift r i p q).toK)
