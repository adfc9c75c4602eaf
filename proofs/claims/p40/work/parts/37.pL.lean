theorem oN_le_self (L : Nat) : (Int32.ofNat L).toInt ≤ (L : Int) := by
  rw [Int32.toInt_ofNat', Int.bmod_def, show Int32.size = 4294967296 from rfl]
  split <;> omega
theorem at_ok (L : Nat) (xs : Nat → Int32) {i : Nat} (hi : i < 1000) : ∃ v, ∀ σ : St, M_L_at σ (L, xs) (Int32.ofNat i) = some (σ, v) := by
  unfold M_L_at
  by_cases c : Int32.ofNat L ≤ Int32.ofNat i
  · exact ⟨0, fun σ => if_pos c⟩
  · refine ⟨xs i, fun σ => ?_⟩
    have e := oN_toInt (n := i) (by omega)
    have h1 := oN_le_self L
    rw [Int32.le_iff_toInt_le, e] at c
    show (if Int32.ofNat L ≤ Int32.ofNat i then _ else _) = _
    rw [if_neg (by rw [Int32.le_iff_toInt_le, e]; exact c)]
    unfold bxld
    rw [if_pos ⟨by rw [e]; omega, by rw [e]; show (i : Int) < (L : Int); omega⟩, oN_clamp (by omega)]
def Av (r : Nat → Int32) (v : Int64) : Prop := ∀ σ, Cz r σ → ∃ σ1, M_L_asks σ 0 = some (σ1, v) ∧ Kp σ σ1
theorem Cs.av {σ : St} {r : Nat → Int32} {u nx n : Nat} {L : Nat → Nat → Int32} {sv : Option (Nat → Int32)} {ft : Int32} (h : Cs σ r u nx L sv n ft) : ∃ v, Av r v := by
  obtain ⟨nb, ns, nc, ni, -, i⟩ := h.sc
  exact asks_ans i
theorem tail_ok {σ : St} {r q : Nat → Int32} {u nx n : Nat} {L : Nat → Nat → Int32} {ft : Int32} {v : Int64} (h : Cs σ r u nx L (some q) n ft) (hv : Av q v) : ∃ z, B_LT_1248 (fun σ => some (σ, (1 : Int32))) σ 0 v (q 0) = some z := by
  obtain ⟨s1, e1, h1⟩ := h.restore
  have e2 := h1.undo0
  obtain ⟨s3, e3, k3⟩ := hv s1 h1.cz
  have h3 := k3.cs h1
  obtain ⟨s4, e4, h4⟩ := h3.restore
  obtain ⟨s5, e5, k5⟩ := hv s4 h4.cz
  refine ⟨(s5, 1), ?_⟩
  unfold B_LT_1248
  rw [bcall_of e1, if_pos rfl, bcall_of e2, if_pos rfl, bcall_of e3, cmp_0, if_pos rfl, bcall_of e4, if_pos rfl, bcall_of e5, cmp_0, if_pos rfl]
def TT (σ : St) (x3 : Int64) (x5 : Int32) : Option (St × Int32) := B_LT_1248 (fun σ => some (σ, (1 : Int32))) σ 0 x3 x5
theorem q2s (KT : St → Int64 → Int32 → Option (St × Int32)) (n : Nat) (σ : St) (a0 : Nat) (g : Nat → Int64) (x3 : Int64) (x5 x7 x8 x9 : Int32) : Q2 KT (n + 1) σ a0 g x3 x5 x7 x8 x9 = if x8 < x9 then KT σ x3 x5 else bcall (M_X10_undo σ a0) fun σ1 r => if r < x8 - x9 then none else if 8 - x9 < r then none else bcall (M_L_asks σ1 a0) fun σ2 v => bxl g (x7 - x9) fun u => if lg_cmp v u = 0 then Q2 KT n σ2 a0 g x3 x5 x7 x8 (x9 + 1) else none := rfl
theorem q1s (KT : St → Int64 → Int32 → Option (St × Int32)) (w : Nat × (Nat → Int32)) (n : Nat) (σ : St) (a0 : Nat) (g : Nat → Int64) (x3 : Int64) (x5 x7 x8 : Int32) : Q1 KT w (n + 1) σ a0 g x3 x5 x7 x8 = if 12 ≤ x8 then Q2 KT FU σ a0 g x3 x5 x7 (if x7 < 8 then x7 else 8) 1 else bcall (M_L_asks σ a0) fun σ1 v => bcall (M_L_at σ1 w (20 + x8)) fun σ2 r => bcall (M_L_changes σ2 a0 (r ^^^ (x8 * 977))) fun σ3 b => if b = 0 then (bcall (M_L_asks σ3 a0) fun σ4 v2 => if lg_cmp v2 v = 0 then Q1 KT w n σ4 a0 g x3 x5 x7 (x8 + 1) else none) else (bxs g x7 v fun g1 => Q1 KT w n σ3 a0 g1 x3 x5 (x7 + 1) (x8 + 1)) := rfl
theorem onl {a j : Nat} (ha : a < 1000) (hj : j < 1000) : Int32.ofNat a < Int32.ofNat j ↔ a < j := by
  rw [Int32.lt_iff_toInt_lt, oN_toInt (by omega), oN_toInt (by omega)]
  omega
theorem q2_ok {q : Nat → Int32} {v : Int64} (hv : Av q v) (g : Nat → Int64) {done k : Nat} (hk8 : k ≤ 8) (hkd : k ≤ done) (hd12 : done ≤ 12) : ∀ (d j n : Nat) (σ : St) (r : Nat → Int32) (u nx : Nat) (L : Nat → Nat → Int32) (ft : Int32), j + d = k → d < n → k ≤ u + j → u + j ≤ 8 → Cs σ r u nx L (some q) 0 ft → (∀ t, t < d → Av (L t) (g (done - 1 - j - t))) → ∃ z, Q2 TT n σ 0 g v (q 0) (Int32.ofNat done) (Int32.ofNat k) (Int32.ofNat (j + 1)) = some z := by
  intro d
  induction d with
  | zero =>
    intro j n σ r u nx L ft hj hn h1 h2 hC hL
    obtain ⟨n, rfl⟩ : ∃ k, n = k + 1 := ⟨n - 1, by omega⟩
    rw [q2s, if_pos ((onl (by omega) (by omega)).mpr (by omega))]
    exact tail_ok hC hv
  | succ d ih =>
    intro j n σ r u nx L ft hj hn h1 h2 hC hL
    obtain ⟨n, rfl⟩ : ∃ k, n = k + 1 := ⟨n - 1, by omega⟩
    obtain ⟨u, rfl⟩ : ∃ k, u = k + 1 := ⟨u - 1, by omega⟩
    obtain ⟨s1, e1, c1⟩ := hC.undo
    obtain ⟨s2, e2, k2⟩ := hL 0 (by omega) s1 c1.cz
    have c2 := k2.cs c1
    have b8 : (8 : Int32) - Int32.ofNat (j + 1) = Int32.ofNat (8 - (j + 1)) := oN_sub (a := 8) (by omega)
    have ed : done - (j + 1) = done - 1 - j := by omega
    rw [q2s, if_neg (fun x => by have := (onl (by omega) (by omega)).mp x; omega), bcall_of e1, oN_sub (by omega), if_neg (fun x => by have := (onl (by omega) (by omega)).mp x; omega), b8, if_neg (fun x => by have := (onl (by omega) (by omega)).mp x; omega), bcall_of e2, oN_sub (by omega)]
    unfold bxl
    rw [if_pos ⟨by rw [oN_toInt (by omega)]; omega, by rw [oN_toInt (by omega)]; omega⟩, oN_clamp (by omega), ed, Nat.sub_zero]
    show ∃ z, (if lg_cmp (g (done - 1 - j)) (g (done - 1 - j)) = 0 then Q2 TT n s2 0 g v (q 0) (Int32.ofNat done) (Int32.ofNat k) (Int32.ofNat (j + 1) + 1) else none) = some z
    rw [cmp_0, if_pos rfl, oN_al]
    exact ih (j + 1) n s2 (L 0) u _ _ ft (by omega) (by omega) (by omega) (by omega) c2 (fun t ht => by
      have := hL (t + 1) (by omega)
      rw [show done - 1 - j - (t + 1) = done - 1 - (j + 1) - t from by omega] at this
      exact this)
theorem q1_ok {q : Nat → Int32} {v : Int64} (hv : Av q v) (A : Nat) (xs : Nat → Int32) : ∀ (d i n : Nat) (σ : St) (r : Nat → Int32) (u nx : Nat) (L : Nat → Nat → Int32) (ft : Int32) (g : Nat → Int64) (done : Nat), i + d = 12 → d < n → done ≤ i → Cs σ r u nx L (some q) 0 ft → min 8 done ≤ u → (∀ t, t < min 8 done → Av (L t) (g (done - 1 - t))) → ∃ z, Q1 TT (A, xs) n σ 0 g v (q 0) (Int32.ofNat done) (Int32.ofNat i) = some z := by
  intro d
  induction d with
  | zero =>
    intro i n σ r u nx L ft g done hi hn hd hC hu hL
    obtain ⟨n, rfl⟩ : ∃ k, n = k + 1 := ⟨n - 1, by omega⟩
    obtain rfl : i = 12 := by omega
    have e8 : (if Int32.ofNat done < 8 then Int32.ofNat done else 8) = Int32.ofNat (min 8 done) := by
      by_cases c : done < 8
      · rw [if_pos (show Int32.ofNat done < (8 : Int32) from (onl (j := 8) (by omega) (by omega)).mpr c), show min 8 done = done by omega]
      · rw [if_neg (show ¬ Int32.ofNat done < (8 : Int32) from fun x => c ((onl (j := 8) (by omega) (by omega)).mp x)), show min 8 done = 8 by omega]
        rfl
    rw [q1s, if_pos (show (12 : Int32) ≤ Int32.ofNat 12 from by decide), e8]
    have hu8 := hC.hh.1
    exact q2_ok hv g (done := done) (k := min 8 done) (by omega) (by omega) (by omega) (min 8 done) 0 FU σ r u nx L ft (by omega) (FU_lt (by omega)) (by omega) (by omega) hC (fun t ht => hL t ht)
  | succ d ih =>
    intro i n σ r u nx L ft g done hi hn hd hC hu hL
    obtain ⟨n, rfl⟩ : ∃ k, n = k + 1 := ⟨n - 1, by omega⟩
    obtain ⟨va, ha⟩ := hC.av
    obtain ⟨s1, e1, k1⟩ := ha σ hC.cz
    have c1 := k1.cs hC
    obtain ⟨y, hy⟩ := at_ok A xs (i := 20 + i) (by omega)
    have e20 : (20 : Int32) + Int32.ofNat i = Int32.ofNat (20 + i) := oN_add 20 i
    obtain ⟨s2, ft1, hh⟩ := chg_ok c1 (y ^^^ (Int32.ofNat i * 977))
    rw [q1s, if_neg (show ¬ (12 : Int32) ≤ Int32.ofNat i from fun x => by have := (ol (a := 12) (by omega) (by omega)).mp x; omega), bcall_of e1, e20, bcall_of (hy s1)]
    rcases hh with ⟨e2, c2⟩ | ⟨e2, r1, c2⟩
    · obtain ⟨s3, e3, k3⟩ := ha s2 c2.cz
      rw [bcall_of e2, if_pos rfl, bcall_of e3, cmp_0, if_pos rfl, oN_al]
      exact ih (i + 1) n s3 r u nx L ft1 g done (by omega) (by omega) (by omega) (k3.cs c2) hu hL
    · rw [bcall_of e2, if_neg (by decide)]
      unfold bxs
      rw [if_pos ⟨by rw [oN_toInt (by omega)]; omega, by rw [oN_toInt (by omega)]; omega⟩, oN_clamp (by omega), oN_al, oN_al]
      refine ih (i + 1) n s2 r1 _ _ _ ft1 _ (done + 1) (by omega) (by omega) (by omega) c2 (by omega) (fun t ht => ?_)
      unfold psh vp_updL
      by_cases c : t = 0
      · rw [if_pos c, if_pos (by omega)]; exact ha
      · rw [if_neg c, if_neg (by omega), show done + 1 - 1 - t = done - 1 - (t - 1) by omega]
        exact hL (t - 1) (by omega)
