/-! the written line -/
def chr (z j : Nat) : Int32 := (byS z).getD j 0
theorem ch_ok : ∀ z, z < 7 → ∀ j, j < lnS z → (((chr z j &&& (255 : Int32)).toUInt32 % 65536).toInt32 = chr z j ∧ okC (chr z j) = true ∧ lnS z ≤ 5) := by decide +kernel
theorem char_at (σ : St) {z j : Nat} (hz : z < 7) (hj : j < lnS z) : M_J0_charAt_5068e σ z (Int32.ofNat j) = some (σ, chr z j) := by
  obtain ⟨h1, h2, h3⟩ := ch_ok z hz j hj
  have ni1 : ¬ ((1 : Int32) = 0) := by decide
  have a0 : M_J0_isLatin1_aae02 σ z = some (σ, 1) := by
    unfold M_J0_isLatin1_aae02
    rw [if_neg ni1, if_pos rfl]
  have a1 : M_J0_checkIndex_df160 σ (Int32.ofNat j) (Int32.ofNat (lnS z)) = some (σ, 0) := by
    unfold M_J0_checkIndex_df160 M_J3_checkIndex_8e157
    rw [if_neg (fun q => (oN_nn (a := j) (by omega)).mp q), if_pos (of_eq_true (oN_ltT (by omega) hj)), bcall_some]
  have a2 : M_J1_charAt_3b067 σ z (Int32.ofNat j) = some (σ, chr z j) := by
    unfold M_J1_charAt_3b067 bbld
    rw [bcall_of a1, oN_toInt (by omega), oN_clamp (by omega), if_pos (by omega)]
    show blet (((chr z j &&& (255 : Int32)).toUInt32 % 65536).toInt32) (fun v4 => bchk (okC v4) (some (σ, v4))) = _
    rw [blet_eq, h1]
    unfold bchk
    rw [if_pos h2]
  unfold M_J0_charAt_5068e
  rw [bcall_of a0, if_neg ni1, bcall_of a2]
  unfold bchk
  rw [if_pos h2]
def pt (σ : St) (n : Nat) (x : Int32) : St := u2 (u2 σ 244 n x) 243 1 (Int32.ofNat (n + 1))
def wr (τ : St) (n : Nat) (x : Int32) : St := u2 (u2 τ 248 8 (Int32.ofNat (n + 1))) 254 n x
theorem p_ex {σ : St} {n c : Nat} (e : σ 243 1 = Int32.ofNat n) (hn : n < 180) (hc : c ≤ 126) : M_X4_put σ 243 (Int32.ofNat c) = some (pt σ n (Int32.ofNat c), 0) := by
  have l244 : ln (243 + 1) = 200 := by decide +kernel
  unfold M_X4_put
  rw [e, if_neg (fun q => (oN_nn (a := n) (by omega)).mp q), if_neg (oN_nle (by rw [l244]; decide) (by omega) (by rw [l244]; omega)), bcast_nat (by rw [l244]; omega), bput_eq, u2_ne (by decide), e, oN_al, nar_nat c (by omega)]
  rfl
theorem w_ex {τ : St} {n : Nat} (e : τ 248 8 = Int32.ofNat n) (hn : n < 180) (x : Int32) : (blet (τ 248 8) fun v1 => bput τ 248 8 (v1 + (1 : Int32)) fun σ2 => bast σ2 (248 + 6) v1 x fun σ3 => some (σ3, (0 : Int32))) = some (wr τ n x, 0) := by
  have l254 : ln (248 + 6) = 180 := by decide +kernel
  rw [e, blet_eq, bput_eq, oN_al, bast_nat (by rw [l254]; omega)]
  rfl
theorem wr_ex {τ : St} {n : Nat} (e : τ 248 8 = Int32.ofNat n) (hn : n < 180) (x : Int32) : M_X11_writes τ 248 x = some (wr τ n x, 0) := w_ex e hn x
/-- a line under way on both sides -/
def Dl (σ0 τ0 : St) (n : Nat) (σ τ : St) : Prop := (σ 243 1 = Int32.ofNat n) ∧ (τ 248 8 = Int32.ofNat n) ∧ (∀ j, j < n → ∃ c, c ≤ 126 ∧ σ 244 j = Int32.ofNat c ∧ τ 254 j = Int32.ofNat c) ∧ (∀ k, k ≠ 243 → k ≠ 244 → σ k = σ0 k) ∧ (∀ k, k ≠ 248 → k ≠ 254 → τ k = τ0 k) ∧ (∀ q, q ≠ 8 → τ 248 q = τ0 248 q)
theorem Dl.l1 {σ0 τ0 : St} {n : Nat} {σ τ : St} (h : Dl σ0 τ0 n σ τ) : σ 243 1 = Int32.ofNat n := h.1
theorem Dl.l2 {σ0 τ0 : St} {n : Nat} {σ τ : St} (h : Dl σ0 τ0 n σ τ) : τ 248 8 = Int32.ofNat n := h.2.1
theorem Dl.ch {σ0 τ0 : St} {n : Nat} {σ τ : St} (h : Dl σ0 τ0 n σ τ) : ∀ j, j < n → ∃ c, c ≤ 126 ∧ σ 244 j = Int32.ofNat c ∧ τ 254 j = Int32.ofNat c := h.2.2.1
theorem Dl.fs {σ0 τ0 : St} {n : Nat} {σ τ : St} (h : Dl σ0 τ0 n σ τ) : ∀ k, k ≠ 243 → k ≠ 244 → σ k = σ0 k := h.2.2.2.1
theorem Dl.ft {σ0 τ0 : St} {n : Nat} {σ τ : St} (h : Dl σ0 τ0 n σ τ) : ∀ k, k ≠ 248 → k ≠ 254 → τ k = τ0 k := h.2.2.2.2.1
theorem Dl.fq {σ0 τ0 : St} {n : Nat} {σ τ : St} (h : Dl σ0 τ0 n σ τ) : ∀ q, q ≠ 8 → τ 248 q = τ0 248 q := h.2.2.2.2.2
theorem Dl.mk {σ0 τ0 : St} {n : Nat} {σ τ : St} (l1 : σ 243 1 = Int32.ofNat n) (l2 : τ 248 8 = Int32.ofNat n) (ch : ∀ j, j < n → ∃ c, c ≤ 126 ∧ σ 244 j = Int32.ofNat c ∧ τ 254 j = Int32.ofNat c) (fs : ∀ k, k ≠ 243 → k ≠ 244 → σ k = σ0 k) (ft : ∀ k, k ≠ 248 → k ≠ 254 → τ k = τ0 k) (fq : ∀ q, q ≠ 8 → τ 248 q = τ0 248 q) : Dl σ0 τ0 n σ τ := ⟨l1, l2, ch, fs, ft, fq⟩
theorem Dl.next {σ0 τ0 σ τ : St} {n c : Nat} (D : Dl σ0 τ0 n σ τ) (hc : c ≤ 126) : Dl σ0 τ0 (n + 1) (pt σ n (Int32.ofNat c)) (wr τ n (Int32.ofNat c)) := by
  unfold pt wr
  refine ⟨by rw [u2_self], by rw [u2_ne (by decide), u2_self], fun j hj => ?_, fun k h1 h2 => by rw [u2_ne h1, u2_ne h2]; exact D.fs k h1 h2, fun k h1 h2 => by rw [u2_ne h2, u2_ne h1]; exact D.ft k h1 h2, fun q hq => by rw [u2_ne (by decide), u2_same hq]; exact D.fq q hq⟩
  by_cases e : j = n
  · rw [e]
    exact ⟨c, hc, by rw [u2_ne (by decide), u2_self], by rw [u2_self]⟩
  · obtain ⟨g, g1, g2, g3⟩ := D.ch j (by omega)
    exact ⟨g, g1, by rw [u2_ne (by decide), u2_same e]; exact g2, by rw [u2_same e, u2_ne (by decide)]; exact g3⟩
theorem Dl.put {σ0 τ0 σ τ : St} {n : Nat} (D : Dl σ0 τ0 n σ τ) (hn : n < 180) (c : Nat) (hc : c ≤ 126) : ∃ σ1 τ1, M_X4_put σ 243 (Int32.ofNat c) = some (σ1, 0) ∧ M_X11_writes τ 248 (Int32.ofNat c) = some (τ1, 0) ∧ Dl σ0 τ0 (n + 1) σ1 τ1 :=
  ⟨_, _, p_ex D.l1 hn hc, wr_ex D.l2 hn _, D.next hc⟩
theorem dig_a : ∀ m, m < 100 → ((((48 : Int32) + (Int32.ofNat m - Int32.ofNat m / (10 : Int32) * (10 : Int32))).toUInt32 % 65536).toInt32 = Int32.ofNat (48 + m % 10) ∧ (48 : Int32) + (Int32.ofNat m - Int32.ofNat m / (10 : Int32) * (10 : Int32)) = Int32.ofNat (48 + m % 10)) := by decide +kernel
theorem dig_b : ∀ m, m < 100 → ((((48 : Int32) + ((Int32.ofNat m / (10 : Int32)) - (Int32.ofNat m / (10 : Int32)) / (10 : Int32) * (10 : Int32))).toUInt32 % 65536).toInt32 = Int32.ofNat (48 + m / 10) ∧ Int32.ofNat m / (10 : Int32) = Int32.ofNat (m / 10)) := by decide +kernel
theorem wn_lo (n : Nat) {τ : St} {k m : Nat} (e : τ 248 8 = Int32.ofNat k) (hk : k < 180) (hm : m ≤ 9) : M_X11_writesNumber (n + 1) τ 248 (Int32.ofNat m) = some (wr τ k (Int32.ofNat (48 + m % 10)), 0) := by
  simp only [M_X11_writesNumber]
  rw [if_pos (of_eq_true (oN_leTl (n := 9) (by decide) hm)), w_ex e hk, (dig_a m (by omega)).2]
theorem wn_hi (n : Nat) {τ : St} {k m : Nat} (e : τ 248 8 = Int32.ofNat k) (hk : k + 1 < 180) (hm : 9 < m) (hm2 : m < 100) : M_X11_writesNumber (n + 1 + 1) τ 248 (Int32.ofNat m) = some (wr (wr τ k (Int32.ofNat (48 + m / 10))) (k + 1) (Int32.ofNat (48 + m % 10)), 0) := by
  have e2 : wr τ k (Int32.ofNat (48 + m / 10)) 248 8 = Int32.ofNat (k + 1) := by unfold wr; rw [u2_ne (by decide), u2_self]
  have a1 := wn_lo n e (by omega) (show m / 10 ≤ 9 by omega)
  rw [show 48 + m / 10 % 10 = 48 + m / 10 by omega] at a1
  rw [show M_X11_writesNumber (n + 1 + 1) τ 248 (Int32.ofNat m) = (if Int32.ofNat m ≤ (9 : Int32) then (blet (τ 248 8) fun v1 => bput τ 248 8 (v1 + (1 : Int32)) fun σ2 => bast σ2 (248 + 6) v1 ((48 : Int32) + (Int32.ofNat m - Int32.ofNat m / (10 : Int32) * (10 : Int32))) fun σ3 => some (σ3, 0)) else (bcall (M_X11_writesNumber (n + 1) τ 248 (Int32.ofNat m / (10 : Int32))) fun σ4 r5 => blet (σ4 248 8) fun v6 => bput σ4 248 8 (v6 + (1 : Int32)) fun σ7 => bast σ7 (248 + 6) v6 ((48 : Int32) + (Int32.ofNat m - Int32.ofNat m / (10 : Int32) * (10 : Int32))) fun σ8 => some (σ8, 0))) from rfl]
  rw [if_neg (fun q => (oN_leFl (n := 9) (by omega) (by show 9 < m; omega)).mp q), (dig_b m hm2).2, bcall_of a1, w_ex e2 (by omega), ← (dig_b m hm2).2, (dig_a m hm2).2]
theorem Dl.num {σ0 τ0 σ τ : St} {n m : Nat} (D : Dl σ0 τ0 n σ τ) (hn : n + 2 ≤ 180) (hm : m < 100) : ∃ σ1 τ1 n1, M_X4_putNumber σ 243 (Int32.ofNat m) = some (σ1, 0) ∧ M_X11_writesNumber 12 τ 248 (Int32.ofNat m) = some (τ1, 0) ∧ Dl σ0 τ0 n1 σ1 τ1 ∧ n1 ≤ n + 2 ∧ (m ≤ 9 → n1 = n + 1) := by
  unfold M_X4_putNumber
  by_cases c : m ≤ 9
  · have a1 := p_ex (c := 48 + m % 10) D.l1 (by omega) (by omega)
    rw [if_pos (of_eq_true (oN_leTl (n := 9) (by decide) c)), blet_eq, (dig_a m hm).1, bcall_of a1]
    exact ⟨_, _, n + 1, rfl, wn_lo 11 D.l2 (by omega) c, D.next (by omega), by omega, fun _ => rfl⟩
  · have a1 := p_ex (c := 48 + m / 10) D.l1 (by omega) (by omega)
    have D1 := D.next (c := 48 + m / 10) (by omega)
    have a2 := p_ex (c := 48 + m % 10) D1.l1 (by omega) (by omega)
    rw [if_neg (fun q => (oN_leFl (n := 9) (by omega) (by show 9 < m; omega)).mp q), blet_eq, (dig_b m hm).1, bcall_of a1, blet_eq, (dig_a m hm).1, bcall_of a2]
    exact ⟨_, _, n + 1 + 1, rfl, wn_hi 10 D.l2 (by omega) (by omega) hm, D1.next (by omega), by omega, fun q => by omega⟩
theorem Dl.rs {σ0 τ0 σ τ : St} {n nb ns nc ni : Nat} (D : Dl σ0 τ0 n σ τ) (r : RS σ0 5 (τ0 249) nb ns nc ni) (i : Iv (τ0 249) nb ns nc ni) : RS σ 5 (τ 249) nb ns nc ni ∧ Iv (τ 249) nb ns nc ni := by
  rw [D.ft 249 (by decide) (by decide)]
  exact ⟨r.cg i (fun k h1 h2 => D.fs k (by omega) (by omega)) (fun _ _ => rfl), i⟩
/-- behind a storey: a blank, if another follows -/
def Tl (K : St → Int32 → Option (St × Int32)) (τ : St) (s : Nat) : Option (St × Int32) := if Int32.ofNat s ≤ 0 then (blet (Int32.ofNat s + (-1 : Int32)) fun v => K τ v) else (bcall (M_X11_writes τ 248 (32 : Int32)) fun s1 _ => blet (Int32.ofNat s + (-1 : Int32)) fun v => K s1 v)
theorem d_stars {σ0 τ0 σ τ : St} {n nb ns nc ni s : Nat} (r : RS σ0 5 (τ0 249) nb ns nc ni) (i : Iv (τ0 249) nb ns nc ni) (hs : s < ns) (D : Dl σ0 τ0 n σ τ) (hn : n + 8 ≤ 180) (K : St → Int32 → Option (St × Int32)) : ∃ σ1 τ1 n1, B_X10_writeStorey_75 σ 0 (Int32.ofNat s) = some (σ1, 0) ∧ (bcall (M_X11_crewsOn τ 248 (Int32.ofNat s)) fun s1 r1 => bcall (M_J6_bitCount_0f7a4 s1 r1) fun s2 r2 => B_X11_describe_79 K FU s2 248 (Int32.ofNat s) r2) = Tl K τ1 s ∧ Dl σ0 τ0 n1 σ1 τ1 ∧ n1 ≤ n + 8 := by
  have hs10 := i.hs
  obtain ⟨r1, i1⟩ := D.rs r i
  obtain ⟨m, hm, b1, b2⟩ := q_bits r1 i1 hs
  have hp := pcN_le m
  obtain ⟨t, ht, et⟩ := i.sh s hs
  have a1 : M_X1_howManyOn σ (5 + 11) (Int32.ofNat s) = some (σ, Int32.ofNat (pcN m)) := by
    unfold M_X1_howManyOn
    rw [bcall_of b1, bc_eq, bcall_some, bc_nat m hm]
  unfold B_X10_writeStorey_75
  simp only [Nat.zero_add]
  rw [bcall_of a1, bcall_of b2, bc_eq, bcall_some, bc_nat m hm]
  generalize pcN m = cn at hp
  have key := two (F := fun n a x => B_X10_writeStorey_90 n a 0 (Int32.ofNat s) (Int32.ofNat cn) x) (G := fun n b x => B_X11_describe_79 K n b 248 (Int32.ofNat s) (Int32.ofNat cn - x)) (I := fun q a b => Dl σ0 τ0 (n + q) a b) (P := fun x y => ∃ σ1 τ1 n1, x = some (σ1, 0) ∧ y = Tl K τ1 s ∧ Dl σ0 τ0 n1 σ1 τ1 ∧ n1 ≤ n + 8) (N := cn) (by
    rintro k1 k2 a b D1
    have ho : M_X9_hoursOf a (5 + 4) (Int32.ofNat s) = some (a, Int32.ofNat t) := by
      unfold M_X9_hoursOf
      rw [at_8 B5 (by omega), bcall_some, D1.fs (5 + 8) (by decide) (by decide), r.a8 s hs, et]
    have of : M_X11_of b 248 (Int32.ofNat s) 3 = some (b, Int32.ofNat t) := by
      refine (x_ofl (n := 3) (by show 30 + 6 * s + 3 < 111; omega)).trans ?_
      rw [D1.ft 249 (by decide) (by decide)]
      exact congrArg (fun z => some (b, z)) et
    simp only [B_X10_writeStorey_90, B_X11_describe_79, Nat.zero_add]
    rw [if_pos (Int32.le_refl _), oN_sub (Nat.le_refl cn), Nat.sub_self, if_pos (show Int32.ofNat 0 ≤ (0 : Int32) from by decide), bcall_of ho, bcall_of of]
    by_cases ct : t = 0
    · subst ct
      rw [if_pos (show Int32.ofNat 0 ≤ (0 : Int32) from by decide), if_pos (show Int32.ofNat 0 ≤ (0 : Int32) from by decide)]
      exact ⟨a, b, n + cn, rfl, rfl, D1, by omega⟩
    · have n0 : ¬ (Int32.ofNat t ≤ (0 : Int32)) := fun q => (oN_leFl (n := 0) (by omega) (by show 0 < t; omega)).mp q
      obtain ⟨σ2, τ2, p2, q2, D2⟩ := D1.put (by omega) 119 (by decide)
      have p2 : M_X4_put a 243 (119 : Int32) = some (σ2, 0) := p2
      have q2 : M_X11_writes b 248 (119 : Int32) = some (τ2, 0) := q2
      have ho2 : M_X9_hoursOf σ2 (5 + 4) (Int32.ofNat s) = some (σ2, Int32.ofNat t) := by
        unfold M_X9_hoursOf
        rw [at_8 B5 (by omega), bcall_some, D2.fs (5 + 8) (by decide) (by decide), r.a8 s hs, et]
      have of2 : M_X11_of τ2 248 (Int32.ofNat s) 3 = some (τ2, Int32.ofNat t) := by
        refine (x_ofl (n := 3) (by show 30 + 6 * s + 3 < 111; omega)).trans ?_
        rw [D2.ft 249 (by decide) (by decide)]
        exact congrArg (fun z => some (τ2, z)) et
      obtain ⟨σ3, τ3, n3, p3, q3, D3, h3, _⟩ := D2.num (m := t) (by omega) (by omega)
      rw [if_neg n0, if_neg n0, bcall_of p2, bcall_of q2, bcall_of ho2, bcall_of of2, bcall_of p3, bcall_of q3]
      exact ⟨σ3, τ3, n3, rfl, rfl, D3, by omega⟩) (by
    rintro k1 k2 q a b hq D1
    have e0 : Int32.ofNat cn - Int32.ofNat q = Int32.ofNat (cn - q) := oN_sub (by omega)
    obtain ⟨σ2, τ2, p2, q2, D2⟩ := D1.put (by omega) 42 (by decide)
    have p2 : M_X4_put a 243 (42 : Int32) = some (σ2, 0) := p2
    have q2 : M_X11_writes b 248 (42 : Int32) = some (τ2, 0) := q2
    refine Or.inr ⟨σ2, τ2, ?_, ?_, D2⟩
    · simp only [B_X10_writeStorey_90, Nat.zero_add]
      rw [if_neg (oN_nle (by omega) (by omega) hq), bcall_of p2, blet_eq, oN_al]
    · simp only [B_X11_describe_79]
      rw [e0, if_neg (fun z => (oN_leFl (n := 0) (by omega) (by show 0 < cn - q; omega)).mp z), bcall_of q2, blet_eq]
      obtain ⟨d, hd⟩ : ∃ d, cn - q = d + 1 := ⟨cn - q - 1, by omega⟩
      rw [hd, decr, oN_sub (by omega), show cn - (q + 1) = d by omega]) cn 0 FU FU σ τ (by omega) (FU_lt (by omega)) (FU_lt (by omega)) (by rw [Nat.add_zero]; exact D)
  have e0 : Int32.ofNat cn - Int32.ofNat 0 = Int32.ofNat cn := oN_sub (Nat.zero_le _)
  simp only [e0] at key
  exact key
theorem d_storey {σ0 τ0 σ τ : St} {n nb ns nc ni s : Nat} (r : RS σ0 5 (τ0 249) nb ns nc ni) (i : Iv (τ0 249) nb ns nc ni) (hs : s < ns) (D : Dl σ0 τ0 n σ τ) (hn : n + 16 ≤ 180) (m : Nat) : ∃ σ1 τ1 n1, M_X10_writeStorey σ 0 (Int32.ofNat s) = some (σ1, 0) ∧ B_X11_describe_14 (m + 1) τ 248 (Int32.ofNat s) = Tl (fun a y => B_X11_describe_14 m a 248 y) τ1 s ∧ Dl σ0 τ0 n1 σ1 τ1 ∧ n1 ≤ n + 15 := by
  have hs10 := i.hs
  have ni1 : ¬ ((1 : Int32) = 0) := by decide
  obtain ⟨g, hg, eg⟩ := i.sp s hs
  obtain ⟨t, ht, et⟩ := i.tt s hs
  obtain ⟨u, hu, eu⟩ := i.su s hs
  have fp : ∀ n a b, Dl σ0 τ0 n a b → M_X9_polesOf a (5 + 4) (Int32.ofNat s) = some (a, Int32.ofNat g) := fun n a b D1 => by
    unfold M_X9_polesOf
    rw [at_5 B5 (by omega), bcall_some, D1.fs (5 + 5) (by decide) (by decide), r.a5 s hs, eg]
  have ft : ∀ n a b, Dl σ0 τ0 n a b → M_X9_tieOf a (5 + 4) (Int32.ofNat s) = some (a, Int32.ofNat t) := fun n a b D1 => by
    unfold M_X9_tieOf
    rw [at_7 B5 (by omega), bcall_some, D1.fs (5 + 7) (by decide) (by decide), r.a7 s hs, et]
  have fu : ∀ n a b, Dl σ0 τ0 n a b → M_X9_shutterOf a (5 + 4) (Int32.ofNat s) = some (a, mm (Int32.ofNat u)) := fun n a b D1 => by
    unfold M_X9_shutterOf
    rw [at_10 B5 (by omega), bcall_some, D1.fs (5 + 10) (by decide) (by decide), r.a10 s hs, eu]
  have gp : ∀ n a b, Dl σ0 τ0 n a b → M_X11_of b 248 (Int32.ofNat s) 0 = some (b, Int32.ofNat g) := fun n a b D1 => by
    refine (x_ofl (n := 0) (by show 30 + 6 * s + 0 < 111; omega)).trans ?_
    rw [D1.ft 249 (by decide) (by decide)]
    exact congrArg (fun z => some (b, z)) eg
  have gt : ∀ n a b, Dl σ0 τ0 n a b → M_X11_of b 248 (Int32.ofNat s) 2 = some (b, Int32.ofNat t) := fun n a b D1 => by
    refine (x_ofl (n := 2) (by show 30 + 6 * s + 2 < 111; omega)).trans ?_
    rw [D1.ft 249 (by decide) (by decide)]
    exact congrArg (fun z => some (b, z)) et
  have gu : ∀ n a b, Dl σ0 τ0 n a b → M_X11_of b 248 (Int32.ofNat s) 5 = some (b, Int32.ofNat u) := fun n a b D1 => by
    refine (x_ofl (n := 5) (by show 30 + 6 * s + 5 < 111; omega)).trans ?_
    rw [D1.ft 249 (by decide) (by decide)]
    exact congrArg (fun z => some (b, z)) eu
  obtain ⟨s1, t1, n1, p1, q1, D1, _, m1⟩ := D.num (m := s) (by omega) (by omega)
  have m1 := m1 (by omega)
  obtain ⟨s2, t2, p2, q2, D2⟩ := D1.put (by omega) 58 (by decide)
  have p2 : M_X4_put s1 243 (58 : Int32) = some (s2, 0) := p2
  have q2 : M_X11_writes t1 248 (58 : Int32) = some (t2, 0) := q2
  obtain ⟨s3, t3, n3, p3, q3, D3, _, m3⟩ := D2.num (m := g) (by omega) (by omega)
  have m3 := m3 (by omega)
  obtain ⟨s4, t4, p4, q4, D4⟩ := D3.put (by omega) 112 (by decide)
  have p4 : M_X4_put s3 243 (112 : Int32) = some (s4, 0) := p4
  have q4 : M_X11_writes t3 248 (112 : Int32) = some (t4, 0) := q4
  obtain ⟨s5, t5, n5, p5, q5, D5, m5, _⟩ := D4.num (m := t) (by omega) (by omega)
  unfold M_X10_writeStorey
  simp only [Nat.zero_add, B_X11_describe_14]
  rw [if_neg (fun z => (oN_nn (a := s) (by omega)).mp z), bcall_of p1, bcall_of q1, bcall_of p2, bcall_of q2, bcall_of (fp _ _ _ D2), bcall_of (gp _ _ _ D2), bcall_of p3, bcall_of q3, bcall_of p4, bcall_of q4, bcall_of (ft _ _ _ D4), bcall_of (gt _ _ _ D4), bcall_of p5, bcall_of q5, bcall_of (gu _ _ _ D5)]
  rcases u with _ | u
  · have a1 : M_X9_isShut s5 (5 + 4) (Int32.ofNat s) = some (s5, 0) := by
      unfold M_X9_isShut
      rw [bcall_of (fu _ _ _ D5), mm_0, if_pos rfl]
    rw [bcall_of a1, if_pos rfl, if_pos (show Int32.ofNat 0 ≤ (0 : Int32) from by decide)]
    obtain ⟨s6, t6, n6, p6, q6, D6, m6⟩ := d_stars r i hs D5 (by omega) (fun a y => B_X11_describe_14 m a 248 y)
    exact ⟨s6, t6, n6, p6, q6, D6, by omega⟩
  · have a1 : M_X9_isShut s5 (5 + 4) (Int32.ofNat s) = some (s5, 1) := by
      unfold M_X9_isShut
      rw [bcall_of (fu _ _ _ D5), mm_s (by omega), if_neg (fun z => (oN_m4 (a := u) (by omega)).mp z)]
    obtain ⟨s6, t6, p6, q6, D6⟩ := D5.put (by omega) 35 (by decide)
    have p6 : M_X4_put s5 243 (35 : Int32) = some (s6, 0) := p6
    have q6 : M_X11_writes t5 248 (35 : Int32) = some (t6, 0) := q6
    rw [bcall_of a1, if_neg ni1, if_neg (fun z => (oN_leFl (a := u + 1) (n := 0) (by omega) (by show 0 < u + 1; omega)).mp z), bcall_of p6, bcall_of q6]
    obtain ⟨s7, t7, n7, p7, q7, D7, m7⟩ := d_stars r i hs D6 (by omega) (fun a y => B_X11_describe_14 m a 248 y)
    exact ⟨s7, t7, n7, p7, q7, D7, by omega⟩
theorem bare4 : chr 6 0 = Int32.ofNat 98 ∧ chr 6 1 = Int32.ofNat 97 ∧ chr 6 2 = Int32.ofNat 114 ∧ chr 6 3 = Int32.ofNat 101 := by decide +kernel
theorem idx_a {ns q : Nat} (h : q < ns) : Int32.ofNat ns - 1 - Int32.ofNat q = Int32.ofNat (ns - 1 - q) := by
  obtain ⟨d, rfl⟩ : ∃ d, ns = d + 1 := ⟨ns - 1, by omega⟩
  rw [oN_s1, oN_sub (by omega)]
  rfl
theorem idx_b (x y : Int32) : x - y + -1 = x - (y + 1) := by grind
theorem idx_c (ns : Nat) : Int32.ofNat ns - 1 - Int32.ofNat ns = -1 := by
  generalize Int32.ofNat ns = y
  grind
theorem Q_describe {σ τ : St} (h : Co σ τ) : Pair σ τ (M_X10_describe σ 0) (M_X11_describe τ 248) (fun v w => v = w) := by
  obtain ⟨nb, ns, nc, ni, r, i⟩ := h.now
  have hs10 := i.hs
  have fin : ∀ (n : Nat) (a b : St), n ≤ 180 → Dl σ τ n a b → Pair σ τ (some (a, a 243 1)) (some (b, b 248 8)) (fun v w => v = w) := fun n a b hn D =>
    ⟨a, b, _, _, rfl, rfl, by rw [D.l1, D.l2], h.line ⟨n, hn, D.l1, D.l2, D.ch⟩ D.fs D.ft D.fq, fun k hk => D.fs k (by omega) (by omega), fun k hk => D.ft k (by omega) (by omega)⟩
  have D0 : Dl σ τ 0 (u2 σ 243 1 0) (u2 τ 248 8 0) := ⟨by rw [u2_self]; rfl, by rw [u2_self]; rfl, fun j hj => by omega, fun k h1 h2 => by rw [u2_ne h1], fun k h1 h2 => by rw [u2_ne h1], fun q hq => by rw [u2_same hq]⟩
  unfold M_X10_describe M_X11_describe M_X4_makeEmpty
  simp only [Nat.zero_add]
  have x3 : ∀ (b : St) (K : Int32 → Option (St × Int32)), b 249 = τ 249 → bald b (248 + 1) 3 K = K (Int32.ofNat ns) := fun b K e => by rw [x_ldl (by decide), e]; exact congrArg K i.cs
  rw [bput_eq, bcall_some, bput_eq, x3 _ _ (u2_ne (by decide)), u2_ne (show 5 + 4 ≠ 243 by decide), r.cs, blet_eq, blet_eq]
  have key := two (F := fun n a x => B_X10_describe_20 n a 0 (Int32.ofNat ns - 1 - x)) (G := fun n b x => B_X11_describe_14 n b 248 (Int32.ofNat ns - 1 - x)) (I := fun q a b => ∃ n, n ≤ 16 * q ∧ Dl σ τ n a b) (P := fun x y => Pair σ τ x y (fun v w => v = w)) (N := ns) (by
    rintro k1 k2 a b ⟨n, hn, D⟩
    simp only [B_X10_describe_20, B_X11_describe_14, Nat.zero_add]
    rw [idx_c, if_pos (show (-1 : Int32) < 0 from by decide), if_pos (show (-1 : Int32) < 0 from by decide), D.fs (5 + 4) (by decide) (by decide), r.cs]
    by_cases c : ns = 0
    · subst c
      obtain ⟨s1, t1, p1, q1, D1⟩ := D.put (by omega) 98 (by decide)
      obtain ⟨s2, t2, p2, q2, D2⟩ := D1.put (by omega) 97 (by decide)
      obtain ⟨s3, t3, p3, q3, D3⟩ := D2.put (by omega) 114 (by decide)
      obtain ⟨s4, t4, p4, q4, D4⟩ := D3.put (by omega) 101 (by decide)
      have p1 : M_X4_put a 243 (98 : Int32) = some (s1, 0) := p1
      have p2 : M_X4_put s1 243 (97 : Int32) = some (s2, 0) := p2
      have p3 : M_X4_put s2 243 (114 : Int32) = some (s3, 0) := p3
      have p4 : M_X4_put s3 243 (101 : Int32) = some (s4, 0) := p4
      have a1 : M_X10_writeBare a 0 = some (s4, 0) := by
        unfold M_X10_writeBare
        simp only [Nat.zero_add]
        rw [bcall_of p1, bcall_of p2, bcall_of p3, bcall_of p4]
      have stp : ∀ (n j : Nat) (b b1 : St) (ch : Int32), b 249 = τ 249 → j < 4 → chr 6 j = ch → M_X11_writes b 248 ch = some (b1, 0) → B_X11_describe_138 (n + 1) b 248 (Int32.ofNat j) = B_X11_describe_138 n b1 248 (Int32.ofNat (j + 1)) := fun n j b b1 ch e hj hc hw => by
        simp only [B_X11_describe_138]
        rw [if_neg (fun z => (oN_lleF (n := 4) (by decide) hj).mp z), x3 b _ e, if_pos (show Int32.ofNat 0 = (0 : Int32) from rfl), bcall_of (char_at b (z := 6) (j := j) (by decide) hj), hc, bcall_of hw, blet_eq, oN_al]
      have e1 : B_X11_describe_138 FU b 248 0 = some (t4, t4 248 8) := by
        refine (stp 999 0 b t1 _ (D.ft 249 (by decide) (by decide)) (by decide) bare4.1 q1).trans ?_
        refine (stp 998 1 t1 t2 _ (D1.ft 249 (by decide) (by decide)) (by decide) bare4.2.1 q2).trans ?_
        refine (stp 997 2 t2 t3 _ (D2.ft 249 (by decide) (by decide)) (by decide) bare4.2.2.1 q3).trans ?_
        refine (stp 996 3 t3 t4 _ (D3.ft 249 (by decide) (by decide)) (by decide) bare4.2.2.2 q4).trans ?_
        obtain ⟨d, hd⟩ : ∃ d, 996 = d + 1 := ⟨995, rfl⟩
        rw [hd]
        simp only [B_X11_describe_138]
        rw [if_pos (by decide)]
      rw [if_pos (by decide), bcall_of a1, e1]
      exact fin _ _ _ (by omega) D4
    · have e1 : B_X11_describe_138 FU b 248 0 = some (b, b 248 8) := by
        obtain ⟨d, hd⟩ : ∃ d, FU = d + 1 := ⟨999, rfl⟩
        rw [hd]
        simp only [B_X11_describe_138]
        rw [if_neg (by decide), x3 b _ (D.ft 249 (by decide) (by decide)), if_neg (fun z => (oN_eqFl (n := 0) (by omega) (by decide) c).mp z)]
      rw [if_neg (fun z => (oN_eqFl (n := 0) (by omega) (by decide) c).mp z), e1]
      exact fin _ _ _ (by omega) D) (by
    rintro k1 k2 q a b hq ⟨n, hn, D⟩
    obtain ⟨s1, t1, n1, p1, q1, D1, m1⟩ := d_storey r i (show ns - 1 - q < ns by omega) D (by omega) k2
    have e2 : B_X10_describe_20 (k1 + 1) a 0 (Int32.ofNat (ns - 1 - q)) = (if Int32.ofNat (ns - 1 - q) ≤ 0 then (blet (Int32.ofNat (ns - 1 - q) + (-1 : Int32)) fun v => B_X10_describe_20 k1 s1 0 v) else (bcall (M_X4_put s1 243 (32 : Int32)) fun σ10 _ => blet (Int32.ofNat (ns - 1 - q) + (-1 : Int32)) fun v => B_X10_describe_20 k1 σ10 0 v)) := by
      simp only [B_X10_describe_20, Nat.zero_add]
      rw [if_neg (fun z => (oN_nn (a := ns - 1 - q) (by omega)).mp z), bcall_of p1]
    rw [idx_a hq, e2, q1]
    unfold Tl
    have e9 : Int32.ofNat (ns - 1 - q) + -1 = Int32.ofNat ns - 1 - Int32.ofNat (q + 1) := by rw [← sub_step, idx_a hq]
    by_cases c : ns - 1 - q = 0
    · rw [c] at e9
      rw [c, if_pos (by decide), if_pos (by decide), blet_eq, blet_eq]
      refine Or.inr ⟨s1, t1, ?_, ?_, n1, by omega, D1⟩
      · exact congrArg (fun z => B_X10_describe_20 k1 s1 0 z) e9
      · exact congrArg (fun z => B_X11_describe_14 k2 t1 248 z) e9
    · obtain ⟨s2, t2, p2, q2, D2⟩ := D1.put (by omega) 32 (by decide)
      have p2 : M_X4_put s1 243 (32 : Int32) = some (s2, 0) := p2
      have q2 : M_X11_writes t1 248 (32 : Int32) = some (t2, 0) := q2
      rw [if_neg (fun z => (oN_leFl (n := 0) (by omega) (by show 0 < ns - 1 - q; omega)).mp z), if_neg (fun z => (oN_leFl (n := 0) (by omega) (by show 0 < ns - 1 - q; omega)).mp z), bcall_of p2, bcall_of q2, blet_eq, blet_eq]
      refine Or.inr ⟨s2, t2, ?_, ?_, n1 + 1, by omega, D2⟩
      · exact congrArg (fun z => B_X10_describe_20 k1 s2 0 z) e9
      · exact congrArg (fun z => B_X11_describe_14 k2 t2 248 z) e9) ns 0 FU FU (u2 σ 243 1 0) (u2 τ 248 8 0) (by omega) (FU_lt (by omega)) (FU_lt (by omega)) ⟨0, by omega, D0⟩
  have e0 : Int32.ofNat ns - 1 - Int32.ofNat 0 = Int32.ofNat ns - 1 := by
    have : Int32.ofNat 0 = 0 := rfl
    rw [this]
    grind
  simp only [e0] at key
  exact key
