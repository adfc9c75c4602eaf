/-! texts that are read, changes -/
theorem c255 : ∀ g, g < 128 → (((Int32.ofNat g &&& (255 : Int32)).toUInt32 % 65536).toInt32) = Int32.ofNat g := by decide +kernel
theorem ch_at (σ : St) {z j g : Nat} (hl : lnS z ≤ 200) (hj : j < lnS z) (hg : (byS z).getD j 0 = Int32.ofNat g) (h : g < 128) : M_J0_charAt_5068e σ z (Int32.ofNat j) = some (σ, Int32.ofNat g) := by
  have e1 : M_J3_checkIndex_8e157 σ (Int32.ofNat j) (Int32.ofNat (lnS z)) = some (σ, Int32.ofNat j) := by
    unfold M_J3_checkIndex_8e157
    rw [if_neg (fun q => (oN_nn (a := j) (by omega)).mp q), if_pos (of_eq_true (oN_ltT (by omega) hj))]
  have hk := okC_nat g h
  unfold M_J0_charAt_5068e M_J0_isLatin1_aae02
  rw [if_neg (show ¬ (1 : Int32) = 0 from by decide), if_pos (show (0 : Int32) = 0 from rfl), bcall_some, if_neg (show ¬ (1 : Int32) = 0 from by decide)]
  unfold M_J1_charAt_3b067 M_J0_checkIndex_df160
  rw [e1, bcall_some, bcall_some]
  unfold bbld
  rw [if_pos ⟨by rw [oN_toInt (by omega)]; omega, by rw [oN_toInt (by omega)]; omega⟩, oN_clamp (by omega), hg]
  simp only [blet, c255 g h, bchk, hk, ↓reduceIte, bcall_some]
theorem Cs.app {σ : St} {r : Nat → Int32} {u nx n : Nat} {L : Nat → Nat → Int32} {sv : Option (Nat → Int32)} {ft : Int32} (h : Cs σ r u nx L sv n ft) (hn : n < 60) {c : Nat} (hc : 32 ≤ c ∧ c ≤ 126) : ∃ σ1, M_X10_append σ 0 (Int32.ofNat c) = some (σ1, Int32.ofNat (n + 1)) ∧ Cs σ1 r u nx L sv (n + 1) ft ∧ (∀ k, k ≠ 241 → k ≠ 242 → σ1 k = σ k) ∧ σ1 242 n = Int32.ofNat c ∧ ∀ j, j ≠ n → σ1 242 j = σ 242 j := by
  have e1 := h.inp
  have ni1 : ¬ ((1 : Int32) = 0) := by decide
  obtain ⟨τ, hC⟩ := h.co
  obtain ⟨σ2, v2, τ2, e3, hC2⟩ := (Q_append hC (Int32.ofNat c)).co
  have l242 : ln (241 + 1) = 60 := by decide +kernel
  have p1 : M_X4_put σ 241 (Int32.ofNat c) = some (u2 (u2 σ 242 n (Int32.ofNat c)) 241 1 (Int32.ofNat (n + 1)), 0) := by
    unfold M_X4_put
    rw [e1, if_neg (fun q => (oN_nn (a := n) (by omega)).mp q), if_neg (oN_nle (by rw [l242]; decide) (by omega) (by rw [l242]; omega)), bcast_nat (by rw [l242]; omega), bput_eq, u2_ne (by decide), e1, oN_al, nar_nat c (by omega)]
  have e : M_X10_append σ 0 (Int32.ofNat c) = some (u2 (u2 σ 242 n (Int32.ofNat c)) 241 1 (Int32.ofNat (n + 1)), Int32.ofNat (n + 1)) := by
    unfold M_X10_append
    simp only [Nat.zero_add]
    rcases in_pair (σ := σ) (τ := σ) (Int32.ofNat c) 32 126 with ⟨a1, a2, a3⟩ | ⟨a1, a2, l1, u1⟩
    · exact absurd ⟨(ol (a := 32) (by omega) (by omega)).mpr hc.1, (ol (j := 126) (by omega) (by omega)).mpr hc.2⟩ a3
    · rw [bcall_of a1, if_neg ni1, e1, if_pos (of_eq_true (oN_ltTl (by decide) (by show n < 60; omega))), bcall_of p1, u2_self]
  rw [e] at e3
  obtain ⟨rfl, rfl⟩ := Prod.mk.injEq _ _ _ _ ▸ Option.some.inj e3
  have fr : ∀ k, k ≠ 241 → k ≠ 242 → u2 (u2 σ 242 n (Int32.ofNat c)) 241 1 (Int32.ofNat (n + 1)) k = σ k := fun k h1 h2 => by rw [u2_ne h1, u2_ne h2]
  exact ⟨_, e, ⟨⟨τ2, hC2⟩, h.sc.cg (fun k h1 h2 => fr k (by omega) (by omega)) (fun _ _ => rfl), ⟨h.hh.1, h.hh.2.1, by rw [fr 59 (by omega) (by omega)]; exact h.hh.2.2.1, by rw [fr 59 (by omega) (by omega)]; exact h.hh.2.2.2⟩, h.rg.cg (fun k h1 h2 => fr k (by omega) (by omega)), h.sv.cg (by rw [fr 0 (by omega) (by omega)]) (fun k h1 h2 => fr k (by omega) (by omega)), u2_self, by rw [fr 0 (by omega) (by omega)]; exact h.flt⟩, fr, by rw [u2_ne (by decide), u2_self], fun j hj => by rw [u2_ne (by decide), u2_same hj]⟩
/-- a script: what it leaves -/
theorem Cs.script {σ : St} {r : Nat → Int32} {u nx n : Nat} {L : Nat → Nat → Int32} {sv : Option (Nat → Int32)} {ft : Int32} (h : Cs σ r u nx L sv n ft) : ∃ σ1 v ft1, M_X10_script σ 0 = some (σ1, v) ∧ ((v < 0 ∧ Cs σ1 r u nx L sv 0 ft1 ∧ (v = -2 → ∀ k, 2 ≤ k → k < 5 → σ1 k = σ k)) ∨ (0 ≤ v ∧ ∃ r1, Cs σ1 r1 (min (u + 1) 8) ((nx + 1) % 9) (psh r L) sv 0 ft1)) := by
  obtain ⟨τ, hC⟩ := h.co
  obtain ⟨hu, hx, -, -⟩ := id h.hh
  have hp : pl nx = 79 + 18 * nx := rfl
  obtain ⟨σ1, τ1, v, e, hC1, i0, fr, f8, hh⟩ := S_script hC h.hh
  refine ⟨σ1, v, σ1 0 9, e, ?_⟩
  have hsv : Svd σ1 sv := h.sv.cg f8 (fun k h1 h2 => fr k (by omega))
  have hi : σ1 241 1 = Int32.ofNat 0 := i0
  rcases hh with ⟨rfl, h5, h59⟩ | ⟨rfl, h59, hs, -⟩ | ⟨h0, hH, hs, -⟩
  · exact Or.inl ⟨by decide, ⟨⟨τ1, hC1⟩, h.sc.cg (fun k h1 h2 => h5 k (by omega) (by omega)) (fun _ _ => rfl), ⟨hu, hx, by rw [h59]; exact h.hh.2.2.1, by rw [h59]; exact h.hh.2.2.2⟩, h.rg.cgn hu hx (fun k h1 h2 h3 => fr k (by omega)), hsv, hi, rfl⟩, fun _ k h1 h2 => h5 k h1 (by omega)⟩
  · exact Or.inl ⟨by decide, ⟨⟨τ1, hC1⟩, hs r h.sc, ⟨hu, hx, by rw [h59]; exact h.hh.2.2.1, by rw [h59]; exact h.hh.2.2.2⟩, h.rg.cgn hu hx (fun k h1 h2 h3 => fr k (by omega)), hsv, hi, rfl⟩, fun q => absurd q (by decide)⟩
  · exact Or.inr ⟨h0, τ1 249, ⟨τ1, hC1⟩, hC1.now, hH, h.rg.push hu hx (hs r h.sc) (fun k h1 h2 h3 => fr k (by omega)), hsv, hi, rfl⟩
/-- a text is given sign by sign, then read -/
theorem rd_ok {r : Nat → Int32} {u nx : Nat} {L : Nat → Nat → Int32} {sv : Option (Nat → Int32)} {ft : Int32} {z : Nat} {c : Nat → Nat} (hz : lnS z < 17) (hc : ∀ j, j < lnS z → (byS z).getD j 0 = Int32.ofNat (c j) ∧ 32 ≤ c j ∧ c j ≤ 126) (σ0 : St) {P : Option (St × Int32) → Prop} (hend : ∀ σ, Cs σ r u nx L sv (lnS z) ft → (∀ j, j < lnS z → σ 242 j = Int32.ofNat (c j)) → (∀ k, k ≠ 241 → k ≠ 242 → σ k = σ0 k) → P (M_X10_script σ 0)) :
    ∀ (d j n : Nat) (σ : St), j + d = lnS z → d < n → Cs σ r u nx L sv j ft → (∀ i, i < j → σ 242 i = Int32.ofNat (c i)) → (∀ k, k ≠ 241 → k ≠ 242 → σ k = σ0 k) → P (B_L_reads_2 n σ 0 z (Int32.ofNat j)) := by
  intro d
  induction d with
  | zero =>
    intro j n σ hj hn h ht hf
    obtain ⟨n, rfl⟩ : ∃ k, n = k + 1 := ⟨n - 1, by omega⟩
    obtain rfl : j = lnS z := by omega
    simp only [B_L_reads_2, len_all σ hz, bcall_some]
    rw [if_pos (Int32.le_refl _)]
    have e := hend σ h ht hf
    rw [← bcall_id (M_X10_script σ 0)] at e
    exact e
  | succ d ih =>
    intro j n σ hj hn h ht hf
    obtain ⟨n, rfl⟩ : ∃ k, n = k + 1 := ⟨n - 1, by omega⟩
    obtain ⟨hg, h32, h126⟩ := hc j (by omega)
    obtain ⟨σ1, e1, h1, f1, t1, t2⟩ := h.app (by omega) ⟨h32, h126⟩
    simp only [B_L_reads_2, len_all σ hz, bcall_some]
    rw [if_neg (fun q => by have := (ol (by omega) (by omega)).mp q; omega), ch_at σ (by omega) (by omega) hg (by omega), bcall_some, e1, bcall_some, oN_al, if_pos rfl, blet_eq]
    refine ih (j + 1) n σ1 (by omega) (by omega) h1 (fun i hi => ?_) (fun k q1 q2 => by rw [f1 k q1 q2]; exact hf k q1 q2)
    by_cases e : i = j
    · rw [e]; exact t1
    · rw [t2 i e]; exact ht i (by omega)
theorem dS_ok : ∀ q, q < 836 → ∀ j, j < lnS (16 + q) → 32 ≤ ((byS (16 + q)).getD j 0).toNatClampNeg ∧ ((byS (16 + q)).getD j 0).toNatClampNeg ≤ 126 ∧ (byS (16 + q)).getD j 0 = Int32.ofNat ((byS (16 + q)).getD j 0).toNatClampNeg := by decide +kernel
theorem dfl_lt (x : Int32) : dfl x < 836 := by
  have a1 := smN_lt (x >>> ((3 : Int32) &&& 31)) (n := 9) (by decide)
  have a2 := smN_lt (x >>> ((5 : Int32) &&& 31)) (n := 4) (by decide)
  have a3 := smN_lt (x >>> ((3 : Int32) &&& 31)) (n := 4) (by decide)
  have a4 := smN_lt (x >>> ((5 : Int32) &&& 31)) (n := 10) (by decide)
  have a5 := smN_lt (x >>> ((4 : Int32) &&& 31)) (n := 5) (by decide)
  unfold dfl cdA cdB
  split <;> omega
/-- what a change leaves: it answers 1 and the row is another, or 0 and nothing is -/
def Chd (r : Nat → Int32) (u nx : Nat) (L : Nat → Nat → Int32) (sv : Option (Nat → Int32)) (x : Option (St × Int32)) : Prop := ∃ σ1 ft1, (x = some (σ1, 0) ∧ Cs σ1 r u nx L sv 0 ft1) ∨ (x = some (σ1, 1) ∧ ∃ r1, Cs σ1 r1 (min (u + 1) 8) ((nx + 1) % 9) (psh r L) sv 0 ft1)
theorem dch {σ : St} {r : Nat → Int32} {u nx : Nat} {L : Nat → Nat → Int32} {sv : Option (Nat → Int32)} {ft : Int32} (h : Cs σ r u nx L sv 0 ft) (x : Int32) : Chd r u nx L sv (D_L_changes σ 0 x) := by
  unfold D_L_changes M_L_reads
  generalize hq : dfl x = q
  have hq8 : q < 836 := hq ▸ dfl_lt x
  have hl : lnS (16 + q) < 17 := by
    unfold lnS lnD
    rw [if_neg (by omega)]
    split <;> omega
  refine rd_ok (c := fun j => ((byS (16 + q)).getD j 0).toNatClampNeg) hl (fun j hj => ?_) σ (P := fun o => Chd r u nx L sv (bcall o fun σ1 r => if r < 0 then some (σ1, (0 : Int32)) else some (σ1, (1 : Int32)))) (fun σ1 h1 _ _ => ?_) (lnS (16 + q)) 0 FU σ (by omega) (FU_lt (by omega)) h (fun i hi => by omega) (fun _ _ _ => rfl)
  · obtain ⟨a, b, c⟩ := dS_ok q hq8 j hj
    exact ⟨c, a, b⟩
  · obtain ⟨σ2, v, ft1, e, hh⟩ := h1.script
    rw [e, bcall_some]
    rcases hh with ⟨h0, hc, -⟩ | ⟨h0, r1, hc⟩
    · rw [if_pos h0]; exact ⟨σ2, ft1, Or.inl ⟨rfl, hc⟩⟩
    · rw [if_neg (Int32.not_lt.mpr h0)]; exact ⟨σ2, ft1, Or.inr ⟨rfl, r1, hc⟩⟩
theorem gch {σ : St} {r : Nat → Int32} {u nx : Nat} {L : Nat → Nat → Int32} {sv : Option (Nat → Int32)} {ft : Int32} (h : Cs σ r u nx L sv 0 ft) {x y : Option (St × Int32)} (hz : PC u nx σ (tz r) x y) (hq : ∀ τ, Co σ τ → ∃ σ1 v τ1, x = some (σ1, v) ∧ Co σ1 τ1) : Chd r u nx L sv (bcall x fun σ1 r => if r < 0 then some (σ1, (0 : Int32)) else some (σ1, (1 : Int32))) := by
  obtain ⟨σ1, τz, v, e, -, hh⟩ := h.chg hz hq
  rw [e, bcall_some]
  rcases hh with ⟨h0, hc, -⟩ | ⟨h0, hc⟩
  · rw [if_pos h0]; exact ⟨σ1, ft, Or.inl ⟨rfl, hc⟩⟩
  · rw [if_neg (Int32.not_lt.mpr h0)]; exact ⟨σ1, ft, Or.inr ⟨rfl, _, hc⟩⟩
theorem tz4 (r : Nat → Int32) : tz r 248 4 = 0 := by rw [tz_c (by decide)]
theorem chg_ok {σ : St} {r : Nat → Int32} {u nx : Nat} {L : Nat → Nat → Int32} {sv : Option (Nat → Int32)} {ft : Int32} (h : Cs σ r u nx L sv 0 ft) (x : Int32) : Chd r u nx L sv (M_L_changes σ 0 x) := by
  have t := tzc h.cz
  have t4 := tz4 r
  have hh := h.hh
  obtain ⟨nb, ns, nc, ni, rs, i⟩ := id h.sc
  have hs10 := i.hs; have hc5 := i.hc
  unfold M_L_changes
  rw [ia_4 i h.cz, bcall_some, oN_al, some_eq σ _ (by show 0 < ns + 1; omega) (by show ns + 1 < 1000; omega), bcall_some, ia_7 i h.cz, bcall_some, oN_al, some_eq σ _ (by show 0 < nc + 1; omega) (by show nc + 1 < 1000; omega), bcall_some]
  rw [show M_L_some σ x (16 : Int32) = some (σ, Int32.ofNat (smN x 16)) from some_eq σ x (by decide) (by decide), bcall_some]
  have l16 := smN_lt x (n := 16) (by decide)
  generalize smN x 16 = q at l16
  generalize smN (x >>> ((4 : Int32) &&& 31)) (ns + @OfNat.ofNat Nat 1 _) = k4
  generalize smN (x >>> ((7 : Int32) &&& 31)) (nc + @OfNat.ofNat Nat 1 _) = k7
  have sm : ∀ (y : Int32) (n : Nat), 0 < n → n < 1000 → M_L_some σ y (Int32.ofNat n) = some (σ, Int32.ofNat (smN y n)) := fun y n h0 h1 => some_eq σ y h0 h1
  have tq : (Int32.ofNat q).toInt = (q : Int) := oN_toInt (by omega)
  rw [tq]
  have hq : q = 0 ∨ q = 1 ∨ q = 2 ∨ q = 3 ∨ q = 4 ∨ q = 5 ∨ q = 6 ∨ q = 7 ∨ q = 8 ∨ q = 9 ∨ q = 10 ∨ q = 11 ∨ q = 12 ∨ q = 13 ∨ q = 14 ∨ q = 15 := by omega
  have s4 : ∀ y, M_L_some σ y (4 : Int32) = some (σ, Int32.ofNat (smN y 4)) := fun y => sm y 4 (by decide) (by decide)
  have s5 : ∀ y, M_L_some σ y (5 : Int32) = some (σ, Int32.ofNat (smN y 5)) := fun y => sm y 5 (by decide) (by decide)
  have s6 : ∀ y, M_L_some σ y (6 : Int32) = some (σ, Int32.ofNat (smN y 6)) := fun y => sm y 6 (by decide) (by decide)
  have s7 : ∀ y, M_L_some σ y (7 : Int32) = some (σ, Int32.ofNat (smN y 7)) := fun y => sm y 7 (by decide) (by decide)
  have s3 : ∀ y, M_L_some σ y (3 : Int32) = some (σ, Int32.ofNat (smN y 3)) := fun y => sm y 3 (by decide) (by decide)
  have s11 : ∀ y, M_L_some σ y (11 : Int32) = some (σ, Int32.ofNat (smN y 11)) := fun y => sm y 11 (by decide) (by decide)
  have s12 : ∀ y, M_L_some σ y (12 : Int32) = some (σ, Int32.ofNat (smN y 12)) := fun y => sm y 12 (by decide) (by decide)
  have s32 : ∀ y, M_L_some σ y (32 : Int32) = some (σ, Int32.ofNat (smN y 32)) := fun y => sm y 32 (by decide) (by decide)
  have s42 : ∀ y, M_L_some σ y (42 : Int32) = some (σ, Int32.ofNat (smN y 42)) := fun y => sm y 42 (by decide) (by decide)
  have s62 : ∀ y, M_L_some σ y (62 : Int32) = some (σ, Int32.ofNat (smN y 62)) := fun y => sm y 62 (by decide) (by decide)
  have s101 : ∀ y, M_L_some σ y (101 : Int32) = some (σ, Int32.ofNat (smN y 101)) := fun y => sm y 101 (by decide) (by decide)
  rcases hq with rfl | rfl | rfl | rfl | rfl | rfl | rfl | rfl | rfl | rfl | rfl | rfl | rfl | rfl | rfl | rfl
  · rw [if_neg (show ¬ (((0 : Nat) : Int) < 0 ∨ 14 < ((0 : Nat) : Int)) from by decide), if_pos (show ((0 : Nat) : Int) = 0 from rfl)]
    simp only [s32, s62, bcall_some]
    exact gch h (Z_bundle t hh t4 _ _) (fun τ hC => (Q_bundle hC _ _).co)
  · rw [if_neg (show ¬ (((1 : Nat) : Int) < 0 ∨ 14 < ((1 : Nat) : Int)) from by decide), if_neg (show ¬ (((1 : Nat) : Int) = 0) from by decide), if_pos (show ((1 : Nat) : Int) = 1 from rfl)]
    simp only [s101, bcall_some]
    exact gch h (Z_strips t hh t4 _) (fun τ hC => (Q_strips hC _).co)
  · rw [if_neg (show ¬ (((2 : Nat) : Int) < 0 ∨ 14 < ((2 : Nat) : Int)) from by decide), if_neg (show ¬ (((2 : Nat) : Int) = 0) from by decide), if_neg (show ¬ (((2 : Nat) : Int) = 1) from by decide), if_pos (show ((2 : Nat) : Int) = 2 from rfl)]
    simp only [s5, s7, s42, bcall_some]
    exact gch h (Z_build t hh t4 _ _ _) (fun τ hC => (Q_build hC _ _ _).co)
  · rw [if_neg (show ¬ (((3 : Nat) : Int) < 0 ∨ 14 < ((3 : Nat) : Int)) from by decide), if_neg (show ¬ (((3 : Nat) : Int) = 0) from by decide), if_neg (show ¬ (((3 : Nat) : Int) = 1) from by decide), if_neg (show ¬ (((3 : Nat) : Int) = 2) from by decide), if_pos (show ((3 : Nat) : Int) = 3 from rfl)]
    simp only [s5, s7, s42, bcall_some]
    exact gch h (Z_build t hh t4 _ _ _) (fun τ hC => (Q_build hC _ _ _).co)
  · rw [if_neg (show ¬ (((4 : Nat) : Int) < 0 ∨ 14 < ((4 : Nat) : Int)) from by decide), if_neg (show ¬ (((4 : Nat) : Int) = 0) from by decide), if_neg (show ¬ (((4 : Nat) : Int) = 1) from by decide), if_neg (show ¬ (((4 : Nat) : Int) = 2) from by decide), if_neg (show ¬ (((4 : Nat) : Int) = 3) from by decide), if_pos (show ((4 : Nat) : Int) = 4 from rfl)]
    exact gch h (Z_tie t hh t4 _) (fun τ hC => (Q_tie hC _).co)
  · rw [if_neg (show ¬ (((5 : Nat) : Int) < 0 ∨ 14 < ((5 : Nat) : Int)) from by decide), if_neg (show ¬ (((5 : Nat) : Int) = 0) from by decide), if_neg (show ¬ (((5 : Nat) : Int) = 1) from by decide), if_neg (show ¬ (((5 : Nat) : Int) = 2) from by decide), if_neg (show ¬ (((5 : Nat) : Int) = 3) from by decide), if_neg (show ¬ (((5 : Nat) : Int) = 4) from by decide), if_pos (show ((5 : Nat) : Int) = 5 from rfl)]
    simp only [s6, bcall_some]
    exact gch h (Z_crew t hh t4 _) (fun τ hC => (Q_crew hC _).co)
  · rw [if_neg (show ¬ (((6 : Nat) : Int) < 0 ∨ 14 < ((6 : Nat) : Int)) from by decide), if_neg (show ¬ (((6 : Nat) : Int) = 0) from by decide), if_neg (show ¬ (((6 : Nat) : Int) = 1) from by decide), if_neg (show ¬ (((6 : Nat) : Int) = 2) from by decide), if_neg (show ¬ (((6 : Nat) : Int) = 3) from by decide), if_neg (show ¬ (((6 : Nat) : Int) = 4) from by decide), if_neg (show ¬ (((6 : Nat) : Int) = 5) from by decide), if_pos (show ((6 : Nat) : Int) = 6 from rfl)]
    exact gch h (Z_up t hh t4 _ _) (fun τ hC => (Q_up hC _ _).co)
  · rw [if_neg (show ¬ (((7 : Nat) : Int) < 0 ∨ 14 < ((7 : Nat) : Int)) from by decide), if_neg (show ¬ (((7 : Nat) : Int) = 0) from by decide), if_neg (show ¬ (((7 : Nat) : Int) = 1) from by decide), if_neg (show ¬ (((7 : Nat) : Int) = 2) from by decide), if_neg (show ¬ (((7 : Nat) : Int) = 3) from by decide), if_neg (show ¬ (((7 : Nat) : Int) = 4) from by decide), if_neg (show ¬ (((7 : Nat) : Int) = 5) from by decide), if_neg (show ¬ (((7 : Nat) : Int) = 6) from by decide), if_pos (show ((7 : Nat) : Int) = 7 from rfl)]
    exact gch h (Z_up t hh t4 _ _) (fun τ hC => (Q_up hC _ _).co)
  · rw [if_neg (show ¬ (((8 : Nat) : Int) < 0 ∨ 14 < ((8 : Nat) : Int)) from by decide), if_neg (show ¬ (((8 : Nat) : Int) = 0) from by decide), if_neg (show ¬ (((8 : Nat) : Int) = 1) from by decide), if_neg (show ¬ (((8 : Nat) : Int) = 2) from by decide), if_neg (show ¬ (((8 : Nat) : Int) = 3) from by decide), if_neg (show ¬ (((8 : Nat) : Int) = 4) from by decide), if_neg (show ¬ (((8 : Nat) : Int) = 5) from by decide), if_neg (show ¬ (((8 : Nat) : Int) = 6) from by decide), if_neg (show ¬ (((8 : Nat) : Int) = 7) from by decide), if_pos (show ((8 : Nat) : Int) = 8 from rfl)]
    exact gch h (Z_down t hh t4 _) (fun τ hC => (Q_down hC _).co)
  · rw [if_neg (show ¬ (((9 : Nat) : Int) < 0 ∨ 14 < ((9 : Nat) : Int)) from by decide), if_neg (show ¬ (((9 : Nat) : Int) = 0) from by decide), if_neg (show ¬ (((9 : Nat) : Int) = 1) from by decide), if_neg (show ¬ (((9 : Nat) : Int) = 2) from by decide), if_neg (show ¬ (((9 : Nat) : Int) = 3) from by decide), if_neg (show ¬ (((9 : Nat) : Int) = 4) from by decide), if_neg (show ¬ (((9 : Nat) : Int) = 5) from by decide), if_neg (show ¬ (((9 : Nat) : Int) = 6) from by decide), if_neg (show ¬ (((9 : Nat) : Int) = 7) from by decide), if_neg (show ¬ (((9 : Nat) : Int) = 8) from by decide), if_pos (show ((9 : Nat) : Int) = 9 from rfl)]
    simp only [s11, bcall_some]
    exact gch h (Z_lift t hh t4 _ _) (fun τ hC => (Q_lift hC _ _).co)
  · rw [if_neg (show ¬ (((10 : Nat) : Int) < 0 ∨ 14 < ((10 : Nat) : Int)) from by decide), if_neg (show ¬ (((10 : Nat) : Int) = 0) from by decide), if_neg (show ¬ (((10 : Nat) : Int) = 1) from by decide), if_neg (show ¬ (((10 : Nat) : Int) = 2) from by decide), if_neg (show ¬ (((10 : Nat) : Int) = 3) from by decide), if_neg (show ¬ (((10 : Nat) : Int) = 4) from by decide), if_neg (show ¬ (((10 : Nat) : Int) = 5) from by decide), if_neg (show ¬ (((10 : Nat) : Int) = 6) from by decide), if_neg (show ¬ (((10 : Nat) : Int) = 7) from by decide), if_neg (show ¬ (((10 : Nat) : Int) = 8) from by decide), if_neg (show ¬ (((10 : Nat) : Int) = 9) from by decide), if_pos (show ((10 : Nat) : Int) = 10 from rfl)]
    simp only [s12, bcall_some]
    exact gch h (Z_signal t hh t4 _) (fun τ hC => (Q_signal hC _).co)
  · rw [if_neg (show ¬ (((11 : Nat) : Int) < 0 ∨ 14 < ((11 : Nat) : Int)) from by decide), if_neg (show ¬ (((11 : Nat) : Int) = 0) from by decide), if_neg (show ¬ (((11 : Nat) : Int) = 1) from by decide), if_neg (show ¬ (((11 : Nat) : Int) = 2) from by decide), if_neg (show ¬ (((11 : Nat) : Int) = 3) from by decide), if_neg (show ¬ (((11 : Nat) : Int) = 4) from by decide), if_neg (show ¬ (((11 : Nat) : Int) = 5) from by decide), if_neg (show ¬ (((11 : Nat) : Int) = 6) from by decide), if_neg (show ¬ (((11 : Nat) : Int) = 7) from by decide), if_neg (show ¬ (((11 : Nat) : Int) = 8) from by decide), if_neg (show ¬ (((11 : Nat) : Int) = 9) from by decide), if_neg (show ¬ (((11 : Nat) : Int) = 10) from by decide), if_pos (show ((11 : Nat) : Int) = 11 from rfl)]
    simp only [s11, bcall_some]
    exact gch h (Z_inspector t hh t4 _) (fun τ hC => (Q_inspector hC _).co)
  · rw [if_neg (show ¬ (((12 : Nat) : Int) < 0 ∨ 14 < ((12 : Nat) : Int)) from by decide), if_neg (show ¬ (((12 : Nat) : Int) = 0) from by decide), if_neg (show ¬ (((12 : Nat) : Int) = 1) from by decide), if_neg (show ¬ (((12 : Nat) : Int) = 2) from by decide), if_neg (show ¬ (((12 : Nat) : Int) = 3) from by decide), if_neg (show ¬ (((12 : Nat) : Int) = 4) from by decide), if_neg (show ¬ (((12 : Nat) : Int) = 5) from by decide), if_neg (show ¬ (((12 : Nat) : Int) = 6) from by decide), if_neg (show ¬ (((12 : Nat) : Int) = 7) from by decide), if_neg (show ¬ (((12 : Nat) : Int) = 8) from by decide), if_neg (show ¬ (((12 : Nat) : Int) = 9) from by decide), if_neg (show ¬ (((12 : Nat) : Int) = 10) from by decide), if_neg (show ¬ (((12 : Nat) : Int) = 11) from by decide), if_pos (show ((12 : Nat) : Int) = 12 from rfl)]
    simp only [s3, bcall_some]
    exact gch h (Z_inspect t hh t4 _ _) (fun τ hC => (Q_inspect hC _ _).co)
  · rw [if_neg (show ¬ (((13 : Nat) : Int) < 0 ∨ 14 < ((13 : Nat) : Int)) from by decide), if_neg (show ¬ (((13 : Nat) : Int) = 0) from by decide), if_neg (show ¬ (((13 : Nat) : Int) = 1) from by decide), if_neg (show ¬ (((13 : Nat) : Int) = 2) from by decide), if_neg (show ¬ (((13 : Nat) : Int) = 3) from by decide), if_neg (show ¬ (((13 : Nat) : Int) = 4) from by decide), if_neg (show ¬ (((13 : Nat) : Int) = 5) from by decide), if_neg (show ¬ (((13 : Nat) : Int) = 6) from by decide), if_neg (show ¬ (((13 : Nat) : Int) = 7) from by decide), if_neg (show ¬ (((13 : Nat) : Int) = 8) from by decide), if_neg (show ¬ (((13 : Nat) : Int) = 9) from by decide), if_neg (show ¬ (((13 : Nat) : Int) = 10) from by decide), if_neg (show ¬ (((13 : Nat) : Int) = 11) from by decide), if_neg (show ¬ (((13 : Nat) : Int) = 12) from by decide), if_pos (show ((13 : Nat) : Int) = 13 from rfl)]
    simp only [s32, bcall_some]
    exact gch h (Z_day t hh t4 _) (fun τ hC => (Q_day hC _).co)
  · rw [if_neg (show ¬ (((14 : Nat) : Int) < 0 ∨ 14 < ((14 : Nat) : Int)) from by decide), if_neg (show ¬ (((14 : Nat) : Int) = 0) from by decide), if_neg (show ¬ (((14 : Nat) : Int) = 1) from by decide), if_neg (show ¬ (((14 : Nat) : Int) = 2) from by decide), if_neg (show ¬ (((14 : Nat) : Int) = 3) from by decide), if_neg (show ¬ (((14 : Nat) : Int) = 4) from by decide), if_neg (show ¬ (((14 : Nat) : Int) = 5) from by decide), if_neg (show ¬ (((14 : Nat) : Int) = 6) from by decide), if_neg (show ¬ (((14 : Nat) : Int) = 7) from by decide), if_neg (show ¬ (((14 : Nat) : Int) = 8) from by decide), if_neg (show ¬ (((14 : Nat) : Int) = 9) from by decide), if_neg (show ¬ (((14 : Nat) : Int) = 10) from by decide), if_neg (show ¬ (((14 : Nat) : Int) = 11) from by decide), if_neg (show ¬ (((14 : Nat) : Int) = 12) from by decide), if_neg (show ¬ (((14 : Nat) : Int) = 13) from by decide), if_pos (show ((14 : Nat) : Int) = 14 from rfl)]
    simp only [s32, bcall_some]
    exact gch h (Z_day t hh t4 _) (fun τ hC => (Q_day hC _).co)
  · rw [if_pos (show (((15 : Nat) : Int) < 0 ∨ 14 < ((15 : Nat) : Int)) from by decide)]
    exact dch h x
