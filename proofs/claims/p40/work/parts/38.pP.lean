theorem l166 (A : Nat) (xs : Nat → Int32) {ns : Nat} (hn : ns ≤ 10) : ∀ (d j n : Nat) (σ : St) (r : Nat → Int32), j + d = 2 → d < n → Cw σ r → MX ns 4 j r → ∃ σ1 r1, B_L_makes_166 n σ 0 (A, xs) (Int32.ofNat j) = some (σ1, 1) ∧ Cw σ1 r1 ∧ MX ns 4 2 r1 := by
  intro d
  induction d with
  | zero =>
    intro j n σ r hj hn hC hM
    obtain ⟨n, rfl⟩ : ∃ k, n = k + 1 := ⟨n - 1, by omega⟩
    obtain rfl : j = 2 := by omega
    simp only [B_L_makes_166]
    rw [if_pos (by decide)]
    exact ⟨σ, r, rfl, hC, hM⟩
  | succ d ih =>
    intro j n σ r hj hn hC hM
    obtain ⟨n, rfl⟩ : ∃ k, n = k + 1 := ⟨n - 1, by omega⟩
    obtain ⟨v, hv⟩ := at_ok A xs (i := 16 + j) (by omega)
    have sm : M_L_some σ v 9 = some (σ, Int32.ofNat (smN v 9)) := some_eq σ v (n := 9) (by decide) (by decide)
    have hs := smN_lt v (n := 9) (by decide)
    obtain ⟨σ1, r1, e1, c1, m1⟩ := mk_inspector (a := smN v 9) hC (by omega) (by omega) hM hs
    simp only [B_L_makes_166]
    rw [if_neg (show ¬ (2 : Int32) ≤ Int32.ofNat j from fun q => by have := (ol (a := 2) (by omega) (by omega)).mp q; omega), oN_la, bcall_of (hv σ), bcall_of sm, oN_la, bcall_of e1, if_pos rfl, blet_eq, oN_al]
    exact ih (j + 1) n σ1 r1 (by omega) (by omega) c1 m1
theorem l129 (A : Nat) (xs : Nat → Int32) {ns : Nat} (hn : ns ≤ 10) : ∀ (d j n : Nat) (σ : St) (r : Nat → Int32), j + d = 4 → d < n → Cw σ r → MX ns j 0 r → ∃ σ1 r1, B_L_makes_129 n σ 0 (A, xs) (Int32.ofNat j) = some (σ1, 1) ∧ Cw σ1 r1 ∧ MX ns 4 2 r1 := by
  intro d
  induction d with
  | zero =>
    intro j n σ r hj hn2 hC hM
    obtain ⟨n, rfl⟩ : ∃ k, n = k + 1 := ⟨n - 1, by omega⟩
    obtain rfl : j = 4 := by omega
    simp only [B_L_makes_129]
    rw [if_pos (by decide)]
    exact l166 A xs hn 2 0 FU σ r (by omega) (FU_lt (by decide)) hC hM
  | succ d ih =>
    intro j n σ r hj hn2 hC hM
    obtain ⟨n, rfl⟩ : ∃ k, n = k + 1 := ⟨n - 1, by omega⟩
    obtain ⟨v, hv⟩ := at_ok A xs (i := 12 + j) (by omega)
    have sm : M_L_some σ v 4 = some (σ, Int32.ofNat (smN v 4)) := some_eq σ v (n := 4) (by decide) (by decide)
    have hs := smN_lt v (n := 4) (by decide)
    obtain ⟨σ1, r1, e1, c1, m1⟩ := mk_crew (a := smN v 4) hC (by omega) (by omega) hM hs
    simp only [B_L_makes_129]
    rw [if_neg (show ¬ (4 : Int32) ≤ Int32.ofNat j from fun q => by have := (ol (a := 4) (by omega) (by omega)).mp q; omega), oN_la, bcall_of (hv σ), bcall_of sm, oN_la, bcall_of e1, if_pos rfl, blet_eq, oN_al]
    exact ih (j + 1) n σ1 r1 (by omega) (by omega) c1 m1
theorem mod4 : ∀ s, s < 5 → Int32.ofNat s - Int32.ofNat s / 4 * 4 = Int32.ofNat (s % 4) := by decide +kernel
theorem l76 (A : Nat) (xs : Nat → Int32) {ns : Nat} (h2 : ns ≤ 5) : ∀ (d j n : Nat) (σ : St) (r : Nat → Int32), j + d = ns → d < n → Cw σ r → MX j 0 0 r → MP j r → ∃ σ1 r1, B_L_makes_76 n σ 0 (A, xs) (Int32.ofNat ns) (Int32.ofNat j) = some (σ1, 1) ∧ Cw σ1 r1 ∧ MX ns 4 2 r1 := by
  intro d
  induction d with
  | zero =>
    intro j n σ r hj hn2 hC hM hP
    obtain ⟨n, rfl⟩ : ∃ k, n = k + 1 := ⟨n - 1, by omega⟩
    obtain rfl : j = ns := by omega
    simp only [B_L_makes_76]
    rw [if_pos (Int32.le_refl _)]
    exact l129 A xs (by omega) 4 0 FU σ r (by omega) (FU_lt (by decide)) hC hM
  | succ d ih =>
    intro j n σ r hj hn2 hC hM hP
    obtain ⟨n, rfl⟩ : ∃ k, n = k + 1 := ⟨n - 1, by omega⟩
    obtain ⟨v, hv⟩ := at_ok A xs (i := 5 + j) (by omega)
    have sm : M_L_some σ v 3 = some (σ, Int32.ofNat (smN v 3)) := some_eq σ v (n := 3) (by decide) (by decide)
    have hs := smN_lt v (n := 3) (by decide)
    have sm2 : M_L_some σ (v >>> ((3 : Int32) &&& 31)) 41 = some (σ, Int32.ofNat (smN (v >>> ((3 : Int32) &&& 31)) 41)) := some_eq σ _ (n := 41) (by decide) (by decide)
    have hs2 := smN_lt (v >>> ((3 : Int32) &&& 31)) (n := 41) (by decide)
    obtain ⟨σ1, r1, e1, c1, m1, p1⟩ := mk_build (s := j) (a := smN v 3) (w := smN (v >>> ((3 : Int32) &&& 31)) 41) hC (by omega) hM hP hs hs2
    simp only [B_L_makes_76]
    rw [if_neg (fun q => by have := (ol (by omega) (by omega)).mp q; omega), oN_la, bcall_of (hv σ), bcall_of sm, bcall_of (hv σ), bcall_of sm2, mod4 j (by omega), oN_la, bcall_of e1, if_pos rfl, blet_eq, oN_al]
    exact ih (j + 1) n σ1 r1 (by omega) (by omega) c1 m1 p1
theorem l2 (A : Nat) (xs : Nat → Int32) : ∀ (d j n : Nat) (σ : St) (r : Nat → Int32), j + d = 4 → d < n → Cw σ r → MB j r → ∃ σ1 r1 ns, B_L_makes_2 n σ 0 (A, xs) (Int32.ofNat j) = some (σ1, 1) ∧ Cw σ1 r1 ∧ MX ns 4 2 r1 ∧ 2 ≤ ns ∧ ns ≤ 5 := by
  intro d
  induction d with
  | zero =>
    intro j n σ r hj hn2 hC hM
    obtain ⟨n, rfl⟩ : ∃ k, n = k + 1 := ⟨n - 1, by omega⟩
    obtain rfl : j = 4 := by omega
    obtain ⟨σ1, r1, e1, c1, m1, p1⟩ := mk_strips hC hM
    obtain ⟨v, hv⟩ := at_ok A xs (i := 4) (by decide)
    have hv1 : M_L_at σ1 (A, xs) 4 = some (σ1, v) := hv σ1
    have sm : M_L_some σ1 v 4 = some (σ1, Int32.ofNat (smN v 4)) := some_eq σ1 v (n := 4) (by decide) (by decide)
    have hs := smN_lt v (n := 4) (by decide)
    obtain ⟨σ2, r2, e2, c2, m2⟩ := l76 A xs (ns := 2 + smN v 4) (by omega) (2 + smN v 4) 0 FU σ1 r1 (by omega) (FU_lt (by omega)) c1 m1 p1
    refine ⟨σ2, r2, 2 + smN v 4, ?_, c2, m2, by omega, by omega⟩
    simp only [B_L_makes_2]
    rw [if_pos (by decide), bcall_of e1, if_pos rfl, bcall_of hv1, bcall_of sm, blet_eq, oN_la]
    exact e2
  | succ d ih =>
    intro j n σ r hj hn2 hC hM
    obtain ⟨n, rfl⟩ : ∃ k, n = k + 1 := ⟨n - 1, by omega⟩
    obtain ⟨v, hv⟩ := at_ok A xs (i := j) (by omega)
    have sm : M_L_some σ v 19 = some (σ, Int32.ofNat (smN v 19)) := some_eq σ v (n := 19) (by decide) (by decide)
    have hs := smN_lt v (n := 19) (by decide)
    have sm2 : M_L_some σ (v >>> ((5 : Int32) &&& 31)) 61 = some (σ, Int32.ofNat (smN (v >>> ((5 : Int32) &&& 31)) 61)) := some_eq σ _ (n := 61) (by decide) (by decide)
    have hs2 := smN_lt (v >>> ((5 : Int32) &&& 31)) (n := 61) (by decide)
    obtain ⟨σ1, r1, e1, c1, m1⟩ := mk_bundle (a := smN v 19) (w := smN (v >>> ((5 : Int32) &&& 31)) 61) hC (by omega) hM hs hs2
    simp only [B_L_makes_2]
    rw [if_neg (show ¬ (4 : Int32) ≤ Int32.ofNat j from fun q => by have := (ol (a := 4) (by omega) (by omega)).mp q; omega), bcall_of (hv σ), bcall_of sm, bcall_of (hv σ), bcall_of sm2, oN_la, bcall_of e1, if_pos rfl, blet_eq, oN_al]
    exact ih (j + 1) n σ1 r1 (by omega) (by omega) c1 m1
theorem makes_ok (A : Nat) (xs : Nat → Int32) {σ : St} (h : Cw σ bareR) : ∃ σ1 r1 ns, M_L_makes σ 0 (A, xs) = some (σ1, 1) ∧ Cw σ1 r1 ∧ MX ns 4 2 r1 ∧ 2 ≤ ns ∧ ns ≤ 5 := by
  unfold M_L_makes
  exact l2 A xs 4 0 FU σ bareR (by omega) (FU_lt (by decide)) h ⟨rfl, rfl, rfl, rfl, rfl, rfl, fun b hb => by omega⟩
