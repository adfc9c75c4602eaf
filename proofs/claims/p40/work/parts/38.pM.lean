/-- a change whose answer is known -/
theorem Cs.chgv {σ : St} {r : Nat → Int32} {u nx n : Nat} {L : Nat → Nat → Int32} {sv : Option (Nat → Int32)} {ft : Int32} {x y : Option (St × Int32)} (h : Cs σ r u nx L sv n ft) (hz : PC u nx σ (tz r) x y) (hq : ∀ τ, Co σ τ → ∃ σ1 v τ1, x = some (σ1, v) ∧ Co σ1 τ1) {τ0 : St} {v0 : Int32} (h0 : 0 ≤ v0) (hv : y = some (τ0, v0)) : ∃ σ1, x = some (σ1, v0) ∧ Cs σ1 (τ0 249) (min (u + 1) 8) ((nx + 1) % 9) (psh r L) sv n ft := by
  obtain ⟨σ1, τz, v, e1, e2, hh⟩ := h.chg hz hq
  rw [hv] at e2
  obtain ⟨rfl, rfl⟩ := Prod.mk.injEq _ _ _ _ ▸ Option.some.inj e2
  rcases hh with ⟨q, -⟩ | ⟨-, hc⟩
  · exact absurd q (Int32.not_lt.mpr h0)
  · exact ⟨σ1, e1, hc⟩
def Cw (σ : St) (r : Nat → Int32) : Prop := ∃ u nx L, Cs σ r u nx L none 0 (-4)
theorem D_bundle {r : Nat → Int32} {j : Nat} (hj : j < 8) (e2 : r 2 = Int32.ofNat j) {p q : Int32} (hp : (1 : Int32) ≤ p ∧ p ≤ 30) (hq : (0 : Int32) ≤ q ∧ q ≤ 60) : ∃ τz, M_X11_bundle (tz r) 248 p q = some (τz, Int32.ofNat j) ∧ τz 249 2 = Int32.ofNat (j + 1) ∧ τz 249 (14 + 2 * j) = p ∧ ∀ i, i ≠ 2 → i ≠ 14 + 2 * j → i ≠ 14 + 2 * j + 1 → τz 249 i = r i := by
  obtain ⟨τ1, t1, t2, -⟩ := tries_ex (tz r)
  have e : τ1 249 = r := by rw [t2 249 (by decide), tz_now]
  have k4 : τ1 248 4 = 0 := by rw [t2 248 (by decide)]; exact tz4 r
  have ni1 : ¬ ((1 : Int32) = 0) := by decide
  have c2 : τ1 249 2 = Int32.ofNat j := by rw [e]; exact e2
  obtain ⟨τ2, hk, k1, -, -⟩ := keeps_ez (τ := u2 (u2 (u2 τ1 249 2 (Int32.ofNat (j + 1))) 249 (14 + 2 * j) p) 249 (14 + 2 * j + 1) q) (Int32.ofNat j) (by rw [u2_ne (by decide), u2_ne (by decide), u2_ne (by decide)]; exact k4)
  refine ⟨τ2, ?_, ?_, ?_, ?_⟩
  · unfold M_X11_bundle
    rw [bcall_of t1, bcall_of (in_yes τ1 hp), if_neg ni1, bcall_of (in_yes τ1 hq), if_neg ni1]
    simp (disch := omega) only [x_ldl, c2, oN_eqFl, ↓reduceIte, oN_al, oN_lm, oN_la, x_stl, x_stt]
    rw [bcall_of hk]
  · rw [k1, u2_same (by omega), u2_same (by omega), u2_self]
  · rw [k1, u2_same (by omega), u2_self]
  · intro i a b c
    rw [k1, u2_same c, u2_same b, u2_same a, e]
theorem D_strips {r : Nat → Int32} {t p : Nat} (ht : t ≤ 200) (e6 : r 6 = Int32.ofNat t) (hp : 1 ≤ p ∧ p ≤ 99) : ∃ τz, M_X11_strips (tz r) 248 (Int32.ofNat p) = some (τz, Int32.ofNat (min 200 (t + p))) ∧ τz 249 6 = Int32.ofNat (min 200 (t + p)) ∧ ∀ i, i ≠ 6 → τz 249 i = r i := by
  obtain ⟨τ1, t1, t2, -⟩ := tries_ex (tz r)
  have e : τ1 249 = r := by rw [t2 249 (by decide), tz_now]
  have k4 : τ1 248 4 = 0 := by rw [t2 248 (by decide)]; exact tz4 r
  have ni1 : ¬ ((1 : Int32) = 0) := by decide
  have c6 : τ1 249 6 = Int32.ofNat t := by rw [e]; exact e6
  obtain ⟨τ2, hk, k1, -, -⟩ := keeps_ez (τ := u2 τ1 249 6 (Int32.ofNat (min 200 (t + p)))) (Int32.ofNat (min 200 (t + p))) (by rw [u2_ne (by decide)]; exact k4)
  refine ⟨τ2, ?_, ?_, ?_⟩
  · unfold M_X11_strips
    have hin : (1 : Int32) ≤ Int32.ofNat p ∧ Int32.ofNat p ≤ 99 := ⟨(ol (a := 1) (by omega) (by omega)).mpr hp.1, (ol (j := 99) (by omega) (by omega)).mpr hp.2⟩
    rw [bcall_of t1, bcall_of (in_yes τ1 hin), if_neg ni1]
    have im : imin (200 : Int32) (Int32.ofNat (t + p)) = Int32.ofNat (min 200 (t + p)) := imin_nat (a := 200) (by omega) (by omega)
    simp (disch := omega) only [x_ldl, c6, oN_add, im, blet_eq, x_stl, u2_self]
    rw [bcall_of hk]
  · rw [k1, u2_self]
  · intro i a
    rw [k1, u2_same a, e]
theorem D_crew {r : Nat → Int32} {j : Nat} (hj : j < 5) (e4 : r 4 = Int32.ofNat j) {p : Int32} (hp : (1 : Int32) ≤ p ∧ p ≤ 4) : ∃ τz, M_X11_crew (tz r) 248 p = some (τz, Int32.ofNat j) ∧ τz 249 4 = Int32.ofNat (j + 1) ∧ τz 249 (90 + 3 * j + 1) = 0 ∧ ∀ i, i ≠ 4 → (i < 90 + 3 * j ∨ 90 + 3 * j + 2 < i) → τz 249 i = r i := by
  obtain ⟨τ1, t1, t2, -⟩ := tries_ex (tz r)
  have e : τ1 249 = r := by rw [t2 249 (by decide), tz_now]
  have k4 : τ1 248 4 = 0 := by rw [t2 248 (by decide)]; exact tz4 r
  have ni1 : ¬ ((1 : Int32) = 0) := by decide
  have c4 : τ1 249 4 = Int32.ofNat j := by rw [e]; exact e4
  obtain ⟨τ2, hk, k1, -, -⟩ := keeps_ez (τ := u2 (u2 (u2 (u2 τ1 249 4 (Int32.ofNat (j + 1))) 249 (90 + 3 * j) p) 249 (90 + 3 * j + 1) 0) 249 (90 + 3 * j + 2) 0) (Int32.ofNat j) (by rw [u2_ne (by decide), u2_ne (by decide), u2_ne (by decide), u2_ne (by decide)]; exact k4)
  refine ⟨τ2, ?_, ?_, ?_, ?_⟩
  · unfold M_X11_crew
    rw [bcall_of t1, bcall_of (in_yes τ1 hp), if_neg ni1]
    simp (disch := omega) only [x_ldl, c4, oN_eqFl, ↓reduceIte, oN_al, oN_lm, oN_la, x_stl, x_stt]
    rw [bcall_of hk]
  · rw [k1, u2_same (by omega), u2_same (by omega), u2_same (by omega), u2_self]
  · rw [k1, u2_same (by omega), u2_self]
  · intro i a b
    rw [k1, u2_same (by omega), u2_same (by omega), u2_same (by omega), u2_same a, e]
theorem D_inspector {r : Nat → Int32} {j : Nat} (hj : j < 3) (e5 : r 5 = Int32.ofNat j) {p : Int32} (hp : (1 : Int32) ≤ p ∧ p ≤ 9) : ∃ τz, M_X11_inspector (tz r) 248 p = some (τz, Int32.ofNat j) ∧ τz 249 5 = Int32.ofNat (j + 1) ∧ ∀ i, i ≠ 5 → (i < 105 + 2 * j ∨ 105 + 2 * j + 1 < i) → τz 249 i = r i := by
  obtain ⟨τ1, t1, t2, -⟩ := tries_ex (tz r)
  have e : τ1 249 = r := by rw [t2 249 (by decide), tz_now]
  have k4 : τ1 248 4 = 0 := by rw [t2 248 (by decide)]; exact tz4 r
  have ni1 : ¬ ((1 : Int32) = 0) := by decide
  have c5 : τ1 249 5 = Int32.ofNat j := by rw [e]; exact e5
  obtain ⟨τ2, hk, k1, -, -⟩ := keeps_ez (τ := u2 (u2 (u2 τ1 249 5 (Int32.ofNat (j + 1))) 249 (105 + 2 * j) p) 249 (105 + 2 * j + 1) 0) (Int32.ofNat j) (by rw [u2_ne (by decide), u2_ne (by decide), u2_ne (by decide)]; exact k4)
  refine ⟨τ2, ?_, ?_, ?_⟩
  · unfold M_X11_inspector
    rw [bcall_of t1, bcall_of (in_yes τ1 hp), if_neg ni1]
    simp (disch := omega) only [x_ldl, c5, oN_eqFl, ↓reduceIte, oN_al, oN_lm, oN_la, x_stl, x_stt]
    rw [bcall_of hk]
  · rw [k1, u2_same (by omega), u2_same (by omega), u2_self]
  · intro i a b
    rw [k1, u2_same (by omega), u2_same (by omega), u2_same a, e]
theorem isBundle_y {τ : St} {n b : Nat} (hn : n < 1000) (hb : b < n) (e : τ 249 2 = Int32.ofNat n) : M_X11_isBundle τ 248 (Int32.ofNat b) = some (τ, 1) := by
  have x0 : ∀ (K : Int32 → Option (St × Int32)), bald τ (248 + 1) 2 K = K (τ 249 2) := fun K => x_ldl (by decide)
  unfold M_X11_isBundle
  rw [x0, e, x_in hn, if_neg (fun q => (oN_nn (a := b) (by omega)).mp q), if_neg (fun q => by have := (ol (by omega) (by omega)).mp q; omega), bcall_some]
  rfl
theorem isStorey_y {τ : St} {n b : Nat} (hn : n < 1000) (hb : b < n) (e : τ 249 3 = Int32.ofNat n) : M_X11_isStorey τ 248 (Int32.ofNat b) = some (τ, 1) := by
  have x0 : ∀ (K : Int32 → Option (St × Int32)), bald τ (248 + 1) 3 K = K (τ 249 3) := fun K => x_ldl (by decide)
  unfold M_X11_isStorey
  rw [x0, e, x_in hn, if_neg (fun q => (oN_nn (a := b) (by omega)).mp q), if_neg (fun q => by have := (ol (by omega) (by omega)).mp q; omega), bcall_some]
  rfl
theorem isCrew_y {τ : St} {n b : Nat} (hn : n < 1000) (hb : b < n) (e : τ 249 4 = Int32.ofNat n) : M_X11_isCrew τ 248 (Int32.ofNat b) = some (τ, 1) := by
  have x0 : ∀ (K : Int32 → Option (St × Int32)), bald τ (248 + 1) 4 K = K (τ 249 4) := fun K => x_ldl (by decide)
  unfold M_X11_isCrew
  rw [x0, e, x_in hn, if_neg (fun q => (oN_nn (a := b) (by omega)).mp q), if_neg (fun q => by have := (ol (by omega) (by omega)).mp q; omega), bcall_some]
  rfl
theorem D_build {r : Nat → Int32} {nb s b g t p w : Nat} (hb8 : b < 8) (hnb : nb ≤ 8) (hb : b < nb) (hs : s < 10) (e1 : r 1 = 0) (e2 : r 2 = Int32.ofNat nb) (e3 : r 3 = Int32.ofNat s) (hg : g < 100) (eg : r (14 + 2 * b) = Int32.ofNat g) (ht : t ≤ 200) (e6 : r 6 = Int32.ofNat t) (hp : 4 ≤ p ∧ p ≤ 8) (hpg : p ≤ g) (hpt : 2 * p ≤ t) (hw : w ≤ 40) : ∃ τz, M_X11_build (tz r) 248 (Int32.ofNat b) (Int32.ofNat p) (Int32.ofNat w) = some (τz, Int32.ofNat s) ∧ τz 249 3 = Int32.ofNat (s + 1) ∧ τz 249 (14 + 2 * b) = Int32.ofNat (g - p) ∧ τz 249 6 = Int32.ofNat (t - 2 * p) ∧ τz 249 (30 + 6 * s + 2) = 0 ∧ τz 249 (30 + 6 * s + 5) = 0 ∧ ∀ i, i ≠ 3 → i ≠ 6 → i ≠ 12 → i ≠ 14 + 2 * b → (i < 30 + 6 * s ∨ 30 + 6 * s + 5 < i) → τz 249 i = r i := by
  obtain ⟨τ1, t1, t2, -⟩ := tries_ex (tz r)
  have e : τ1 249 = r := by rw [t2 249 (by decide), tz_now]
  have k4 : τ1 248 4 = 0 := by rw [t2 248 (by decide)]; exact tz4 r
  have ni1 : ¬ ((1 : Int32) = 0) := by decide
  have c1 : τ1 249 1 = 0 := by rw [e]; exact e1
  have c2 : τ1 249 2 = Int32.ofNat nb := by rw [e]; exact e2
  have c3 : τ1 249 3 = Int32.ofNat s := by rw [e]; exact e3
  have c6 : τ1 249 6 = Int32.ofNat t := by rw [e]; exact e6
  have cg : τ1 249 (14 + 2 * b) = Int32.ofNat g := by rw [e]; exact eg
  have h4 : (4 : Int32) ≤ Int32.ofNat p ∧ Int32.ofNat p ≤ 8 := ⟨(ol (a := 4) (by omega) (by omega)).mpr hp.1, (ol (j := 8) (by omega) (by omega)).mpr hp.2⟩
  have h40 : (0 : Int32) ≤ Int32.ofNat w ∧ Int32.ofNat w ≤ 40 := ⟨(ol (a := 0) (by omega) (by omega)).mpr (by omega), (ol (j := 40) (by omega) (by omega)).mpr hw⟩
  obtain ⟨τa, hτa⟩ : ∃ s1, s1 = u2 (u2 (u2 (u2 τ1 249 (14 + 2 * b) (Int32.ofNat (g - p))) 249 6 (Int32.ofNat (t - 2 * p))) 249 12 (τ1 249 12 + Int32.ofNat w)) 249 3 (Int32.ofNat (s + 1)) := ⟨_, rfl⟩
  have hbl := bl_all τa (Int32.ofNat p) (Int32.ofNat w) (s := s) (j := b) hs hb8
  obtain ⟨τb, hτb⟩ : ∃ s1, s1 = u2 (u2 (u2 (z6 τa s) 249 (30 + 6 * s + 0) (Int32.ofNat p)) 249 (30 + 6 * s + 1) (τa 249 (14 + 2 * b + 1))) 249 (30 + 6 * s + 3) (Int32.ofNat w) := ⟨_, rfl⟩
  rw [← hτb] at hbl
  have k4b : (u2 τb 248 17 (Int32.ofNat s)) 248 4 = 0 := by
    rw [u2_same (by decide), hτb, hτa]
    unfold z6
    simp (disch := omega) only [u2_ne]
    exact k4
  obtain ⟨τ2, hk, k1, -, -⟩ := keeps_ez (τ := u2 τb 248 17 (Int32.ofNat s)) (Int32.ofNat s) k4b
  have kb : τ2 249 = τb 249 := by rw [k1, u2_ne (by decide)]
  refine ⟨τ2, ?_, ?_, ?_, ?_, ?_, ?_, ?_⟩
  · have hB : M_X11_builds τ1 248 (Int32.ofNat b) (Int32.ofNat p) (Int32.ofNat w) = some (u2 τb 248 17 (Int32.ofNat s), 0) := by
      unfold M_X11_builds
      rw [bcall_of (isBundle_y (by omega) hb c2), if_neg ni1, bcall_of (in_yes τ1 h4), if_neg ni1, bcall_of (in_yes τ1 h40), if_neg ni1]
      simp (disch := omega) only [x_ldl, c3, c1, oN_eqFl, ↓reduceIte, oN_lm, oN_la, x_ld, cg, c6, oN_leT, u2_same, oN_sub, x_stt, x_stl, oN_al, u2_self]
      rw [if_pos (show (0 : Int32) < 3 from by decide)]
      rw [← hτa]
      exact hbl
    unfold M_X11_build
    rw [bcall_of t1, bcall_of hB]
    unfold M_X11_ends
    rw [if_pos rfl, u2_self, bcall_of hk, bcall_some]
  · rw [kb, hτb, hτa]
    unfold z6
    simp (disch := omega) only [u2_same, u2_self]
  · rw [kb, hτb, hτa]
    unfold z6
    simp (disch := omega) only [u2_same, u2_self]
  · rw [kb, hτb, hτa]
    unfold z6
    simp (disch := omega) only [u2_same, u2_self]
  · rw [kb, hτb, hτa]
    unfold z6
    simp (disch := omega) only [u2_same, u2_self]
  · rw [kb, hτb, hτa]
    unfold z6
    simp (disch := omega) only [u2_same, u2_self]
  · intro i a1 a2 a3 a4 a5
    rw [kb, hτb, hτa]
    unfold z6
    simp (disch := omega) only [u2_same, e]
