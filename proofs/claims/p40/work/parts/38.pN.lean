theorem bald_inv {α : Type} {σ : St} {k : Nat} {i : Int32} {K : Int32 → Option α} {z : α} (h : bald σ k i K = some z) : ∃ q, K q = some z := by
  unfold bald at h
  split at h
  · exact ⟨_, h⟩
  · exact absurd h (by simp)
theorem bcall_inv {α β : Type} {o : Option (St × β)} {K : St → β → Option α} {z : α} (h : bcall o K = some z) : ∃ σ v, o = some (σ, v) ∧ K σ v = some z := by
  cases o with
  | none => exact absurd h (by simp [bcall])
  | some q => exact ⟨q.1, q.2, rfl, h⟩
theorem where_same {σ σ1 : St} {k : Nat} {x v : Int32} (h : M_X11_where σ k x = some (σ1, v)) : σ1 = σ := by
  unfold M_X11_where at h
  obtain ⟨q, h⟩ := bald_inv h
  exact (congrArg Prod.fst (Option.some.inj h)).symm
theorem con_same : ∀ (n : Nat) (σ : St) (k : Nat) (x1 x2 x3 : Int32) (σ1 : St) (v : Int32), B_X11_crewsOn_4 n σ k x1 x2 x3 = some (σ1, v) → σ1 = σ := by
  intro n
  induction n with
  | zero => intro σ k x1 x2 x3 σ1 v h; exact absurd h (by simp [B_X11_crewsOn_4])
  | succ n ih =>
    intro σ k x1 x2 x3 σ1 v h
    simp only [B_X11_crewsOn_4] at h
    have hq := bald_inv h
    clear h
    obtain ⟨q, h⟩ := hq
    by_cases c : q ≤ x3
    · rw [if_pos c] at h
      exact (congrArg Prod.fst (Option.some.inj h)).symm
    · rw [if_neg c] at h
      have hq := bcall_inv h
      clear h
      obtain ⟨σ2, r3, e, h⟩ := hq
      have := where_same e
      subst this
      by_cases c2 : r3 = x1
      · rw [if_pos c2] at h
        exact ih _ _ _ _ _ _ _ h
      · rw [if_neg c2] at h
        exact ih _ _ _ _ _ _ _ h
theorem old_none {τ : St} {s : Nat} (hs : s < 10) (h : ∀ j, j ≤ s → τ 249 (30 + 6 * j + 2) = 0) : ∀ (d j n : Nat), j + d = s + 1 → d < n → B_X11_oldUpTo_2 n τ 248 (Int32.ofNat s) (Int32.ofNat j) = some (τ, -1) := by
  intro d
  induction d with
  | zero =>
    intro j n hj hn
    obtain ⟨n, rfl⟩ : ∃ k, n = k + 1 := ⟨n - 1, by omega⟩
    simp only [B_X11_oldUpTo_2]
    rw [if_pos ((onl (by omega) (by omega)).mpr (by omega))]
  | succ d ih =>
    intro j n hj hn
    obtain ⟨n, rfl⟩ : ∃ k, n = k + 1 := ⟨n - 1, by omega⟩
    simp only [B_X11_oldUpTo_2]
    rw [if_neg (fun q => by have := (onl (by omega) (by omega)).mp q; omega), x_ofl (by omega), bcall_some, h j (by omega), if_pos (by decide), blet_eq, oN_al]
    exact ih (j + 1) n (by omega) (by omega)
theorem D_up {σ : St} {r : Nat → Int32} {ns nc s c : Nat} (hS : Sc σ 5 r) (hn : ns ≤ 10) (hs : s < ns) (hnc : nc ≤ 5) (hc : c < nc) (e1 : r 1 = 0) (e3 : r 3 = Int32.ofNat ns) (e4 : r 4 = Int32.ofNat nc) (ec : r (90 + 3 * c + 1) = 0) (ea : ∀ j, j ≤ s → r (30 + 6 * j + 2) = 0) (er : r (30 + 6 * s + 5) = 0) : ∃ τz v, M_X11_up (tz r) 248 (Int32.ofNat c) (Int32.ofNat s) = some (τz, v) ∧ 0 ≤ v ∧ ∀ i, i ≠ 90 + 3 * c + 1 → τz 249 i = r i := by
  obtain ⟨τ1, t1, t2, -⟩ := tries_ex (tz r)
  have e : τ1 249 = r := by rw [t2 249 (by decide), tz_now]
  have k4 : τ1 248 4 = 0 := by rw [t2 248 (by decide)]; exact tz4 r
  have ni1 : ¬ ((1 : Int32) = 0) := by decide
  obtain ⟨nb', ns', nc', ni', rr, ii⟩ := hS
  have O := O_up (σ := σ) (τ := τ1) (by rw [e]; exact rr) (by rw [e]; exact ii) (Int32.ofNat c) (Int32.ofNat s)
  have hw : M_X11_where τ1 248 (Int32.ofNat c) = some (τ1, -1) := by
    rw [x_where (by omega), e, ec]
    rfl
  have ho : M_X11_oldUpTo τ1 248 (Int32.ofNat s) = some (τ1, -1) := by
    unfold M_X11_oldUpTo
    exact old_none (by omega) (fun j hj => by rw [e]; exact ea j hj) (s + 1) 0 FU (by omega) (FU_lt (by omega))
  have hy : ∀ z : St × Int32, M_X11_goesUp τ1 248 (Int32.ofNat c) (Int32.ofNat s) = some z → z.2 = 0 ∧ ∀ i, i ≠ 90 + 3 * c + 1 → z.1 249 i = r i := by
    intro z h
    unfold M_X11_goesUp at h
    rw [bcall_of (isCrew_y (n := nc) (by omega) hc (by rw [e]; exact e4)), if_neg ni1, bcall_of (isStorey_y (n := ns) (by omega) hs (by rw [e]; exact e3)), if_neg ni1, bcall_of hw, if_neg (fun q => by have := congrArg Int32.toInt q; rw [oN_toInt (by omega)] at this; have e9 : (-1 : Int32).toInt = -1 := rfl; omega), x_ldl (by decide), e, e1, if_pos (by decide), bcall_of ho, if_pos (by decide), x_ofl (by omega), bcall_some, e, er, if_pos (by decide), oN_lm, oN_la, oN_al, oN_al, x_stt (by omega)] at h
    obtain ⟨σ2, v2, h2, h⟩ := bcall_inv h
    have h3 := con_same _ _ _ _ _ _ _ _ h2
    subst h3
    rw [bc_eq, bcall_some] at h
    unfold M_X11_does at h
    rw [bput_eq, bcall_some] at h
    have h5 := Option.some.inj h
    subst h5
    refine ⟨rfl, fun i hi => ?_⟩
    show u2 (u2 τ1 249 (90 + 3 * c + 1) (Int32.ofNat (s + 1))) 248 17 (bc v2) 249 i = r i
    rw [u2_ne (by decide), u2_same hi, e]
  unfold M_X11_up
  rw [bcall_of t1]
  rcases O with ⟨v, hv, -, y⟩ | ⟨σ1, τ2, -, y, -⟩ | ⟨σ1, τ2, v, -, y, h0, h17, -, -, hT⟩
  · have := (hy _ y).1
    rcases hv with rfl | rfl
    · exact absurd this (show ¬ ((-1 : Int32) = 0) from by decide)
    · exact absurd this (show ¬ ((-2 : Int32) = 0) from by decide)
  · exact absurd (hy _ y).1 (show ¬ ((-3 : Int32) = 0) from by decide)
  · obtain ⟨τ3, hk, k1, -, -⟩ := keeps_ez (τ := τ2) v (by rw [hT.2 4 (by decide)]; exact k4)
    refine ⟨τ3, v, ?_, h0, fun i hi => by rw [k1]; exact (hy _ y).2 i hi⟩
    rw [bcall_of y]
    unfold M_X11_ends
    rw [if_pos rfl, h17, bcall_of hk, bcall_some]
theorem D_lift {r : Nat → Int32} {ns s p g a : Nat} (hn : ns ≤ 10) (hs : s < ns) (hp : 1 ≤ p ∧ p ≤ 9) (e1 : r 1 = 0) (e3 : r 3 = Int32.ofNat ns) (hg : g ≤ 20) (e7 : r 7 = Int32.ofNat g) (ha : a ≤ 9) (ea : r (30 + 6 * s + 4) = Int32.ofNat a) : ∃ τz v, M_X11_lift (tz r) 248 (Int32.ofNat s) (Int32.ofNat p) = some (τz, v) ∧ (v = -3 ∨ (0 ≤ v ∧ ∀ i, i ≠ 7 → i ≠ 30 + 6 * s + 4 → τz 249 i = r i)) := by
  obtain ⟨τ1, t1, t2, -⟩ := tries_ex (tz r)
  have e : τ1 249 = r := by rw [t2 249 (by decide), tz_now]
  have k4 : τ1 248 4 = 0 := by rw [t2 248 (by decide)]; exact tz4 r
  have ni1 : ¬ ((1 : Int32) = 0) := by decide
  have hin : (1 : Int32) ≤ Int32.ofNat p ∧ Int32.ofNat p ≤ 9 := ⟨(ol (a := 1) (by omega) (by omega)).mpr hp.1, (ol (j := 9) (by omega) (by omega)).mpr hp.2⟩
  have c7 : τ1 249 7 = Int32.ofNat g := by rw [e]; exact e7
  have ca : τ1 249 (30 + 6 * s + 4) = Int32.ofNat a := by rw [e]; exact ea
  have hm : p * (s + 1) ≤ 100 := by
    have := Nat.mul_le_mul (show p ≤ 9 by omega) (show s + 1 ≤ 10 by omega)
    omega
  have mu : Int32.ofNat p * (Int32.ofNat s + 1) = Int32.ofNat (p * (s + 1)) := by rw [oN_al, oN_mul]
  have rf : ∀ (x y : Int32), ∃ τ2, M_X11_refuses τ1 248 x y = some (τ2, -3) := fun x y => by
    obtain ⟨_, τ2, -, h, -⟩ := ref_ex τ1 τ1 x y
    exact ⟨τ2, h⟩
  unfold M_X11_lift M_X11_lifts
  rw [bcall_of t1, bcall_of (isStorey_y (n := ns) (by omega) hs (by rw [e]; exact e3)), if_neg ni1, bcall_of (in_yes τ1 hin), if_neg ni1, x_ldl (by decide), e, e1, if_pos (by decide), x_ofl (by omega), bcall_some, ca, oN_add]
  by_cases c1 : a + p ≤ 9
  · rw [if_pos (show Int32.ofNat (a + p) ≤ 9 from (ol (j := 9) (by omega) (by omega)).mpr c1), blet_eq, mu, x_ldl (by decide), c7]
    by_cases c2 : p * (s + 1) ≤ g
    · rw [if_pos ((ol (by omega) (by omega)).mpr c2), x_ldl (by decide), c7, oN_sub c2, x_stl (by decide), x_ofl (by omega), bcall_some, u2_same (by omega), ca, oN_add, x_setsl (by omega), bcall_some, x_ldl (by decide), u2_same (by omega), u2_self]
      obtain ⟨τ2, hk, k1, -, -⟩ := keeps_ez (τ := u2 (u2 (u2 τ1 249 7 (Int32.ofNat (g - p * (s + 1)))) 249 (30 + 6 * s + 4) (Int32.ofNat (a + p))) 248 17 (Int32.ofNat (g - p * (s + 1)))) (Int32.ofNat (g - p * (s + 1))) (by rw [u2_same (by decide), u2_ne (by decide), u2_ne (by decide)]; exact k4)
      refine ⟨τ2, Int32.ofNat (g - p * (s + 1)), ?_, Or.inr ⟨of_eq_true (oN_nn2 (by omega)), fun i h1 h2 => ?_⟩⟩
      · unfold M_X11_does
        rw [bput_eq, bcall_some, bcall_some]
        unfold M_X11_ends
        rw [if_pos rfl, u2_self, bcall_of hk, bcall_some]
      · rw [k1, u2_ne (by decide), u2_same h2, u2_same h1, e]
    · rw [if_neg (fun q => c2 ((ol (by omega) (by omega)).mp q)), x_ldl (by decide)]
      obtain ⟨τ2, h⟩ := rf 8 (τ1 249 7)
      refine ⟨τ2, -3, ?_, Or.inl rfl⟩
      rw [bcall_of h, bcall_some]
      unfold M_X11_ends
      rw [if_neg (by decide), bcall_some]
  · rw [if_neg (show ¬ Int32.ofNat (a + p) ≤ 9 from fun q => c1 ((ol (j := 9) (by omega) (by omega)).mp q)), x_ofl (by omega), bcall_some]
    obtain ⟨τ2, h⟩ := rf 9 (τ1 249 (30 + 6 * s + 4))
    refine ⟨τ2, -3, ?_, Or.inl rfl⟩
    rw [bcall_of h, bcall_some]
    unfold M_X11_ends
    rw [if_neg (by decide), bcall_some]
