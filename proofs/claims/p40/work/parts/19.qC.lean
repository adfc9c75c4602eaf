/-! what is refused leaves all as it is -/
def Jq (σ0 : St) (r : Nat → Int32) (u nx : Nat) (L : Nat → Nat → Int32) (sv : Option (Nat → Int32)) (n : Nat) (ft : Int32) (σ : St) : Prop := Cs σ r u nx L sv n ft ∧ ∀ k, 2 ≤ k → k < 5 → σ k = σ0 k
theorem Jq.q {σ0 σ : St} {r : Nat → Int32} {u nx n : Nat} {L : Nat → Nat → Int32} {sv : Option (Nat → Int32)} {ft : Int32} {x y : Option (St × Int32)} {v0 : Int32} (h : Jq σ0 r u nx L sv n ft σ) (hz : PZ σ (tz r) x y (fun v w => v = w)) (hq : ∀ τ, Co σ τ → ∃ σ1 v τ1, x = some (σ1, v) ∧ Co σ1 τ1) (hv : ∃ τz, y = some (τz, v0)) : ∃ σ1, x = some (σ1, v0) ∧ Jq σ0 r u nx L sv n ft σ1 := by
  obtain ⟨σ1, τz, v, e1, e2, hc, f⟩ := h.1.qry hz hq
  obtain ⟨τ3, e3⟩ := hv
  rw [e3] at e2
  obtain ⟨rfl, rfl⟩ := Prod.mk.injEq _ _ _ _ ▸ Option.some.inj e2
  exact ⟨σ1, e1, hc, fun k h1 h2 => by rw [f k (by omega)]; exact h.2 k h1 h2⟩
theorem Jq.c {σ0 σ : St} {r : Nat → Int32} {u nx n : Nat} {L : Nat → Nat → Int32} {sv : Option (Nat → Int32)} {ft : Int32} {x y : Option (St × Int32)} {v0 : Int32} (h : Jq σ0 r u nx L sv n ft σ) (hz : PC u nx σ (tz r) x y) (hq : ∀ τ, Co σ τ → ∃ σ1 v τ1, x = some (σ1, v) ∧ Co σ1 τ1) (h0 : v0 < 0 ∧ v0 ≠ -3) (hv : ∃ τz, y = some (τz, v0)) : ∃ σ1, x = some (σ1, v0) ∧ Jq σ0 r u nx L sv n ft σ1 := by
  obtain ⟨σ1, τz, v, e1, e2, hh⟩ := h.1.chg hz hq
  obtain ⟨τ3, e3⟩ := hv
  rw [e3] at e2
  obtain ⟨rfl, rfl⟩ := Prod.mk.injEq _ _ _ _ ▸ Option.some.inj e2
  rcases hh with ⟨-, hc, hr⟩ | ⟨hn, -⟩
  · rcases hr with ⟨hr, -⟩ | ⟨-, hr⟩
    · exact absurd hr h0.2
    · exact ⟨σ1, e1, hc, fun k h1 h2 => by rw [hr k h1 h2]; exact h.2 k h1 h2⟩
  · exact absurd hn (Int32.not_le.mpr h0.1)
theorem in_no (τ : St) {x a b : Int32} (h : ¬ (a ≤ x ∧ x ≤ b)) : M_X11_in τ x a b = some (τ, 0) := by
  rcases in_pair (σ := τ) (τ := τ) x a b with ⟨-, e, -⟩ | ⟨-, -, e⟩
  · exact e
  · exact absurd e h
theorem in_yes (τ : St) {x a b : Int32} (h : a ≤ x ∧ x ≤ b) : M_X11_in τ x a b = some (τ, 1) := by
  rcases in_pair (σ := τ) (τ := τ) x a b with ⟨-, -, e⟩ | ⟨-, e, -⟩
  · exact absurd h e
  · exact e
theorem V_of {r : Nat → Int32} {F : St → Option (St × Int32)} {v : Int32} (hG : ∀ τ1, τ1 249 = r → F τ1 = some (τ1, v)) (hv : ¬ v = 0) : ∃ τz, (bcall (M_X11_tries (tz r) 248) fun t _ => bcall (F t) fun σ3 r4 => bcall (M_X11_ends σ3 248 r4) fun σ5 r6 => some (σ5, r6)) = some (τz, v) := by
  obtain ⟨τ1, t1, t2, t3⟩ := tries_ex (tz r)
  have e : τ1 249 = r := by rw [t2 249 (by decide), tz_now]
  refine ⟨τ1, ?_⟩
  rw [t1, bcall_some, hG τ1 e, bcall_some]
  unfold M_X11_ends
  rw [if_neg hv, bcall_some]
theorem U_of {r : Nat → Int32} {F : St → Option (St × Int32)} {v : Int32} (hG : ∀ τ1, τ1 249 = r → F τ1 = some (τ1, v)) : ∃ τz, (bcall (M_X11_tries (tz r) 248) fun t _ => F t) = some (τz, v) := by
  obtain ⟨τ1, t1, t2, t3⟩ := tries_ex (tz r)
  exact ⟨τ1, by rw [t1, bcall_some]; exact hG τ1 (by rw [t2 249 (by decide), tz_now])⟩
theorem isBundle_no {τ : St} {n : Nat} (hn : n < 1000) (e : τ 249 2 = Int32.ofNat n) {p : Int32} (hp : p = Int32.ofNat n ∨ p = -1) : M_X11_isBundle τ 248 p = some (τ, 0) := by
  have x0 : ∀ (K : Int32 → Option (St × Int32)), bald τ (248 + 1) 2 K = K (τ 249 2) := fun K => x_ldl (by decide)
  unfold M_X11_isBundle
  rw [x0, e, x_in hn]
  rcases hp with rfl | rfl
  · rw [if_neg (fun q => (oN_nn (a := n) (by omega)).mp q), if_pos (Int32.le_refl _), bcall_some]
    rfl
  · rw [if_pos (by decide), bcall_some]
    rfl
theorem isBundle_0 {τ : St} {n : Nat} (hn : n < 1000) (h0 : 0 < n) (e : τ 249 2 = Int32.ofNat n) : M_X11_isBundle τ 248 0 = some (τ, 1) := by
  have x0 : ∀ (K : Int32 → Option (St × Int32)), bald τ (248 + 1) 2 K = K (τ 249 2) := fun K => x_ldl (by decide)
  unfold M_X11_isBundle
  rw [x0, e, x_in hn, if_neg (by decide), if_neg (fun q => by have := (ol (j := 0) (by omega) (by omega)).mp q; omega), bcall_some]
  rfl
theorem isStorey_no {τ : St} {n : Nat} (hn : n < 1000) (e : τ 249 3 = Int32.ofNat n) {p : Int32} (hp : p = Int32.ofNat n ∨ p = -1) : M_X11_isStorey τ 248 p = some (τ, 0) := by
  have x0 : ∀ (K : Int32 → Option (St × Int32)), bald τ (248 + 1) 3 K = K (τ 249 3) := fun K => x_ldl (by decide)
  unfold M_X11_isStorey
  rw [x0, e, x_in hn]
  rcases hp with rfl | rfl
  · rw [if_neg (fun q => (oN_nn (a := n) (by omega)).mp q), if_pos (Int32.le_refl _), bcall_some]
    rfl
  · rw [if_pos (by decide), bcall_some]
    rfl
theorem isStorey_0 {τ : St} {n : Nat} (hn : n < 1000) (h0 : 0 < n) (e : τ 249 3 = Int32.ofNat n) : M_X11_isStorey τ 248 0 = some (τ, 1) := by
  have x0 : ∀ (K : Int32 → Option (St × Int32)), bald τ (248 + 1) 3 K = K (τ 249 3) := fun K => x_ldl (by decide)
  unfold M_X11_isStorey
  rw [x0, e, x_in hn, if_neg (by decide), if_neg (fun q => by have := (ol (j := 0) (by omega) (by omega)).mp q; omega), bcall_some]
  rfl
theorem isCrew_no {τ : St} {n : Nat} (hn : n < 1000) (e : τ 249 4 = Int32.ofNat n) {p : Int32} (hp : p = Int32.ofNat n ∨ p = -1) : M_X11_isCrew τ 248 p = some (τ, 0) := by
  have x0 : ∀ (K : Int32 → Option (St × Int32)), bald τ (248 + 1) 4 K = K (τ 249 4) := fun K => x_ldl (by decide)
  unfold M_X11_isCrew
  rw [x0, e, x_in hn]
  rcases hp with rfl | rfl
  · rw [if_neg (fun q => (oN_nn (a := n) (by omega)).mp q), if_pos (Int32.le_refl _), bcall_some]
    rfl
  · rw [if_pos (by decide), bcall_some]
    rfl
theorem isCrew_0 {τ : St} {n : Nat} (hn : n < 1000) (h0 : 0 < n) (e : τ 249 4 = Int32.ofNat n) : M_X11_isCrew τ 248 0 = some (τ, 1) := by
  have x0 : ∀ (K : Int32 → Option (St × Int32)), bald τ (248 + 1) 4 K = K (τ 249 4) := fun K => x_ldl (by decide)
  unfold M_X11_isCrew
  rw [x0, e, x_in hn, if_neg (by decide), if_neg (fun q => by have := (ol (j := 0) (by omega) (by omega)).mp q; omega), bcall_some]
  rfl
theorem isInspector_no {τ : St} {n : Nat} (hn : n < 1000) (e : τ 249 5 = Int32.ofNat n) {p : Int32} (hp : p = Int32.ofNat n ∨ p = -1) : M_X11_isInspector τ 248 p = some (τ, 0) := by
  have x0 : ∀ (K : Int32 → Option (St × Int32)), bald τ (248 + 1) 5 K = K (τ 249 5) := fun K => x_ldl (by decide)
  unfold M_X11_isInspector
  rw [x0, e, x_in hn]
  rcases hp with rfl | rfl
  · rw [if_neg (fun q => (oN_nn (a := n) (by omega)).mp q), if_pos (Int32.le_refl _), bcall_some]
    rfl
  · rw [if_pos (by decide), bcall_some]
    rfl
theorem isInspector_0 {τ : St} {n : Nat} (hn : n < 1000) (h0 : 0 < n) (e : τ 249 5 = Int32.ofNat n) : M_X11_isInspector τ 248 0 = some (τ, 1) := by
  have x0 : ∀ (K : Int32 → Option (St × Int32)), bald τ (248 + 1) 5 K = K (τ 249 5) := fun K => x_ldl (by decide)
  unfold M_X11_isInspector
  rw [x0, e, x_in hn, if_neg (by decide), if_neg (fun q => by have := (ol (j := 0) (by omega) (by omega)).mp q; omega), bcall_some]
  rfl
theorem V_bundle_0_0 {r : Nat → Int32} {nb ns nc ni : Nat} (i : Iv r nb ns nc ni) (hb : 0 < nb) (hs : 0 < ns) (hc : 0 < nc) (hi : 0 < ni) : ∃ τz, M_X11_bundle (tz r) 248 (0 : Int32) (0 : Int32) = some (τz, (-2 : Int32)) := by
  unfold M_X11_bundle
  refine U_of (fun τ1 e => ?_)
  rw [bcall_of (in_no _ (by decide)), if_pos rfl]
theorem V_bundle_31_0 {r : Nat → Int32} {nb ns nc ni : Nat} (i : Iv r nb ns nc ni) (hb : 0 < nb) (hs : 0 < ns) (hc : 0 < nc) (hi : 0 < ni) : ∃ τz, M_X11_bundle (tz r) 248 (31 : Int32) (0 : Int32) = some (τz, (-2 : Int32)) := by
  unfold M_X11_bundle
  refine U_of (fun τ1 e => ?_)
  rw [bcall_of (in_no _ (by decide)), if_pos rfl]
theorem V_bundle_1_m1 {r : Nat → Int32} {nb ns nc ni : Nat} (i : Iv r nb ns nc ni) (hb : 0 < nb) (hs : 0 < ns) (hc : 0 < nc) (hi : 0 < ni) : ∃ τz, M_X11_bundle (tz r) 248 (1 : Int32) (-1 : Int32) = some (τz, (-2 : Int32)) := by
  unfold M_X11_bundle
  refine U_of (fun τ1 e => ?_)
  rw [bcall_of (in_yes _ (by decide)), if_neg (by decide), bcall_of (in_no _ (by decide)), if_pos rfl]
theorem V_bundle_1_61 {r : Nat → Int32} {nb ns nc ni : Nat} (i : Iv r nb ns nc ni) (hb : 0 < nb) (hs : 0 < ns) (hc : 0 < nc) (hi : 0 < ni) : ∃ τz, M_X11_bundle (tz r) 248 (1 : Int32) (61 : Int32) = some (τz, (-2 : Int32)) := by
  unfold M_X11_bundle
  refine U_of (fun τ1 e => ?_)
  rw [bcall_of (in_yes _ (by decide)), if_neg (by decide), bcall_of (in_no _ (by decide)), if_pos rfl]
theorem V_strips_0 {r : Nat → Int32} {nb ns nc ni : Nat} (i : Iv r nb ns nc ni) (hb : 0 < nb) (hs : 0 < ns) (hc : 0 < nc) (hi : 0 < ni) : ∃ τz, M_X11_strips (tz r) 248 (0 : Int32) = some (τz, (-2 : Int32)) := by
  unfold M_X11_strips
  refine U_of (fun τ1 e => ?_)
  rw [bcall_of (in_no _ (by decide)), if_pos rfl]
theorem V_strips_100 {r : Nat → Int32} {nb ns nc ni : Nat} (i : Iv r nb ns nc ni) (hb : 0 < nb) (hs : 0 < ns) (hc : 0 < nc) (hi : 0 < ni) : ∃ τz, M_X11_strips (tz r) 248 (100 : Int32) = some (τz, (-2 : Int32)) := by
  unfold M_X11_strips
  refine U_of (fun τ1 e => ?_)
  rw [bcall_of (in_no _ (by decide)), if_pos rfl]
theorem V_build_nb_0_99 {r : Nat → Int32} {nb ns nc ni : Nat} (i : Iv r nb ns nc ni) (hb : 0 < nb) (hs : 0 < ns) (hc : 0 < nc) (hi : 0 < ni) : ∃ τz, M_X11_build (tz r) 248 (Int32.ofNat nb) (0 : Int32) (99 : Int32) = some (τz, (-1 : Int32)) := by
  unfold M_X11_build
  refine V_of (fun τ1 e => ?_) (by decide)
  unfold M_X11_builds
  rw [bcall_of (isBundle_no (n := nb) (by have := i.hb; omega) (by rw [e]; exact i.cb) (Or.inl rfl)), if_pos rfl]
theorem V_build_m1_4_1 {r : Nat → Int32} {nb ns nc ni : Nat} (i : Iv r nb ns nc ni) (hb : 0 < nb) (hs : 0 < ns) (hc : 0 < nc) (hi : 0 < ni) : ∃ τz, M_X11_build (tz r) 248 (-1 : Int32) (4 : Int32) (1 : Int32) = some (τz, (-1 : Int32)) := by
  unfold M_X11_build
  refine V_of (fun τ1 e => ?_) (by decide)
  unfold M_X11_builds
  rw [bcall_of (isBundle_no (n := nb) (by have := i.hb; omega) (by rw [e]; exact i.cb) (Or.inr rfl)), if_pos rfl]
theorem V_build_0_3_1 {r : Nat → Int32} {nb ns nc ni : Nat} (i : Iv r nb ns nc ni) (hb : 0 < nb) (hs : 0 < ns) (hc : 0 < nc) (hi : 0 < ni) : ∃ τz, M_X11_build (tz r) 248 (0 : Int32) (3 : Int32) (1 : Int32) = some (τz, (-2 : Int32)) := by
  unfold M_X11_build
  refine V_of (fun τ1 e => ?_) (by decide)
  unfold M_X11_builds
  rw [bcall_of (isBundle_0 (by have := i.hb; omega) hb (by rw [e]; exact i.cb)), if_neg (by decide), bcall_of (in_no _ (by decide)), if_pos rfl]
theorem V_build_0_9_1 {r : Nat → Int32} {nb ns nc ni : Nat} (i : Iv r nb ns nc ni) (hb : 0 < nb) (hs : 0 < ns) (hc : 0 < nc) (hi : 0 < ni) : ∃ τz, M_X11_build (tz r) 248 (0 : Int32) (9 : Int32) (1 : Int32) = some (τz, (-2 : Int32)) := by
  unfold M_X11_build
  refine V_of (fun τ1 e => ?_) (by decide)
  unfold M_X11_builds
  rw [bcall_of (isBundle_0 (by have := i.hb; omega) hb (by rw [e]; exact i.cb)), if_neg (by decide), bcall_of (in_no _ (by decide)), if_pos rfl]
theorem V_build_0_4_m1 {r : Nat → Int32} {nb ns nc ni : Nat} (i : Iv r nb ns nc ni) (hb : 0 < nb) (hs : 0 < ns) (hc : 0 < nc) (hi : 0 < ni) : ∃ τz, M_X11_build (tz r) 248 (0 : Int32) (4 : Int32) (-1 : Int32) = some (τz, (-2 : Int32)) := by
  unfold M_X11_build
  refine V_of (fun τ1 e => ?_) (by decide)
  unfold M_X11_builds
  rw [bcall_of (isBundle_0 (by have := i.hb; omega) hb (by rw [e]; exact i.cb)), if_neg (by decide), bcall_of (in_yes _ (by decide)), if_neg (by decide), bcall_of (in_no _ (by decide)), if_pos rfl]
theorem V_build_0_4_41 {r : Nat → Int32} {nb ns nc ni : Nat} (i : Iv r nb ns nc ni) (hb : 0 < nb) (hs : 0 < ns) (hc : 0 < nc) (hi : 0 < ni) : ∃ τz, M_X11_build (tz r) 248 (0 : Int32) (4 : Int32) (41 : Int32) = some (τz, (-2 : Int32)) := by
  unfold M_X11_build
  refine V_of (fun τ1 e => ?_) (by decide)
  unfold M_X11_builds
  rw [bcall_of (isBundle_0 (by have := i.hb; omega) hb (by rw [e]; exact i.cb)), if_neg (by decide), bcall_of (in_yes _ (by decide)), if_neg (by decide), bcall_of (in_no _ (by decide)), if_pos rfl]
theorem V_tie_ns {r : Nat → Int32} {nb ns nc ni : Nat} (i : Iv r nb ns nc ni) (hb : 0 < nb) (hs : 0 < ns) (hc : 0 < nc) (hi : 0 < ni) : ∃ τz, M_X11_tie (tz r) 248 (Int32.ofNat ns) = some (τz, (-1 : Int32)) := by
  unfold M_X11_tie
  refine V_of (fun τ1 e => ?_) (by decide)
  unfold M_X11_ties
  rw [bcall_of (isStorey_no (n := ns) (by have := i.hs; omega) (by rw [e]; exact i.cs) (Or.inl rfl)), if_pos rfl]
theorem V_tie_m1 {r : Nat → Int32} {nb ns nc ni : Nat} (i : Iv r nb ns nc ni) (hb : 0 < nb) (hs : 0 < ns) (hc : 0 < nc) (hi : 0 < ni) : ∃ τz, M_X11_tie (tz r) 248 (-1 : Int32) = some (τz, (-1 : Int32)) := by
  unfold M_X11_tie
  refine V_of (fun τ1 e => ?_) (by decide)
  unfold M_X11_ties
  rw [bcall_of (isStorey_no (n := ns) (by have := i.hs; omega) (by rw [e]; exact i.cs) (Or.inr rfl)), if_pos rfl]
theorem V_crew_0 {r : Nat → Int32} {nb ns nc ni : Nat} (i : Iv r nb ns nc ni) (hb : 0 < nb) (hs : 0 < ns) (hc : 0 < nc) (hi : 0 < ni) : ∃ τz, M_X11_crew (tz r) 248 (0 : Int32) = some (τz, (-2 : Int32)) := by
  unfold M_X11_crew
  refine U_of (fun τ1 e => ?_)
  rw [bcall_of (in_no _ (by decide)), if_pos rfl]
theorem V_crew_5 {r : Nat → Int32} {nb ns nc ni : Nat} (i : Iv r nb ns nc ni) (hb : 0 < nb) (hs : 0 < ns) (hc : 0 < nc) (hi : 0 < ni) : ∃ τz, M_X11_crew (tz r) 248 (5 : Int32) = some (τz, (-2 : Int32)) := by
  unfold M_X11_crew
  refine U_of (fun τ1 e => ?_)
  rw [bcall_of (in_no _ (by decide)), if_pos rfl]
theorem V_up_nc_0 {r : Nat → Int32} {nb ns nc ni : Nat} (i : Iv r nb ns nc ni) (hb : 0 < nb) (hs : 0 < ns) (hc : 0 < nc) (hi : 0 < ni) : ∃ τz, M_X11_up (tz r) 248 (Int32.ofNat nc) (0 : Int32) = some (τz, (-1 : Int32)) := by
  unfold M_X11_up
  refine V_of (fun τ1 e => ?_) (by decide)
  unfold M_X11_goesUp
  rw [bcall_of (isCrew_no (n := nc) (by have := i.hc; omega) (by rw [e]; exact i.cc) (Or.inl rfl)), if_pos rfl]
theorem V_up_0_ns {r : Nat → Int32} {nb ns nc ni : Nat} (i : Iv r nb ns nc ni) (hb : 0 < nb) (hs : 0 < ns) (hc : 0 < nc) (hi : 0 < ni) : ∃ τz, M_X11_up (tz r) 248 (0 : Int32) (Int32.ofNat ns) = some (τz, (-1 : Int32)) := by
  unfold M_X11_up
  refine V_of (fun τ1 e => ?_) (by decide)
  unfold M_X11_goesUp
  rw [bcall_of (isCrew_0 (by have := i.hc; omega) hc (by rw [e]; exact i.cc)), if_neg (by decide), bcall_of (isStorey_no (n := ns) (by have := i.hs; omega) (by rw [e]; exact i.cs) (Or.inl rfl)), if_pos rfl]
theorem V_up_m1_m1 {r : Nat → Int32} {nb ns nc ni : Nat} (i : Iv r nb ns nc ni) (hb : 0 < nb) (hs : 0 < ns) (hc : 0 < nc) (hi : 0 < ni) : ∃ τz, M_X11_up (tz r) 248 (-1 : Int32) (-1 : Int32) = some (τz, (-1 : Int32)) := by
  unfold M_X11_up
  refine V_of (fun τ1 e => ?_) (by decide)
  unfold M_X11_goesUp
  rw [bcall_of (isCrew_no (n := nc) (by have := i.hc; omega) (by rw [e]; exact i.cc) (Or.inr rfl)), if_pos rfl]
theorem V_down_nc {r : Nat → Int32} {nb ns nc ni : Nat} (i : Iv r nb ns nc ni) (hb : 0 < nb) (hs : 0 < ns) (hc : 0 < nc) (hi : 0 < ni) : ∃ τz, M_X11_down (tz r) 248 (Int32.ofNat nc) = some (τz, (-1 : Int32)) := by
  unfold M_X11_down
  refine V_of (fun τ1 e => ?_) (by decide)
  unfold M_X11_comesDown
  rw [bcall_of (isCrew_no (n := nc) (by have := i.hc; omega) (by rw [e]; exact i.cc) (Or.inl rfl)), if_pos rfl]
theorem V_lift_ns_0 {r : Nat → Int32} {nb ns nc ni : Nat} (i : Iv r nb ns nc ni) (hb : 0 < nb) (hs : 0 < ns) (hc : 0 < nc) (hi : 0 < ni) : ∃ τz, M_X11_lift (tz r) 248 (Int32.ofNat ns) (0 : Int32) = some (τz, (-1 : Int32)) := by
  unfold M_X11_lift
  refine V_of (fun τ1 e => ?_) (by decide)
  unfold M_X11_lifts
  rw [bcall_of (isStorey_no (n := ns) (by have := i.hs; omega) (by rw [e]; exact i.cs) (Or.inl rfl)), if_pos rfl]
theorem V_lift_0_0 {r : Nat → Int32} {nb ns nc ni : Nat} (i : Iv r nb ns nc ni) (hb : 0 < nb) (hs : 0 < ns) (hc : 0 < nc) (hi : 0 < ni) : ∃ τz, M_X11_lift (tz r) 248 (0 : Int32) (0 : Int32) = some (τz, (-2 : Int32)) := by
  unfold M_X11_lift
  refine V_of (fun τ1 e => ?_) (by decide)
  unfold M_X11_lifts
  rw [bcall_of (isStorey_0 (by have := i.hs; omega) hs (by rw [e]; exact i.cs)), if_neg (by decide), bcall_of (in_no _ (by decide)), if_pos rfl]
theorem V_lift_0_10 {r : Nat → Int32} {nb ns nc ni : Nat} (i : Iv r nb ns nc ni) (hb : 0 < nb) (hs : 0 < ns) (hc : 0 < nc) (hi : 0 < ni) : ∃ τz, M_X11_lift (tz r) 248 (0 : Int32) (10 : Int32) = some (τz, (-2 : Int32)) := by
  unfold M_X11_lift
  refine V_of (fun τ1 e => ?_) (by decide)
  unfold M_X11_lifts
  rw [bcall_of (isStorey_0 (by have := i.hs; omega) hs (by rw [e]; exact i.cs)), if_neg (by decide), bcall_of (in_no _ (by decide)), if_pos rfl]
theorem V_signal_m1 {r : Nat → Int32} {nb ns nc ni : Nat} (i : Iv r nb ns nc ni) (hb : 0 < nb) (hs : 0 < ns) (hc : 0 < nc) (hi : 0 < ni) : ∃ τz, M_X11_signal (tz r) 248 (-1 : Int32) = some (τz, (-2 : Int32)) := by
  unfold M_X11_signal
  refine V_of (fun τ1 e => ?_) (by decide)
  unfold M_X11_signals
  rw [bcall_of (in_no _ (by decide)), if_pos rfl]
theorem V_signal_11 {r : Nat → Int32} {nb ns nc ni : Nat} (i : Iv r nb ns nc ni) (hb : 0 < nb) (hs : 0 < ns) (hc : 0 < nc) (hi : 0 < ni) : ∃ τz, M_X11_signal (tz r) 248 (11 : Int32) = some (τz, (-2 : Int32)) := by
  unfold M_X11_signal
  refine V_of (fun τ1 e => ?_) (by decide)
  unfold M_X11_signals
  rw [bcall_of (in_no _ (by decide)), if_pos rfl]
theorem V_inspector_0 {r : Nat → Int32} {nb ns nc ni : Nat} (i : Iv r nb ns nc ni) (hb : 0 < nb) (hs : 0 < ns) (hc : 0 < nc) (hi : 0 < ni) : ∃ τz, M_X11_inspector (tz r) 248 (0 : Int32) = some (τz, (-2 : Int32)) := by
  unfold M_X11_inspector
  refine U_of (fun τ1 e => ?_)
  rw [bcall_of (in_no _ (by decide)), if_pos rfl]
theorem V_inspector_10 {r : Nat → Int32} {nb ns nc ni : Nat} (i : Iv r nb ns nc ni) (hb : 0 < nb) (hs : 0 < ns) (hc : 0 < nc) (hi : 0 < ni) : ∃ τz, M_X11_inspector (tz r) 248 (10 : Int32) = some (τz, (-2 : Int32)) := by
  unfold M_X11_inspector
  refine U_of (fun τ1 e => ?_)
  rw [bcall_of (in_no _ (by decide)), if_pos rfl]
theorem V_inspect_ni_0 {r : Nat → Int32} {nb ns nc ni : Nat} (i : Iv r nb ns nc ni) (hb : 0 < nb) (hs : 0 < ns) (hc : 0 < nc) (hi : 0 < ni) : ∃ τz, M_X11_inspect (tz r) 248 (Int32.ofNat ni) (0 : Int32) = some (τz, (-1 : Int32)) := by
  unfold M_X11_inspect
  refine V_of (fun τ1 e => ?_) (by decide)
  unfold M_X11_inspects
  rw [bcall_of (isInspector_no (n := ni) (by have := i.hi; omega) (by rw [e]; exact i.ci) (Or.inl rfl)), if_pos rfl]
theorem V_inspect_0_ns {r : Nat → Int32} {nb ns nc ni : Nat} (i : Iv r nb ns nc ni) (hb : 0 < nb) (hs : 0 < ns) (hc : 0 < nc) (hi : 0 < ni) : ∃ τz, M_X11_inspect (tz r) 248 (0 : Int32) (Int32.ofNat ns) = some (τz, (-1 : Int32)) := by
  unfold M_X11_inspect
  refine V_of (fun τ1 e => ?_) (by decide)
  unfold M_X11_inspects
  rw [bcall_of (isInspector_0 (by have := i.hi; omega) hi (by rw [e]; exact i.ci)), if_neg (by decide), bcall_of (isStorey_no (n := ns) (by have := i.hs; omega) (by rw [e]; exact i.cs) (Or.inl rfl)), if_pos rfl]
theorem V_day_0 {r : Nat → Int32} {nb ns nc ni : Nat} (i : Iv r nb ns nc ni) (hb : 0 < nb) (hs : 0 < ns) (hc : 0 < nc) (hi : 0 < ni) : ∃ τz, M_X11_day (tz r) 248 (0 : Int32) = some (τz, (-2 : Int32)) := by
  unfold M_X11_day
  refine V_of (fun τ1 e => ?_) (by decide)
  unfold M_X11_days
  rw [bcall_of (in_no _ (by decide)), if_pos rfl]
theorem V_day_31 {r : Nat → Int32} {nb ns nc ni : Nat} (i : Iv r nb ns nc ni) (hb : 0 < nb) (hs : 0 < ns) (hc : 0 < nc) (hi : 0 < ni) : ∃ τz, M_X11_day (tz r) 248 (31 : Int32) = some (τz, (-2 : Int32)) := by
  unfold M_X11_day
  refine V_of (fun τ1 e => ?_) (by decide)
  unfold M_X11_days
  rw [bcall_of (in_no _ (by decide)), if_pos rfl]
theorem V_bundleOf_nb_1 {r : Nat → Int32} {nb ns nc ni : Nat} (i : Iv r nb ns nc ni) (hb : 0 < nb) (hs : 0 < ns) (hc : 0 < nc) (hi : 0 < ni) : ∃ τz, M_X11_bundleOf (tz r) 248 (Int32.ofNat nb) (1 : Int32) = some (τz, (-1 : Int32)) := by
  refine ⟨tz r, ?_⟩
  have e : tz r 249 = r := tz_now
  unfold M_X11_bundleOf
  rw [bcall_of (isBundle_no (n := nb) (by have := i.hb; omega) (by rw [e]; exact i.cb) (Or.inl rfl)), if_pos rfl]
theorem V_bundleOf_m1_0 {r : Nat → Int32} {nb ns nc ni : Nat} (i : Iv r nb ns nc ni) (hb : 0 < nb) (hs : 0 < ns) (hc : 0 < nc) (hi : 0 < ni) : ∃ τz, M_X11_bundleOf (tz r) 248 (-1 : Int32) (0 : Int32) = some (τz, (-1 : Int32)) := by
  refine ⟨tz r, ?_⟩
  have e : tz r 249 = r := tz_now
  unfold M_X11_bundleOf
  rw [bcall_of (isBundle_no (n := nb) (by have := i.hb; omega) (by rw [e]; exact i.cb) (Or.inr rfl)), if_pos rfl]
theorem V_storeyOf_ns_9 {r : Nat → Int32} {nb ns nc ni : Nat} (i : Iv r nb ns nc ni) (hb : 0 < nb) (hs : 0 < ns) (hc : 0 < nc) (hi : 0 < ni) : ∃ τz, M_X11_storeyOf (tz r) 248 (Int32.ofNat ns) (9 : Int32) = some (τz, (-1 : Int32)) := by
  refine ⟨tz r, ?_⟩
  have e : tz r 249 = r := tz_now
  unfold M_X11_storeyOf
  rw [bcall_of (isStorey_no (n := ns) (by have := i.hs; omega) (by rw [e]; exact i.cs) (Or.inl rfl)), if_pos rfl]
theorem V_storeyOf_0_7 {r : Nat → Int32} {nb ns nc ni : Nat} (i : Iv r nb ns nc ni) (hb : 0 < nb) (hs : 0 < ns) (hc : 0 < nc) (hi : 0 < ni) : ∃ τz, M_X11_storeyOf (tz r) 248 (0 : Int32) (7 : Int32) = some (τz, (-2 : Int32)) := by
  refine ⟨tz r, ?_⟩
  have e : tz r 249 = r := tz_now
  unfold M_X11_storeyOf
  rw [bcall_of (isStorey_0 (by have := i.hs; omega) hs (by rw [e]; exact i.cs)), if_neg (by decide), if_pos (by decide)]
theorem V_storeyOf_0_m1 {r : Nat → Int32} {nb ns nc ni : Nat} (i : Iv r nb ns nc ni) (hb : 0 < nb) (hs : 0 < ns) (hc : 0 < nc) (hi : 0 < ni) : ∃ τz, M_X11_storeyOf (tz r) 248 (0 : Int32) (-1 : Int32) = some (τz, (-2 : Int32)) := by
  refine ⟨tz r, ?_⟩
  have e : tz r 249 = r := tz_now
  unfold M_X11_storeyOf
  rw [bcall_of (isStorey_0 (by have := i.hs; omega) hs (by rw [e]; exact i.cs)), if_neg (by decide), if_pos (by decide)]
theorem V_strength_ns_1 {r : Nat → Int32} {nb ns nc ni : Nat} (i : Iv r nb ns nc ni) (hb : 0 < nb) (hs : 0 < ns) (hc : 0 < nc) (hi : 0 < ni) : ∃ τz, M_X11_strength (tz r) 248 (Int32.ofNat ns) (1 : Int32) = some (τz, (-1 : Int32)) := by
  refine ⟨tz r, ?_⟩
  have e : tz r 249 = r := tz_now
  unfold M_X11_strength
  rw [bcall_of (isStorey_no (n := ns) (by have := i.hs; omega) (by rw [e]; exact i.cs) (Or.inl rfl)), if_pos rfl]
theorem V_strength_m1_0 {r : Nat → Int32} {nb ns nc ni : Nat} (i : Iv r nb ns nc ni) (hb : 0 < nb) (hs : 0 < ns) (hc : 0 < nc) (hi : 0 < ni) : ∃ τz, M_X11_strength (tz r) 248 (-1 : Int32) (0 : Int32) = some (τz, (-1 : Int32)) := by
  refine ⟨tz r, ?_⟩
  have e : tz r 249 = r := tz_now
  unfold M_X11_strength
  rw [bcall_of (isStorey_no (n := ns) (by have := i.hs; omega) (by rw [e]; exact i.cs) (Or.inr rfl)), if_pos rfl]
theorem V_crewOf_nc_9 {r : Nat → Int32} {nb ns nc ni : Nat} (i : Iv r nb ns nc ni) (hb : 0 < nb) (hs : 0 < ns) (hc : 0 < nc) (hi : 0 < ni) : ∃ τz, M_X11_crewOf (tz r) 248 (Int32.ofNat nc) (9 : Int32) = some (τz, (-1 : Int32)) := by
  refine ⟨tz r, ?_⟩
  have e : tz r 249 = r := tz_now
  unfold M_X11_crewOf
  rw [bcall_of (isCrew_no (n := nc) (by have := i.hc; omega) (by rw [e]; exact i.cc) (Or.inl rfl)), if_pos rfl]
theorem V_crewOf_0_4 {r : Nat → Int32} {nb ns nc ni : Nat} (i : Iv r nb ns nc ni) (hb : 0 < nb) (hs : 0 < ns) (hc : 0 < nc) (hi : 0 < ni) : ∃ τz, M_X11_crewOf (tz r) 248 (0 : Int32) (4 : Int32) = some (τz, (-2 : Int32)) := by
  refine ⟨tz r, ?_⟩
  have e : tz r 249 = r := tz_now
  unfold M_X11_crewOf
  rw [bcall_of (isCrew_0 (by have := i.hc; omega) hc (by rw [e]; exact i.cc)), if_neg (by decide), if_pos (by decide)]
theorem V_crewOf_0_m1 {r : Nat → Int32} {nb ns nc ni : Nat} (i : Iv r nb ns nc ni) (hb : 0 < nb) (hs : 0 < ns) (hc : 0 < nc) (hi : 0 < ni) : ∃ τz, M_X11_crewOf (tz r) 248 (0 : Int32) (-1 : Int32) = some (τz, (-2 : Int32)) := by
  refine ⟨tz r, ?_⟩
  have e : tz r 249 = r := tz_now
  unfold M_X11_crewOf
  rw [bcall_of (isCrew_0 (by have := i.hc; omega) hc (by rw [e]; exact i.cc)), if_neg (by decide), if_pos (by decide)]
theorem V_inspectorOf_ni_9 {r : Nat → Int32} {nb ns nc ni : Nat} (i : Iv r nb ns nc ni) (hb : 0 < nb) (hs : 0 < ns) (hc : 0 < nc) (hi : 0 < ni) : ∃ τz, M_X11_inspectorOf (tz r) 248 (Int32.ofNat ni) (9 : Int32) = some (τz, (-1 : Int32)) := by
  refine ⟨tz r, ?_⟩
  have e : tz r 249 = r := tz_now
  unfold M_X11_inspectorOf
  rw [bcall_of (isInspector_no (n := ni) (by have := i.hi; omega) (by rw [e]; exact i.ci) (Or.inl rfl)), if_pos rfl]
theorem V_inspectorOf_0_3 {r : Nat → Int32} {nb ns nc ni : Nat} (i : Iv r nb ns nc ni) (hb : 0 < nb) (hs : 0 < ns) (hc : 0 < nc) (hi : 0 < ni) : ∃ τz, M_X11_inspectorOf (tz r) 248 (0 : Int32) (3 : Int32) = some (τz, (-2 : Int32)) := by
  refine ⟨tz r, ?_⟩
  have e : tz r 249 = r := tz_now
  unfold M_X11_inspectorOf
  rw [bcall_of (isInspector_0 (by have := i.hi; omega) hi (by rw [e]; exact i.ci)), if_neg (by decide), if_pos (by decide)]
theorem V_inspectorOf_0_m1 {r : Nat → Int32} {nb ns nc ni : Nat} (i : Iv r nb ns nc ni) (hb : 0 < nb) (hs : 0 < ns) (hc : 0 < nc) (hi : 0 < ni) : ∃ τz, M_X11_inspectorOf (tz r) 248 (0 : Int32) (-1 : Int32) = some (τz, (-2 : Int32)) := by
  refine ⟨tz r, ?_⟩
  have e : tz r 249 = r := tz_now
  unfold M_X11_inspectorOf
  rw [bcall_of (isInspector_0 (by have := i.hi; omega) hi (by rw [e]; exact i.ci)), if_neg (by decide), if_pos (by decide)]
theorem V_wouldFall_7 {r : Nat → Int32} {nb ns nc ni : Nat} (i : Iv r nb ns nc ni) (hb : 0 < nb) (hs : 0 < ns) (hc : 0 < nc) (hi : 0 < ni) : ∃ τz, M_X11_wouldFall (tz r) 248 (7 : Int32) = some (τz, (-2 : Int32)) := by
  refine ⟨tz r, ?_⟩
  have e : tz r 249 = r := tz_now
  unfold M_X11_wouldFall
  rw [bcall_of (in_no _ (by decide)), if_pos rfl]
theorem V_wouldFall_11 {r : Nat → Int32} {nb ns nc ni : Nat} (i : Iv r nb ns nc ni) (hb : 0 < nb) (hs : 0 < ns) (hc : 0 < nc) (hi : 0 < ni) : ∃ τz, M_X11_wouldFall (tz r) 248 (11 : Int32) = some (τz, (-2 : Int32)) := by
  refine ⟨tz r, ?_⟩
  have e : tz r 249 = r := tz_now
  unfold M_X11_wouldFall
  rw [bcall_of (in_no _ (by decide)), if_pos rfl]
theorem V_oldIn_ns {r : Nat → Int32} {nb ns nc ni : Nat} (i : Iv r nb ns nc ni) (hb : 0 < nb) (hs : 0 < ns) (hc : 0 < nc) (hi : 0 < ni) : ∃ τz, M_X11_oldIn (tz r) 248 (Int32.ofNat ns) = some (τz, (-1 : Int32)) := by
  refine ⟨tz r, ?_⟩
  have e : tz r 249 = r := tz_now
  unfold M_X11_oldIn
  rw [bcall_of (isStorey_no (n := ns) (by have := i.hs; omega) (by rw [e]; exact i.cs) (Or.inl rfl)), if_pos rfl]
theorem V_doneIn_m1 {r : Nat → Int32} {nb ns nc ni : Nat} (i : Iv r nb ns nc ni) (hb : 0 < nb) (hs : 0 < ns) (hc : 0 < nc) (hi : 0 < ni) : ∃ τz, M_X11_doneIn (tz r) 248 (-1 : Int32) = some (τz, (-1 : Int32)) := by
  refine ⟨tz r, ?_⟩
  have e : tz r 249 = r := tz_now
  unfold M_X11_doneIn
  rw [bcall_of (isStorey_no (n := ns) (by have := i.hs; omega) (by rw [e]; exact i.cs) (Or.inr rfl)), if_pos rfl]
theorem V_account_19 {r : Nat → Int32} {nb ns nc ni : Nat} (i : Iv r nb ns nc ni) (hb : 0 < nb) (hs : 0 < ns) (hc : 0 < nc) (hi : 0 < ni) : ∃ τz, M_X11_account (tz r) 248 (19 : Int32) = some (τz, (-2 : Int32)) := by
  refine ⟨tz r, ?_⟩
  rfl
theorem V_account_m1 {r : Nat → Int32} {nb ns nc ni : Nat} (i : Iv r nb ns nc ni) (hb : 0 < nb) (hs : 0 < ns) (hc : 0 < nc) (hi : 0 < ni) : ∃ τz, M_X11_account (tz r) 248 (-1 : Int32) = some (τz, (-2 : Int32)) := by
  refine ⟨tz r, ?_⟩
  rfl
