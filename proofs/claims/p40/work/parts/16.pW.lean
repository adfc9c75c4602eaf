theorem bcall_id {β : Type} (x : Option (St × β)) : (bcall x fun s r => some (s, r)) = x := by
  cases x with
  | none => rfl
  | some q => rfl
theorem fz_val {L : Nat} (h : fz L ≠ 5) : L = 98 ∨ L = 100 ∨ L = 103 ∨ L = 105 ∨ L = 108 ∨ L = 110 ∨ L = 116 ∨ L = 117 := by
  unfold fz at h
  by_cases a1 : L = 98
  · omega
  by_cases a2 : L = 100
  · omega
  by_cases a3 : L = 103
  · omega
  by_cases a4 : L = 105
  · omega
  by_cases a5 : L = 108
  · omega
  by_cases a6 : L = 110
  · omega
  by_cases a7 : L = 116
  · omega
  by_cases a8 : L = 117
  · omega
  rw [if_neg a1, if_neg a2, if_neg a3, if_neg a4, if_neg a5, if_neg a6, if_neg a7, if_neg a8] at h
  exact absurd rfl h
theorem nu_ex (σ : St) {k w : Nat} (hk : k < 20) (hw : w < 3) : M_X5_numberOf σ 245 (Int32.ofNat k) (Int32.ofNat w) = some (σ, σ 247 (3 * k + w)) := by
  have l247 : ln (245 + 2) = 60 := by decide +kernel
  unfold M_X5_numberOf
  rw [show Int32.ofNat k * 3 + Int32.ofNat w = Int32.ofNat (3 * k + w) from by rw [show (3 : Int32) = Int32.ofNat 3 from rfl, oN_mul, oN_add, Nat.mul_comm], at_nat (k := 245 + 2) (by rw [l247]; omega), bcall_some]
theorem le_ex (σ : St) {k : Nat} (hk : k < 20) : M_X5_letterOf σ 245 (Int32.ofNat k) = some (σ, σ 246 k) := by
  have l246 : ln (245 + 1) = 20 := by decide +kernel
  unfold M_X5_letterOf
  rw [at_nat (k := 245 + 1) (by rw [l246]; omega), bcall_some]
theorem ld_told {α : Type} {τ : St} {q : Nat} (hq : q < 3) (K : Int32 → Option α) : bald τ (248 + 8) (Int32.ofNat q) K = K (τ 256 q) := by
  have l256 : ln (248 + 8) = 3 := by decide +kernel
  exact bald_nat (by rw [l256]; exact hq)
/-- an order carried out on both sides -/
theorem carry {σ τ : St} {nb ns nc ni k p n : Nat} {c : Nat → Nat} (r : RS σ 5 (τ 249) nb ns nc ni) (i : Iv (τ 249) nb ns nc ni) (hk : k < 20) (hR : odR c n p = 1) (h6 : σ 246 k = Int32.ofNat (c p)) (h7 : ∀ q, q < ar (fmN (fz (c p))) → σ 247 (3 * k + q) = Int32.ofNat (odV c n p q)) (t12 : τ 248 12 = Int32.ofNat (c p)) (t6 : ∀ q, q < ar (fmN (fz (c p))) → τ 256 q = Int32.ofNat (odV c n p q)) : Opx σ τ (M_X10_obey σ 0 (Int32.ofNat k)) (M_X11_carries τ 248) := by
  have n0 : M_X5_numberOf σ 245 (Int32.ofNat k) 0 = some (σ, σ 247 (3 * k + 0)) := nu_ex σ (w := 0) hk (by decide)
  have n1 : M_X5_numberOf σ 245 (Int32.ofNat k) 1 = some (σ, σ 247 (3 * k + 1)) := nu_ex σ (w := 1) hk (by decide)
  have n2 : M_X5_numberOf σ 245 (Int32.ofNat k) 2 = some (σ, σ 247 (3 * k + 2)) := nu_ex σ (w := 2) hk (by decide)
  have l0 := le_ex σ hk
  have b0 : ∀ (K : Int32 → Option (St × Int32)), bald τ (248 + 8) 0 K = K (τ 256 0) := fun K => ld_told (q := 0) (by decide) K
  have b1 : ∀ (K : Int32 → Option (St × Int32)), bald τ (248 + 8) 1 K = K (τ 256 1) := fun K => ld_told (q := 1) (by decide) K
  have b2 : ∀ (K : Int32 → Option (St × Int32)), bald τ (248 + 8) 2 K = K (τ 256 2) := fun K => ld_told (q := 2) (by decide) K
  have hv := fz_val (odK_of hR).2
  rcases hv with hL | hL | hL | hL | hL | hL | hL | hL
  · rw [hL] at h6 h7 t12 t6
    have v0 : σ 247 (3 * k + 0) = Int32.ofNat (odV c n p 0) := h7 0 (by decide)
    have w0 : τ 256 0 = Int32.ofNat (odV c n p 0) := t6 0 (by decide)
    have v1 : σ 247 (3 * k + 1) = Int32.ofNat (odV c n p 1) := h7 1 (by decide)
    have w1 : τ 256 1 = Int32.ofNat (odV c n p 1) := t6 1 (by decide)
    have v2 : σ 247 (3 * k + 2) = Int32.ofNat (odV c n p 2) := h7 2 (by decide)
    have w2 : τ 256 2 = Int32.ofNat (odV c n p 2) := t6 2 (by decide)
    have hc : M_X10_obey σ 0 (Int32.ofNat k) = M_X8_addStorey σ 1 (Int32.ofNat (odV c n p 0)) (Int32.ofNat (odV c n p 1)) (Int32.ofNat (odV c n p 2)) := by
      unfold M_X10_obey
      simp only [Nat.zero_add]
      rw [bcall_of n0, bcall_of n1, bcall_of l0, h6, show (Int32.ofNat 98).toInt = 98 from rfl]
      rw [if_neg (show ¬ ((98 : Int) < 98 ∨ 117 < (98 : Int)) from by decide), if_pos (show (98 : Int) = 98 from rfl)]
      rw [bcall_of n2, v0, v1, v2, bcall_id]
    have hr : M_X11_carries τ 248 = M_X11_builds τ 248 (Int32.ofNat (odV c n p 0)) (Int32.ofNat (odV c n p 1)) (Int32.ofNat (odV c n p 2)) := by
      unfold M_X11_carries
      rw [t12, show (Int32.ofNat 98).toInt = 98 from rfl]
      rw [if_neg (show ¬ ((98 : Int) < 98 ∨ 117 < (98 : Int)) from by decide), if_pos (show (98 : Int) = 98 from rfl)]
      rw [b0, b1, b2, w0, w1, w2, bcall_id]
    rw [hc, hr]
    exact O_build r i _ _ _
  · rw [hL] at h6 h7 t12 t6
    have v0 : σ 247 (3 * k + 0) = Int32.ofNat (odV c n p 0) := h7 0 (by decide)
    have w0 : τ 256 0 = Int32.ofNat (odV c n p 0) := t6 0 (by decide)
    have hc : M_X10_obey σ 0 (Int32.ofNat k) = M_X8_callDown σ 1 (Int32.ofNat (odV c n p 0)) := by
      unfold M_X10_obey
      simp only [Nat.zero_add]
      rw [bcall_of n0, bcall_of n1, bcall_of l0, h6, show (Int32.ofNat 100).toInt = 100 from rfl]
      rw [if_neg (show ¬ ((100 : Int) < 98 ∨ 117 < (100 : Int)) from by decide), if_neg (show ¬ ((100 : Int) = 98) from by decide), if_neg (show ¬ ((100 : Int) = 99) from by decide), if_pos (show (100 : Int) = 100 from rfl)]
      rw [v0, bcall_id]
    have hr : M_X11_carries τ 248 = M_X11_comesDown τ 248 (Int32.ofNat (odV c n p 0)) := by
      unfold M_X11_carries
      rw [t12, show (Int32.ofNat 100).toInt = 100 from rfl]
      rw [if_neg (show ¬ ((100 : Int) < 98 ∨ 117 < (100 : Int)) from by decide), if_neg (show ¬ ((100 : Int) = 98) from by decide), if_neg (show ¬ ((100 : Int) = 99) from by decide), if_pos (show (100 : Int) = 100 from rfl)]
      rw [b0, w0, bcall_id]
    rw [hc, hr]
    exact O_down r i _
  · rw [hL] at h6 h7 t12 t6
    have v0 : σ 247 (3 * k + 0) = Int32.ofNat (odV c n p 0) := h7 0 (by decide)
    have w0 : τ 256 0 = Int32.ofNat (odV c n p 0) := t6 0 (by decide)
    have hc : M_X10_obey σ 0 (Int32.ofNat k) = M_X8_changeSignal σ 1 (Int32.ofNat (odV c n p 0)) := by
      unfold M_X10_obey
      simp only [Nat.zero_add]
      rw [bcall_of n0, bcall_of n1, bcall_of l0, h6, show (Int32.ofNat 103).toInt = 103 from rfl]
      rw [if_neg (show ¬ ((103 : Int) < 98 ∨ 117 < (103 : Int)) from by decide), if_neg (show ¬ ((103 : Int) = 98) from by decide), if_neg (show ¬ ((103 : Int) = 99) from by decide), if_neg (show ¬ ((103 : Int) = 100) from by decide), if_neg (show ¬ ((103 : Int) = 101) from by decide), if_neg (show ¬ ((103 : Int) = 102) from by decide), if_pos (show (103 : Int) = 103 from rfl)]
      rw [v0, bcall_id]
    have hr : M_X11_carries τ 248 = M_X11_signals τ 248 (Int32.ofNat (odV c n p 0)) := by
      unfold M_X11_carries
      rw [t12, show (Int32.ofNat 103).toInt = 103 from rfl]
      rw [if_neg (show ¬ ((103 : Int) < 98 ∨ 117 < (103 : Int)) from by decide), if_neg (show ¬ ((103 : Int) = 98) from by decide), if_neg (show ¬ ((103 : Int) = 99) from by decide), if_neg (show ¬ ((103 : Int) = 100) from by decide), if_neg (show ¬ ((103 : Int) = 101) from by decide), if_neg (show ¬ ((103 : Int) = 102) from by decide), if_pos (show (103 : Int) = 103 from rfl)]
      rw [b0, w0, bcall_id]
    rw [hc, hr]
    exact O_signal r i _
  · rw [hL] at h6 h7 t12 t6
    have v0 : σ 247 (3 * k + 0) = Int32.ofNat (odV c n p 0) := h7 0 (by decide)
    have w0 : τ 256 0 = Int32.ofNat (odV c n p 0) := t6 0 (by decide)
    have v1 : σ 247 (3 * k + 1) = Int32.ofNat (odV c n p 1) := h7 1 (by decide)
    have w1 : τ 256 1 = Int32.ofNat (odV c n p 1) := t6 1 (by decide)
    have hc : M_X10_obey σ 0 (Int32.ofNat k) = M_X8_lookAt σ 1 (Int32.ofNat (odV c n p 0)) (Int32.ofNat (odV c n p 1)) := by
      unfold M_X10_obey
      simp only [Nat.zero_add]
      rw [bcall_of n0, bcall_of n1, bcall_of l0, h6, show (Int32.ofNat 105).toInt = 105 from rfl]
      rw [if_neg (show ¬ ((105 : Int) < 98 ∨ 117 < (105 : Int)) from by decide), if_neg (show ¬ ((105 : Int) = 98) from by decide), if_neg (show ¬ ((105 : Int) = 99) from by decide), if_neg (show ¬ ((105 : Int) = 100) from by decide), if_neg (show ¬ ((105 : Int) = 101) from by decide), if_neg (show ¬ ((105 : Int) = 102) from by decide), if_neg (show ¬ ((105 : Int) = 103) from by decide), if_neg (show ¬ ((105 : Int) = 104) from by decide), if_pos (show (105 : Int) = 105 from rfl)]
      rw [v0, v1, bcall_id]
    have hr : M_X11_carries τ 248 = M_X11_inspects τ 248 (Int32.ofNat (odV c n p 0)) (Int32.ofNat (odV c n p 1)) := by
      unfold M_X11_carries
      rw [t12, show (Int32.ofNat 105).toInt = 105 from rfl]
      rw [if_neg (show ¬ ((105 : Int) < 98 ∨ 117 < (105 : Int)) from by decide), if_neg (show ¬ ((105 : Int) = 98) from by decide), if_neg (show ¬ ((105 : Int) = 99) from by decide), if_neg (show ¬ ((105 : Int) = 100) from by decide), if_neg (show ¬ ((105 : Int) = 101) from by decide), if_neg (show ¬ ((105 : Int) = 102) from by decide), if_neg (show ¬ ((105 : Int) = 103) from by decide), if_neg (show ¬ ((105 : Int) = 104) from by decide), if_pos (show (105 : Int) = 105 from rfl)]
      rw [b0, b1, w0, w1, bcall_id]
    rw [hc, hr]
    exact O_inspect r i _ _
  · rw [hL] at h6 h7 t12 t6
    have v0 : σ 247 (3 * k + 0) = Int32.ofNat (odV c n p 0) := h7 0 (by decide)
    have w0 : τ 256 0 = Int32.ofNat (odV c n p 0) := t6 0 (by decide)
    have v1 : σ 247 (3 * k + 1) = Int32.ofNat (odV c n p 1) := h7 1 (by decide)
    have w1 : τ 256 1 = Int32.ofNat (odV c n p 1) := t6 1 (by decide)
    have hc : M_X10_obey σ 0 (Int32.ofNat k) = M_X8_bringLoads σ 1 (Int32.ofNat (odV c n p 0)) (Int32.ofNat (odV c n p 1)) := by
      unfold M_X10_obey
      simp only [Nat.zero_add]
      rw [bcall_of n0, bcall_of n1, bcall_of l0, h6, show (Int32.ofNat 108).toInt = 108 from rfl]
      rw [if_neg (show ¬ ((108 : Int) < 98 ∨ 117 < (108 : Int)) from by decide), if_neg (show ¬ ((108 : Int) = 98) from by decide), if_neg (show ¬ ((108 : Int) = 99) from by decide), if_neg (show ¬ ((108 : Int) = 100) from by decide), if_neg (show ¬ ((108 : Int) = 101) from by decide), if_neg (show ¬ ((108 : Int) = 102) from by decide), if_neg (show ¬ ((108 : Int) = 103) from by decide), if_neg (show ¬ ((108 : Int) = 104) from by decide), if_neg (show ¬ ((108 : Int) = 105) from by decide), if_neg (show ¬ ((108 : Int) = 106) from by decide), if_neg (show ¬ ((108 : Int) = 107) from by decide), if_pos (show (108 : Int) = 108 from rfl)]
      rw [v0, v1, bcall_id]
    have hr : M_X11_carries τ 248 = M_X11_lifts τ 248 (Int32.ofNat (odV c n p 0)) (Int32.ofNat (odV c n p 1)) := by
      unfold M_X11_carries
      rw [t12, show (Int32.ofNat 108).toInt = 108 from rfl]
      rw [if_neg (show ¬ ((108 : Int) < 98 ∨ 117 < (108 : Int)) from by decide), if_neg (show ¬ ((108 : Int) = 98) from by decide), if_neg (show ¬ ((108 : Int) = 99) from by decide), if_neg (show ¬ ((108 : Int) = 100) from by decide), if_neg (show ¬ ((108 : Int) = 101) from by decide), if_neg (show ¬ ((108 : Int) = 102) from by decide), if_neg (show ¬ ((108 : Int) = 103) from by decide), if_neg (show ¬ ((108 : Int) = 104) from by decide), if_neg (show ¬ ((108 : Int) = 105) from by decide), if_neg (show ¬ ((108 : Int) = 106) from by decide), if_neg (show ¬ ((108 : Int) = 107) from by decide), if_pos (show (108 : Int) = 108 from rfl)]
      rw [b0, b1, w0, w1, bcall_id]
    rw [hc, hr]
    exact O_lift r i _ _
  · rw [hL] at h6 h7 t12 t6
    have v0 : σ 247 (3 * k + 0) = Int32.ofNat (odV c n p 0) := h7 0 (by decide)
    have w0 : τ 256 0 = Int32.ofNat (odV c n p 0) := t6 0 (by decide)
    have hc : M_X10_obey σ 0 (Int32.ofNat k) = M_X8_passDays σ 1 (Int32.ofNat (odV c n p 0)) := by
      unfold M_X10_obey
      simp only [Nat.zero_add]
      rw [bcall_of n0, bcall_of n1, bcall_of l0, h6, show (Int32.ofNat 110).toInt = 110 from rfl]
      rw [if_neg (show ¬ ((110 : Int) < 98 ∨ 117 < (110 : Int)) from by decide), if_neg (show ¬ ((110 : Int) = 98) from by decide), if_neg (show ¬ ((110 : Int) = 99) from by decide), if_neg (show ¬ ((110 : Int) = 100) from by decide), if_neg (show ¬ ((110 : Int) = 101) from by decide), if_neg (show ¬ ((110 : Int) = 102) from by decide), if_neg (show ¬ ((110 : Int) = 103) from by decide), if_neg (show ¬ ((110 : Int) = 104) from by decide), if_neg (show ¬ ((110 : Int) = 105) from by decide), if_neg (show ¬ ((110 : Int) = 106) from by decide), if_neg (show ¬ ((110 : Int) = 107) from by decide), if_neg (show ¬ ((110 : Int) = 108) from by decide), if_neg (show ¬ ((110 : Int) = 109) from by decide), if_pos (show (110 : Int) = 110 from rfl)]
      rw [v0, bcall_id]
    have hr : M_X11_carries τ 248 = M_X11_days τ 248 (Int32.ofNat (odV c n p 0)) := by
      unfold M_X11_carries
      rw [t12, show (Int32.ofNat 110).toInt = 110 from rfl]
      rw [if_neg (show ¬ ((110 : Int) < 98 ∨ 117 < (110 : Int)) from by decide), if_neg (show ¬ ((110 : Int) = 98) from by decide), if_neg (show ¬ ((110 : Int) = 99) from by decide), if_neg (show ¬ ((110 : Int) = 100) from by decide), if_neg (show ¬ ((110 : Int) = 101) from by decide), if_neg (show ¬ ((110 : Int) = 102) from by decide), if_neg (show ¬ ((110 : Int) = 103) from by decide), if_neg (show ¬ ((110 : Int) = 104) from by decide), if_neg (show ¬ ((110 : Int) = 105) from by decide), if_neg (show ¬ ((110 : Int) = 106) from by decide), if_neg (show ¬ ((110 : Int) = 107) from by decide), if_neg (show ¬ ((110 : Int) = 108) from by decide), if_neg (show ¬ ((110 : Int) = 109) from by decide), if_pos (show (110 : Int) = 110 from rfl)]
      rw [b0, w0, bcall_id]
    rw [hc, hr]
    exact O_day r i _
  · rw [hL] at h6 h7 t12 t6
    have v0 : σ 247 (3 * k + 0) = Int32.ofNat (odV c n p 0) := h7 0 (by decide)
    have w0 : τ 256 0 = Int32.ofNat (odV c n p 0) := t6 0 (by decide)
    have hc : M_X10_obey σ 0 (Int32.ofNat k) = M_X8_tieAnew σ 1 (Int32.ofNat (odV c n p 0)) := by
      unfold M_X10_obey
      simp only [Nat.zero_add]
      rw [bcall_of n0, bcall_of n1, bcall_of l0, h6, show (Int32.ofNat 116).toInt = 116 from rfl]
      rw [if_neg (show ¬ ((116 : Int) < 98 ∨ 117 < (116 : Int)) from by decide), if_neg (show ¬ ((116 : Int) = 98) from by decide), if_neg (show ¬ ((116 : Int) = 99) from by decide), if_neg (show ¬ ((116 : Int) = 100) from by decide), if_neg (show ¬ ((116 : Int) = 101) from by decide), if_neg (show ¬ ((116 : Int) = 102) from by decide), if_neg (show ¬ ((116 : Int) = 103) from by decide), if_neg (show ¬ ((116 : Int) = 104) from by decide), if_neg (show ¬ ((116 : Int) = 105) from by decide), if_neg (show ¬ ((116 : Int) = 106) from by decide), if_neg (show ¬ ((116 : Int) = 107) from by decide), if_neg (show ¬ ((116 : Int) = 108) from by decide), if_neg (show ¬ ((116 : Int) = 109) from by decide), if_neg (show ¬ ((116 : Int) = 110) from by decide), if_neg (show ¬ ((116 : Int) = 111) from by decide), if_neg (show ¬ ((116 : Int) = 112) from by decide), if_neg (show ¬ ((116 : Int) = 113) from by decide), if_neg (show ¬ ((116 : Int) = 114) from by decide), if_neg (show ¬ ((116 : Int) = 115) from by decide), if_pos (show (116 : Int) = 116 from rfl)]
      rw [v0, bcall_id]
    have hr : M_X11_carries τ 248 = M_X11_ties τ 248 (Int32.ofNat (odV c n p 0)) := by
      unfold M_X11_carries
      rw [t12, show (Int32.ofNat 116).toInt = 116 from rfl]
      rw [if_neg (show ¬ ((116 : Int) < 98 ∨ 117 < (116 : Int)) from by decide), if_neg (show ¬ ((116 : Int) = 98) from by decide), if_neg (show ¬ ((116 : Int) = 99) from by decide), if_neg (show ¬ ((116 : Int) = 100) from by decide), if_neg (show ¬ ((116 : Int) = 101) from by decide), if_neg (show ¬ ((116 : Int) = 102) from by decide), if_neg (show ¬ ((116 : Int) = 103) from by decide), if_neg (show ¬ ((116 : Int) = 104) from by decide), if_neg (show ¬ ((116 : Int) = 105) from by decide), if_neg (show ¬ ((116 : Int) = 106) from by decide), if_neg (show ¬ ((116 : Int) = 107) from by decide), if_neg (show ¬ ((116 : Int) = 108) from by decide), if_neg (show ¬ ((116 : Int) = 109) from by decide), if_neg (show ¬ ((116 : Int) = 110) from by decide), if_neg (show ¬ ((116 : Int) = 111) from by decide), if_neg (show ¬ ((116 : Int) = 112) from by decide), if_neg (show ¬ ((116 : Int) = 113) from by decide), if_neg (show ¬ ((116 : Int) = 114) from by decide), if_neg (show ¬ ((116 : Int) = 115) from by decide), if_pos (show (116 : Int) = 116 from rfl)]
      rw [b0, w0, bcall_id]
    rw [hc, hr]
    exact O_tie r i _
  · rw [hL] at h6 h7 t12 t6
    have v0 : σ 247 (3 * k + 0) = Int32.ofNat (odV c n p 0) := h7 0 (by decide)
    have w0 : τ 256 0 = Int32.ofNat (odV c n p 0) := t6 0 (by decide)
    have v1 : σ 247 (3 * k + 1) = Int32.ofNat (odV c n p 1) := h7 1 (by decide)
    have w1 : τ 256 1 = Int32.ofNat (odV c n p 1) := t6 1 (by decide)
    have hc : M_X10_obey σ 0 (Int32.ofNat k) = M_X8_sendUp σ 1 (Int32.ofNat (odV c n p 0)) (Int32.ofNat (odV c n p 1)) := by
      unfold M_X10_obey
      simp only [Nat.zero_add]
      rw [bcall_of n0, bcall_of n1, bcall_of l0, h6, show (Int32.ofNat 117).toInt = 117 from rfl]
      rw [if_neg (show ¬ ((117 : Int) < 98 ∨ 117 < (117 : Int)) from by decide), if_neg (show ¬ ((117 : Int) = 98) from by decide), if_neg (show ¬ ((117 : Int) = 99) from by decide), if_neg (show ¬ ((117 : Int) = 100) from by decide), if_neg (show ¬ ((117 : Int) = 101) from by decide), if_neg (show ¬ ((117 : Int) = 102) from by decide), if_neg (show ¬ ((117 : Int) = 103) from by decide), if_neg (show ¬ ((117 : Int) = 104) from by decide), if_neg (show ¬ ((117 : Int) = 105) from by decide), if_neg (show ¬ ((117 : Int) = 106) from by decide), if_neg (show ¬ ((117 : Int) = 107) from by decide), if_neg (show ¬ ((117 : Int) = 108) from by decide), if_neg (show ¬ ((117 : Int) = 109) from by decide), if_neg (show ¬ ((117 : Int) = 110) from by decide), if_neg (show ¬ ((117 : Int) = 111) from by decide), if_neg (show ¬ ((117 : Int) = 112) from by decide), if_neg (show ¬ ((117 : Int) = 113) from by decide), if_neg (show ¬ ((117 : Int) = 114) from by decide), if_neg (show ¬ ((117 : Int) = 115) from by decide), if_neg (show ¬ ((117 : Int) = 116) from by decide), if_pos (show (117 : Int) = 117 from rfl)]
      rw [v0, v1, bcall_id]
    have hr : M_X11_carries τ 248 = M_X11_goesUp τ 248 (Int32.ofNat (odV c n p 0)) (Int32.ofNat (odV c n p 1)) := by
      unfold M_X11_carries
      rw [t12, show (Int32.ofNat 117).toInt = 117 from rfl]
      rw [if_neg (show ¬ ((117 : Int) < 98 ∨ 117 < (117 : Int)) from by decide), if_neg (show ¬ ((117 : Int) = 98) from by decide), if_neg (show ¬ ((117 : Int) = 99) from by decide), if_neg (show ¬ ((117 : Int) = 100) from by decide), if_neg (show ¬ ((117 : Int) = 101) from by decide), if_neg (show ¬ ((117 : Int) = 102) from by decide), if_neg (show ¬ ((117 : Int) = 103) from by decide), if_neg (show ¬ ((117 : Int) = 104) from by decide), if_neg (show ¬ ((117 : Int) = 105) from by decide), if_neg (show ¬ ((117 : Int) = 106) from by decide), if_neg (show ¬ ((117 : Int) = 107) from by decide), if_neg (show ¬ ((117 : Int) = 108) from by decide), if_neg (show ¬ ((117 : Int) = 109) from by decide), if_neg (show ¬ ((117 : Int) = 110) from by decide), if_neg (show ¬ ((117 : Int) = 111) from by decide), if_neg (show ¬ ((117 : Int) = 112) from by decide), if_neg (show ¬ ((117 : Int) = 113) from by decide), if_neg (show ¬ ((117 : Int) = 114) from by decide), if_neg (show ¬ ((117 : Int) = 115) from by decide), if_neg (show ¬ ((117 : Int) = 116) from by decide), if_pos (show (117 : Int) = 117 from rfl)]
      rw [b0, b1, w0, w1, bcall_id]
    rw [hc, hr]
    exact O_up r i _ _
/-! an order that is refused -/
theorem ro_step (m : Nat) (σ : St) (x1 x3 : Int32) {j : Nat} (hj : j + 1 < 3) : B_X6_refuseOrder_16 (m + 1) σ 2 x1 x3 (Int32.ofNat (j + 1)) = B_X6_refuseOrder_16 m (u2 (u2 σ 3 (j + 1) (σ 3 j)) 4 (j + 1) (σ 4 j)) 2 x1 x3 (Int32.ofNat j) := by
  have l3 : ln (2 + 1) = 3 := by decide +kernel
  have l4 : ln (2 + 2) = 3 := by decide +kernel
  have p3 : ∀ (s : St) (v : Int32), M_X10_put s (2 + 1) (Int32.ofNat (j + 1)) v = some (u2 s 3 (j + 1) v, 0) := fun s v => put_nat (k := 3) (by rw [show ln 3 = 3 from l3]; exact hj)
  have p4 : ∀ (s : St) (v : Int32), M_X10_put s (2 + 2) (Int32.ofNat (j + 1)) v = some (u2 s 4 (j + 1) v, 0) := fun s v => put_nat (k := 4) (by rw [show ln 4 = 3 from l4]; exact hj)
  have a3 : ∀ (s : St), M_X10_at s (2 + 1) (Int32.ofNat j) = some (s, s 3 j) := fun s => at_nat (k := 3) (by rw [show ln 3 = 3 from l3]; omega)
  have a4 : ∀ (s : St), M_X10_at s (2 + 2) (Int32.ofNat j) = some (s, s 4 j) := fun s => at_nat (k := 4) (by rw [show ln 4 = 3 from l4]; omega)
  simp only [B_X6_refuseOrder_16]
  rw [if_neg (fun q => (oN_leFl (n := 0) (by omega) (by show 0 < j + 1; omega)).mp q), oN_s1, bcall_of (a3 σ), bcall_of (p3 _ _), bcall_of (a4 _), bcall_of (p4 _ _), blet_eq, decr, u2_ne (show 4 ≠ 3 by decide)]
theorem ro_end (m : Nat) (σ : St) (x1 x3 : Int32) : B_X6_refuseOrder_16 (m + 1) σ 2 x1 x3 (Int32.ofNat 0) = some (u2 (u2 (u2 σ 3 0 12) 4 0 x1) 2 2 (imin (x3 + 1) 3), -3) := by
  have l3 : ln (2 + 1) = 3 := by decide +kernel
  have l4 : ln (2 + 2) = 3 := by decide +kernel
  have p3 : ∀ (s : St) (v : Int32), M_X10_put s (2 + 1) 0 v = some (u2 s 3 0 v, 0) := fun s v => put_nat (k := 3) (i := 0) (by rw [show ln 3 = 3 from l3]; decide)
  have p4 : ∀ (s : St) (v : Int32), M_X10_put s (2 + 2) 0 v = some (u2 s 4 0 v, 0) := fun s v => put_nat (k := 4) (i := 0) (by rw [show ln 4 = 3 from l4]; decide)
  simp only [B_X6_refuseOrder_16]
  rw [if_pos (by decide), bcall_of (p3 _ _), bcall_of (p4 _ _), blet_eq, bput_eq]
theorem ro_ex {σ : St} {d : Nat} (e : σ 2 2 = Int32.ofNat d) (hd : d ≤ 2) (x : Int32) : ∃ σ1, M_X6_refuseOrder σ 2 x 1 = some (σ1, -3) ∧ σ1 2 2 = Int32.ofNat (d + 1) ∧ σ1 3 0 = 12 ∧ σ1 4 0 = x ∧ (∀ j, j < d → σ1 3 (j + 1) = σ 3 j ∧ σ1 4 (j + 1) = σ 4 j) ∧ Fr σ σ1 := by
  have ev : ∀ d, d ≤ 2 → imin (Int32.ofNat d + 1) 3 = Int32.ofNat (d + 1) := fun d hd => by rw [oN_al, show (3 : Int32) = Int32.ofNat 3 from rfl, imin_nat (by omega) (by omega), Nat.min_eq_left (by omega)]
  have e0 : M_X6_refuseOrder σ 2 x 1 = B_X6_refuseOrder_16 FU σ 2 x (Int32.ofNat d) (Int32.ofNat d) := by
    unfold M_X6_refuseOrder B_X6_refuseOrder_12
    rw [if_neg (by decide), e]
  have hd3 : d = 0 ∨ d = 1 ∨ d = 2 := by omega
  rcases hd3 with rfl | rfl | rfl
  · refine ⟨_, e0.trans (ro_end 999 σ x _), by rw [u2_self, ev 0 (by decide)], by simp (disch := omega) only [u2_ne, u2_same, u2_self], by simp (disch := omega) only [u2_ne, u2_same, u2_self], fun j hj => by omega, fun k h2 h3 h4 => by rw [u2_ne h2, u2_ne h4, u2_ne h3]⟩
  · refine ⟨_, e0.trans ((ro_step 999 σ x _ (j := 0) (by decide)).trans (ro_end 998 _ x _)), by rw [u2_self, ev 1 (by decide)], by simp (disch := omega) only [u2_ne, u2_same, u2_self], by simp (disch := omega) only [u2_ne, u2_same, u2_self], fun j hj => ?_, fun k h2 h3 h4 => by rw [u2_ne h2, u2_ne h4, u2_ne h3, u2_ne h4, u2_ne h3]⟩
    obtain rfl : j = 0 := by omega
    exact ⟨by simp (disch := omega) only [u2_ne, u2_same, u2_self], by simp (disch := omega) only [u2_ne, u2_same, u2_self]⟩
  · refine ⟨_, e0.trans ((ro_step 999 σ x _ (j := 1) (by decide)).trans ((ro_step 998 _ x _ (j := 0) (by decide)).trans (ro_end 997 _ x _))), by rw [u2_self, ev 2 (by decide)], by simp (disch := omega) only [u2_ne, u2_same, u2_self], by simp (disch := omega) only [u2_ne, u2_same, u2_self], fun j hj => ?_, fun k h2 h3 h4 => by rw [u2_ne h2, u2_ne h4, u2_ne h3, u2_ne h4, u2_ne h3, u2_ne h4, u2_ne h3]⟩
    have hj2 : j = 0 ∨ j = 1 := by omega
    rcases hj2 with rfl | rfl
    · exact ⟨by simp (disch := omega) only [u2_ne, u2_same, u2_self], by simp (disch := omega) only [u2_ne, u2_same, u2_self]⟩
    · exact ⟨by simp (disch := omega) only [u2_ne, u2_same, u2_self], by simp (disch := omega) only [u2_ne, u2_same, u2_self]⟩
theorem ro_no (σ : St) (x : Int32) : ∃ σ1, M_X6_refuseOrder σ 2 x 0 = some (σ1, -3) ∧ σ1 2 2 = Int32.ofNat 1 ∧ σ1 3 0 = 12 ∧ σ1 4 0 = x ∧ Fr σ σ1 := by
  have e0 : M_X6_refuseOrder σ 2 x 0 = B_X6_refuseOrder_16 FU σ 2 x (Int32.ofNat 0) (Int32.ofNat 0) := by
    unfold M_X6_refuseOrder B_X6_refuseOrder_12
    rw [if_pos rfl]
    rfl
  exact ⟨_, e0.trans (ro_end 999 σ x _), by rw [u2_self]; decide, by simp (disch := omega) only [u2_ne, u2_same, u2_self], by simp (disch := omega) only [u2_ne, u2_same, u2_self], fun k h2 h3 h4 => by rw [u2_ne h2, u2_ne h4, u2_ne h3]⟩
/-- both take back what was done -/
theorem back_both {a b : St} {nx : Nat} (h : Co a b) (hx : nx < 9) (ex : a 59 2 = Int32.ofNat nx) (hS : Sc a (pl nx) (b 250)) : ∃ a1 b1, (bcall (M_X2_noted a 59) fun s q => M_X7_take s 5 q) = some (a1, 0) ∧ M_X11_comesBack b 248 = some (b1, 0) ∧ Co a1 b1 ∧ Fn a a1 ∧ ∀ k, k ≠ 249 → b1 k = b k := by
  have hp : pl nx = 79 + 18 * nx := rfl
  obtain ⟨a1, t1, t2, t3⟩ := take_sc a (k := 5) (a := pl nx) B5 (Bp nx hx) (by omega)
  obtain ⟨b1, c1, c2, c3⟩ := back_ex b
  have fn : Fn a a1 := fun k hk => t3 k (by omega)
  exact ⟨a1, b1, by rw [bcall_of (noted_ex ex hx)]; exact t1, c1, h.changed ((t2 _ hS).cg (fun _ _ _ => rfl) c3) fn ⟨fun k _ h2 => c2 k h2, fun q _ => by rw [c2 248 (by decide)]⟩, fn, c2⟩
theorem fail_by {a b : St} {nx : Nat} (h : Co a b) (hP : Pre 2 a b) (hx : nx < 9) (ex : a 59 2 = Int32.ofNat nx) (hS : Sc a (pl nx) (b 250)) (x : Int32) : ∃ a1 b1, (bcall (M_X2_noted a 59) fun s q => bcall (M_X7_take s 5 q) fun s2 _ => bcall (M_X6_refuseOrder s2 2 x 1) fun s r => some (s, r)) = some (a1, -3) ∧ (bcall (M_X11_comesBack b 248) fun s _ => bcall (M_X11_refusesBy s 248 12 x) fun s r => some (s, r)) = some (b1, -3) ∧ Co a1 b1 ∧ (∀ k, 248 ≤ k → a1 k = a k) ∧ ∀ k, k < 248 → b1 k = b k := by
  obtain ⟨a1, b1, e1, e2, hC, fn, fb⟩ := back_both h hx ex hS
  have e1 : M_X7_take a 5 (pl nx) = some (a1, 0) := by rw [bcall_of (noted_ex ex hx)] at e1; exact e1
  obtain ⟨d, hd, q1, q2, q3⟩ := hP
  have p1 : a1 2 2 = Int32.ofNat d := by rw [fn 2 (by omega)]; exact q1
  have p2 : b1 248 16 = Int32.ofNat d := by rw [fb 248 (by decide)]; exact q2
  obtain ⟨a2, r1, r2, r3, r4, r5, r6⟩ := ro_ex p1 hd x
  obtain ⟨b2, s1, s2, s3, s4, s5, s6⟩ := rby_ex p2 hd 12 x
  refine ⟨a2, b2, by rw [bcall_of (noted_ex ex hx), bcall_of e1, bcall_of r1], by rw [bcall_of e2, bcall_of s1], hC.refused (m := 3) ⟨d + 1, by omega, r2, s2, fun j hj => ?_⟩ (by decide) r6 s6, fun k hk => by rw [r6 k (by omega) (by omega) (by omega), fn k (by omega)], fun k hk => by rw [s6.1 k (by omega) (by omega), fb k (by omega)]⟩
  rcases j with _ | j
  · exact ⟨by rw [r3]; exact s3.symm, by rw [r4]; exact s4.symm⟩
  · obtain ⟨z1, z2⟩ := q3 j (by omega)
    obtain ⟨y1, y2⟩ := r5 j (by omega)
    refine ⟨?_, ?_⟩
    · rw [y1, fn 3 (by omega), z1, show 2 * (j + 1) = 2 * j + 2 by omega, s5 (2 * j) (by omega), fb 257 (by decide)]
    · rw [y2, fn 4 (by omega), z2, show 2 * (j + 1) + 1 = 2 * j + 1 + 2 by omega, s5 (2 * j + 1) (by omega), fb 257 (by decide)]
theorem fail_no {a b : St} {nx : Nat} (h : Co a b) (hx : nx < 9) (ex : a 59 2 = Int32.ofNat nx) (hS : Sc a (pl nx) (b 250)) (x : Int32) : ∃ a1 b1, (bcall (M_X2_noted a 59) fun s q => bcall (M_X7_take s 5 q) fun s2 _ => bcall (M_X6_refuseOrder s2 2 x 0) fun s r => some (s, r)) = some (a1, -3) ∧ (bcall (M_X11_comesBack b 248) fun s _ => bcall (M_X11_refuses s 248 12 x) fun s r => some (s, r)) = some (b1, -3) ∧ Co a1 b1 ∧ (∀ k, 248 ≤ k → a1 k = a k) ∧ ∀ k, k < 248 → b1 k = b k := by
  obtain ⟨a1, b1, e1, e2, hC, fn, fb⟩ := back_both h hx ex hS
  have e1 : M_X7_take a 5 (pl nx) = some (a1, 0) := by rw [bcall_of (noted_ex ex hx)] at e1; exact e1
  obtain ⟨a2, r1, r2, r3, r4, r6⟩ := ro_no a1 x
  obtain ⟨σz, b2, _, s1, hP, _, s6⟩ := ref_ex a1 b1 12 x
  have l257 : ln 257 = 8 := by decide +kernel
  have w1 : ∀ (s : St) (v : Int32) (K : St → Option (St × Int32)), bast s (248 + 9) 0 v K = K (u2 s 257 0 v) := fun s v K => bast_nat (k := 257) (i := 0) (by rw [l257]; decide)
  have w2 : ∀ (s : St) (v : Int32) (K : St → Option (St × Int32)), bast s (248 + 9) 1 v K = K (u2 s 257 1 v) := fun s v K => bast_nat (k := 257) (i := 1) (by rw [l257]; decide)
  have eb : M_X11_refuses b1 248 12 x = some (u2 (u2 (u2 b1 257 0 12) 257 1 x) 248 16 1, -3) := by simp only [M_X11_refuses, w1, w2, bput_eq]
  rw [s1] at eb
  have eb2 : b2 = u2 (u2 (u2 b1 257 0 12) 257 1 x) 248 16 1 := congrArg Prod.fst (Option.some.inj eb)
  refine ⟨a2, b2, by rw [bcall_of (noted_ex ex hx), bcall_of e1, bcall_of r1], by rw [bcall_of e2, bcall_of s1], hC.refused (m := 3) ⟨1, by omega, r2, by rw [eb2, u2_self]; rfl, fun j hj => ?_⟩ (by decide) r6 s6, fun k hk => by rw [r6 k (by omega) (by omega) (by omega), fn k (by omega)], fun k hk => by rw [s6.1 k (by omega) (by omega), fb k (by omega)]⟩
  obtain rfl : j = 0 := by omega
  refine ⟨?_, ?_⟩
  · rw [r3, eb2]
    show (12 : Int32) = u2 (u2 (u2 b1 257 0 12) 257 1 x) 248 16 1 257 0
    simp (disch := omega) only [u2_ne, u2_same, u2_self]
  · rw [r4, eb2]
    show x = u2 (u2 (u2 b1 257 0 12) 257 1 x) 248 16 1 257 1
    simp (disch := omega) only [u2_ne, u2_same, u2_self]
theorem Co.under {σ τ σ1 τ1 : St} (h : Co σ τ) (hS : Sc σ1 5 (τ1 249)) (a : Fn σ σ1) (b : ∀ k, ((252 ≤ k ∧ k < 256) ∨ k = 257) → τ1 k = τ k) (c : ∀ q, (q = 4 ∨ q = 6 ∨ q = 8 ∨ q = 10 ∨ q = 14 ∨ q = 16) → τ1 248 q = τ 248 q) : Co σ1 τ1 :=
  ⟨hS, h.sv.cg (by rw [a 0 (by omega)]) (c 6 (by omega)) (fun k h1 h2 => a k (by omega)) (fun q _ => by rw [b 253 (by omega)]),
    h.hi.cg (a 59 (by omega)) (c 4 (by omega)) (fun k h1 h2 => a k (by omega)) (b 252 (by omega)), h.inp.cg (by rw [a 241 (by omega)]) (c 10 (by omega)) (a 242 (by omega)) (b 255 (by omega)),
    h.lin.cg (by rw [a 243 (by omega)]) (c 8 (by omega)) (a 244 (by omega)) (b 254 (by omega)), by unfold Pfl; rw [a 0 (by omega), c 14 (by omega)]; exact h.fl,
    h.re.cg (by rw [a 2 (by omega)]) (c 16 (by omega)) (a 3 (by omega)) (a 4 (by omega)) (b 257 (by omega))⟩
/-- the orders of a text that was read -/
theorem run {c : Nat → Nat} {n K nx : Nat} {σn τb : St} (h : Co σn (u2 τb 248 10 0)) (U : Tt c n τb) (e11 : τb 248 11 = Int32.ofNat 0) (hx : nx < 9) (ex : σn 59 2 = Int32.ofNat nx) (hS : Sc σn (pl nx) (τb 250)) (hK : K + 1 ≤ 20) (eK : σn 245 2 = Int32.ofNat (K + 1)) (st : ∀ j, j < K + 1 → Std c n σn j) (ch : ∀ j, j < K → odP c n (ps c n j) < n ∧ c (odP c n (ps c n j)) = 59) (en : odP c n (ps c n K) = n) : ∃ σ1 τ1 v, B_X10_script_46 FU σn 0 0 = some (σ1, v) ∧ B_X11_script_86 FU τb 248 0 0 1 = some (τ1, v) ∧ Co σ1 τ1 ∧ (∀ k, 248 ≤ k → σ1 k = σn k) ∧ ∀ k, k < 248 → τ1 k = τb k := by
  have hn := U.hn
  have ni1 : ¬ ((1 : Int32) = 0) := by decide
  have hp : pl nx = 79 + 18 * nx := rfl
  have pn : ∀ j, j ≤ K → ps c n j ≤ n := fun j hj => by
    rcases j with _ | j
    · exact Nat.zero_le _
    · have := (ch j (by omega)).1
      show odP c n (ps c n j) + 1 ≤ n
      omega
  refine two2 (F := fun m a x => B_X10_script_46 m a 0 x) (G := fun m b x => B_X11_script_86 m b 248 x 0 1) (I := fun k a b => k ≤ K ∧ Sc a 5 (b 249) ∧ Fn σn a ∧ (∀ j, j ≠ 248 → j ≠ 249 → j ≠ 256 → b j = τb j) ∧ (∀ q, q ≠ 11 → q ≠ 12 → q ≠ 17 → b 248 q = τb 248 q) ∧ b 248 11 = Int32.ofNat (ps c n k)) (P := fun x y => ∃ σ1 τ1 v, x = some (σ1, v) ∧ y = some (τ1, v) ∧ Co σ1 τ1 ∧ (∀ k, 248 ≤ k → σ1 k = σn k) ∧ ∀ k, k < 248 → τ1 k = τb k) (N := K + 1) ?_ ?_ (K + 1) 0 FU FU σn τb (by omega) (FU_lt (by omega)) (FU_lt (by omega)) ⟨Nat.zero_le _, ?_, fun _ _ => rfl, fun _ _ _ _ => rfl, fun _ _ _ _ => rfl, e11⟩
  · rintro m1 m2 a b ⟨q, _⟩
    omega
  · rintro m1 m2 k a b hk hm1 hm2 ⟨hkK, sc, fn, fb, fq, b11⟩
    have Ub : Tt c n b := U.cg (fq 10 (by decide) (by decide) (by decide)) (fb 255 (by decide) (by decide) (by decide))
    obtain ⟨o1, o2, o3⟩ := st k hk
    obtain ⟨τ1, s1, s2, s3, s4, s5, s6⟩ := order_r Ub (pn k hkK) b11
    rw [o1] at s1
    have sc1 : Sc a 5 (τ1 249) := by rw [s5 249 (by decide) (by decide)]; exact sc
    obtain ⟨nb, ns, nc, ni, r, i⟩ := sc1
    have hop := carry (c := c) (n := n) (p := ps c n k) (k := k) r i (by omega) o1 (by rw [fn 246 (by omega)]; exact o2) (fun q hq => by rw [fn 247 (by omega)]; exact o3 q hq) (s3 (odK_of o1)) (s4 o1)
    have ea : a 245 2 = Int32.ofNat (K + 1) := by rw [fn 245 (by omega)]; exact eK
    have exa : ∀ (s : St), (∀ j, 23 ≤ j → s j = a j) → s 59 2 = Int32.ofNat nx := fun s hs => by rw [hs 59 (by decide), fn 59 (by omega)]; exact ex
    -- the reference with its text put away
    have tb : ∀ k, k ≠ 248 → k ≠ 249 → k ≠ 256 → τ1 k = τb k := fun k q1 q2 q3 => by rw [s5 k q1 q3, fb k q1 q2 q3]
    have tq : ∀ q, q ≠ 11 → q ≠ 12 → q ≠ 17 → τ1 248 q = τb 248 q := fun q q1 q2 q3 => by rw [s6 q q1 q2, fq q q1 q2 q3]
    have co : ∀ (a1 b1 : St), Sc a1 5 (b1 249) → Fn a a1 → (∀ k, k ≠ 248 → k ≠ 249 → b1 k = τ1 k) → (∀ q, q ≠ 17 → b1 248 q = τ1 248 q) → Co a1 (u2 b1 248 10 0) := fun a1 b1 z1 z2 z3 z4 => by
      refine h.under ?_ (fun k hk => by rw [z2 k hk, fn k hk]) (fun k hk => by rw [u2_ne (by omega), u2_ne (by omega), z3 k (by omega) (by omega), tb k (by omega) (by omega) (by omega)]) (fun q hq => ?_)
      · rw [u2_ne (by decide)]; exact z1
      · by_cases e : q = 10
        · rw [e, u2_self, u2_self]
        · rw [u2_same e, u2_same e, z4 q (by omega), tq q (by omega) (by omega) (by omega)]
    have scn : ∀ (a1 b1 : St), (∀ j, 23 ≤ j → a1 j = a j) → b1 250 = τ1 250 → Sc a1 (pl nx) (u2 b1 248 10 0 250) := fun a1 b1 z1 z2 => by
      rw [u2_ne (by decide), z2, tb 250 (by decide) (by decide) (by decide)]
      exact hS.cg (fun k h1 _ => by rw [z1 k (by omega), fn k (by omega)]) (fun _ _ => rfl)
    obtain ⟨m2, rfl⟩ : ∃ d, m2 = d + 1 := ⟨m2 - 1, by omega⟩
    have eC : B_X10_script_46 (m1 + 1) a 0 (Int32.ofNat k) = bcall (M_X10_obey a 0 (Int32.ofNat k)) fun σ9 r10 => if 0 ≤ r10 then (blet (Int32.ofNat k + (1 : Int32)) fun v11 => B_X10_script_46 m1 σ9 0 v11) else (bcall (M_X2_noted σ9 59) fun σ12 r13 => bcall (M_X7_take σ12 5 r13) fun σ14 r15 => if r10 = (-3 : Int32) then (bcall (M_X6_refuseOrder σ14 2 (Int32.ofNat k) (1 : Int32)) fun σ18 r19 => some (σ18, r19)) else (bcall (M_X6_refuseOrder σ14 2 (Int32.ofNat k) (0 : Int32)) fun σ16 r17 => some (σ16, r17))) := by
      simp only [B_X10_script_46, Nat.zero_add, Nat.reduceAdd]
      rw [ea, if_neg (oN_nle (by omega) (by omega) (by omega))]
    have eR : ∀ (b1 : St) (v : Int32), M_X11_carries τ1 248 = some (b1, v) → ¬ v = 0 → B_X11_script_86 (m2 + 1 + 1) b 248 (Int32.ofNat k) 0 1 = bcall (M_X11_comesBack (u2 b1 248 10 0) 248) fun σ8 _ => if v = (-3 : Int32) then (bcall (M_X11_refusesBy σ8 248 (12 : Int32) (Int32.ofNat k)) fun σ12 r13 => some (σ12, r13)) else (bcall (M_X11_refuses σ8 248 (12 : Int32) (Int32.ofNat k)) fun σ10 r11 => some (σ10, r11)) := fun b1 v z1 z2 => by
      rw [show B_X11_script_86 (m2 + 1 + 1) b 248 (Int32.ofNat k) 0 1 = if (1 : Int32) = 0 then (bput b 248 10 (0 : Int32) fun σ7 => if (0 : Int32) = 0 then (bcall (M_X11_keeps σ7 248 (Int32.ofNat k)) fun σ15 r16 => some (σ15, r16)) else (bcall (M_X11_comesBack σ7 248) fun σ8 r9 => if (0 : Int32) = (-3 : Int32) then (bcall (M_X11_refusesBy σ8 248 (12 : Int32) (Int32.ofNat k)) fun σ12 r13 => some (σ12, r13)) else (bcall (M_X11_refuses σ8 248 (12 : Int32) (Int32.ofNat k)) fun σ10 r11 => some (σ10, r11)))) else (bcall (M_X11_isOrder b 248) fun σ18 r19 => bcall (M_X11_carries σ18 248) fun σ20 r21 => if r21 = 0 then (blet (Int32.ofNat k + (1 : Int32)) fun v26 => if r21 = 0 then (bcall (M_X11_isNext σ20 248 (59 : Int32)) fun σ27 r28 => if r28 = 0 then (B_X11_script_86 (m2 + 1) σ27 248 v26 r21 (0 : Int32)) else (B_X11_script_86 (m2 + 1) σ27 248 v26 r21 (1 : Int32))) else (B_X11_script_86 (m2 + 1) σ20 248 v26 r21 (0 : Int32))) else (if r21 = 0 then (bcall (M_X11_isNext σ20 248 (59 : Int32)) fun σ22 r23 => if r23 = 0 then (B_X11_script_86 (m2 + 1) σ22 248 (Int32.ofNat k) r21 (0 : Int32)) else (B_X11_script_86 (m2 + 1) σ22 248 (Int32.ofNat k) r21 (1 : Int32))) else (B_X11_script_86 (m2 + 1) σ20 248 (Int32.ofNat k) r21 (0 : Int32)))) from rfl]
      rw [if_neg ni1, bcall_of s1, bcall_of z1, if_neg z2, if_neg z2]
      simp only [B_X11_script_86]
      rw [if_pos trivial, bput_eq, if_neg z2]
    have eO : ∀ (b1 : St), M_X11_carries τ1 248 = some (b1, 0) → B_X11_script_86 (m2 + 1 + 1) b 248 (Int32.ofNat k) 0 1 = bcall (M_X11_isNext b1 248 (59 : Int32)) fun σ27 r28 => if r28 = 0 then (B_X11_script_86 (m2 + 1) σ27 248 (Int32.ofNat (k + 1)) 0 (0 : Int32)) else (B_X11_script_86 (m2 + 1) σ27 248 (Int32.ofNat (k + 1)) 0 (1 : Int32)) := fun b1 z1 => by
      rw [show B_X11_script_86 (m2 + 1 + 1) b 248 (Int32.ofNat k) 0 1 = if (1 : Int32) = 0 then (bput b 248 10 (0 : Int32) fun σ7 => if (0 : Int32) = 0 then (bcall (M_X11_keeps σ7 248 (Int32.ofNat k)) fun σ15 r16 => some (σ15, r16)) else (bcall (M_X11_comesBack σ7 248) fun σ8 r9 => if (0 : Int32) = (-3 : Int32) then (bcall (M_X11_refusesBy σ8 248 (12 : Int32) (Int32.ofNat k)) fun σ12 r13 => some (σ12, r13)) else (bcall (M_X11_refuses σ8 248 (12 : Int32) (Int32.ofNat k)) fun σ10 r11 => some (σ10, r11)))) else (bcall (M_X11_isOrder b 248) fun σ18 r19 => bcall (M_X11_carries σ18 248) fun σ20 r21 => if r21 = 0 then (blet (Int32.ofNat k + (1 : Int32)) fun v26 => if r21 = 0 then (bcall (M_X11_isNext σ20 248 (59 : Int32)) fun σ27 r28 => if r28 = 0 then (B_X11_script_86 (m2 + 1) σ27 248 v26 r21 (0 : Int32)) else (B_X11_script_86 (m2 + 1) σ27 248 v26 r21 (1 : Int32))) else (B_X11_script_86 (m2 + 1) σ20 248 v26 r21 (0 : Int32))) else (if r21 = 0 then (bcall (M_X11_isNext σ20 248 (59 : Int32)) fun σ22 r23 => if r23 = 0 then (B_X11_script_86 (m2 + 1) σ22 248 (Int32.ofNat k) r21 (0 : Int32)) else (B_X11_script_86 (m2 + 1) σ22 248 (Int32.ofNat k) r21 (1 : Int32))) else (B_X11_script_86 (m2 + 1) σ20 248 (Int32.ofNat k) r21 (0 : Int32)))) from rfl]
      rw [if_neg ni1, bcall_of s1, bcall_of z1, if_pos rfl, blet_eq, if_pos rfl, oN_al]
    rw [eC]
    rcases hop with ⟨v, hv, e1, e2⟩ | ⟨a1, b1, e1, e2, hP, fa, fg⟩ | ⟨a1, b1, v, e1, e2, h0, _, sc2, fa, ft⟩
    · -- an order's code
      have v0 : ¬ v = 0 := by rcases hv with rfl | rfl <;> decide
      have vn : ¬ (0 : Int32) ≤ v := by rcases hv with rfl | rfl <;> decide
      have v3 : ¬ v = -3 := by rcases hv with rfl | rfl <;> decide
      obtain ⟨a2, b2, f1, f2, f3, f4, f5⟩ := fail_no (co a τ1 ⟨nb, ns, nc, ni, r, i⟩ (fun _ _ => rfl) (fun _ _ _ => rfl) (fun _ _ => rfl)) hx (exa a (fun _ _ => rfl)) (scn a τ1 (fun _ _ => rfl) rfl) (Int32.ofNat k)
      rw [eR _ _ e2 v0, bcall_of e1, if_neg vn]
      simp only [if_neg v3]
      exact Or.inl ⟨a2, b2, -3, f1, f2, f3, fun k hk => by rw [f4 k hk, fn k (by omega)], fun k hk => by rw [f5 k hk, u2_ne (by omega), tb k (by omega) (by omega) (by omega)]⟩
    · -- an order that is refused
      have ca := co a τ1 ⟨nb, ns, nc, ni, r, i⟩ (fun _ _ => rfl) (fun _ _ _ => rfl) (fun _ _ => rfl)
      have gr : Gr (u2 τ1 248 10 0) (u2 b1 248 10 0) := ⟨fun k q1 q2 => by rw [u2_ne q1, u2_ne q1, fg.1 k q1 q2], fun q hq => by
        by_cases e : q = 10
        · rw [e, u2_self, u2_self]
        · rw [u2_same e, u2_same e, fg.2 q hq]⟩
      have hP2 : Pre 2 a1 (u2 b1 248 10 0) := hP.cg rfl (by rw [u2_same (by decide)]) rfl rfl (u2_ne (by decide))
      obtain ⟨a2, b2, f1, f2, f3, f4, f5⟩ := fail_by (ca.refused hP2 (by decide) fa gr) hP2 hx (exa a1 (fun j hj => fa j (by omega) (by omega) (by omega))) (scn a1 b1 (fun j hj => fa j (by omega) (by omega) (by omega)) (fg.1 250 (by decide) (by decide))) (Int32.ofNat k)
      rw [eR _ _ e2 (by decide), bcall_of e1, if_neg (show ¬ (0 : Int32) ≤ -3 from by decide)]
      simp only [↓reduceIte]
      exact Or.inl ⟨a2, b2, -3, f1, f2, f3, fun k hk => by rw [f4 k hk, fa k (by omega) (by omega) (by omega), fn k (by omega)], fun k hk => by rw [f5 k hk, u2_ne (by omega), fg.1 k (by omega) (by omega), tb k (by omega) (by omega) (by omega)]⟩
    · -- an order that is carried out
      have Ub1 : Tt c n b1 := Ub.cg (by rw [ft.2 10 (by decide), s6 10 (by decide) (by decide)]) (by rw [ft.1 255 (by decide) (by decide), s5 255 (by decide) (by decide)])
      have b1e : b1 248 11 = Int32.ofNat (odP c n (ps c n k)) := by rw [ft.2 11 (by decide)]; exact s2
      rw [eO _ e2, bcall_of e1, if_pos h0, blet_eq, oN_al]
      by_cases c1 : k < K
      · have n2 := next_ok (s := 59) Ub1 b1e (ch k c1)
        have n2 : M_X11_isNext b1 248 (59 : Int32) = _ := n2
        rw [bcall_of n2, if_neg ni1]
        refine Or.inr ⟨a1, u2 b1 248 11 (Int32.ofNat (odP c n (ps c n k) + 1)), rfl, rfl, by omega, ?_, fun j hj => by rw [fa j hj, fn j hj], fun j q1 q2 q3 => by rw [u2_ne q1, ft.1 j q1 q2, tb j q1 q2 q3], fun q q1 q2 q3 => by rw [u2_same q1, ft.2 q q3, tq q q1 q2 q3], u2_self⟩
        rw [u2_ne (by decide)]; exact sc2
      · obtain rfl : k = K := by omega
        have n2 := next_no (s := 59) Ub1 b1e (by omega) (by decide) (fun q => by have := q.1; omega)
        have n2 : M_X11_isNext b1 248 (59 : Int32) = _ := n2
        obtain ⟨m1, rfl⟩ : ∃ d, m1 = d + 1 := ⟨m1 - 1, by omega⟩
        have cc := co a1 b1 sc2 fa ft.1 ft.2
        have vk : (0 : Int32) ≤ Int32.ofNat (k + 1) := of_eq_true (oN_nn2 (by omega))
        obtain ⟨a2, b2, k1, k2, k3, k4, k5, k6⟩ := keep_ex cc.hi hx (exa a1 (fun j hj => fa j (by omega))) (scn a1 b1 (fun j hj => fa j (by omega)) (ft.1 250 (by decide) (by decide))) vk
        rw [bcall_of n2, if_pos rfl]
        refine Or.inl ⟨a2, b2, Int32.ofNat (k + 1), ?_, ?_, cc.kept k3 k4 k5 k6, fun j hj => by rw [k4 j (by omega), fa j (by omega), fn j (by omega)], fun j hj => by rw [k5 j (by omega) (by omega), u2_ne (by omega), ft.1 j (by omega) (by omega), tb j (by omega) (by omega) (by omega)]⟩
        · simp only [B_X10_script_46, Nat.zero_add]
          rw [fa 245 (by omega), ea, if_pos (Int32.le_refl _), bcall_of k1]
        · simp only [B_X11_script_86]
          rw [if_pos trivial, bput_eq]
          simp only [↓reduceIte]
          rw [bcall_of k2]
  · have z := h.now
    rw [u2_ne (by decide)] at z
    exact z
theorem Q_script {σ τ : St} (h : Co σ τ) : Pair σ τ (M_X10_script σ 0) (M_X11_script τ 248) (fun v w => v = w) := by
  obtain ⟨n, hn, l1, l2, l3⟩ := h.inp
  have ni1 : ¬ ((1 : Int32) = 0) := by decide
  have tx : ∀ j, j < n → 32 ≤ (σ 242 j).toNatClampNeg ∧ (σ 242 j).toNatClampNeg ≤ 126 ∧ σ 242 j = Int32.ofNat (σ 242 j).toNatClampNeg ∧ τ 255 j = Int32.ofNat (σ 242 j).toNatClampNeg := fun j hj => by
    obtain ⟨g, g1, g2, g3, g4⟩ := l3 j hj
    have e : (σ 242 j).toNatClampNeg = g := by rw [g3]; exact oN_clamp (by omega)
    rw [e]
    exact ⟨g1, g2, g3, g4⟩
  generalize hc : (fun j => (σ 242 j).toNatClampNeg) = c
  have cj : ∀ j, (σ 242 j).toNatClampNeg = c j := fun j => by rw [← hc]
  obtain ⟨τ1, t1, t2, t3⟩ := tries_ex τ
  have T0 : Tc c n (u2 (u2 σ 245 2 0) 245 3 0) := ⟨by rw [u2_ne (by decide), u2_ne (by decide)]; exact l1, hn, fun j hj => by have := tx j hj; rw [cj] at this; exact ⟨this.1, this.2.1⟩, fun j hj => by have := tx j hj; rw [cj] at this; rw [u2_ne (by decide), u2_ne (by decide)]; exact this.2.2.1⟩
  have U0 : Tt c n (u2 τ1 248 11 0) := ⟨by rw [u2_same (by decide), t2 248 (by decide)]; exact l2, hn, fun j hj => by have := tx j hj; rw [cj] at this; exact ⟨this.1, this.2.1⟩, fun j hj => by have := tx j hj; rw [cj] at this; rw [u2_ne (by decide), t2 255 (by decide)]; exact this.2.2.2⟩
  have e0 : (0 : Int32) = Int32.ofNat 0 := rfl
  have key := read_both T0 U0 u2_self (by rw [u2_same (by decide), u2_self]; rfl) u2_self
  unfold M_X10_script M_X11_script M_X5_read M_X4_makeEmpty
  simp only [Nat.zero_add]
  rw [bput_eq, bput_eq, bcall_of t1, bput_eq]
  rcases key with ⟨σ2, τ2, f, hf, x1, y1, f1, fc, ft⟩ | ⟨σ2, τ2, K, x1, y1, hK, k1, k2, k3, k4, fc, ft⟩
  · have y2 : B_X11_script_54 τ2 248 0 = some (u2 (u2 τ2 248 10 0) 248 14 (Int32.ofNat f), -2) := by
      unfold B_X11_script_54
      rw [if_pos rfl, bput_eq, bput_eq, u2_same (show 11 ≠ 10 by decide), f1]
    rw [y1, y2, bcall_of x1, bput_eq, bcall_some, if_neg (fun q => (oN_m4 (a := f) (by omega)).mp q), bput_eq]
    have hA : Co (u2 σ2 241 1 0) (u2 τ2 248 10 0) := h.input ⟨0, by omega, by rw [u2_self]; rfl, by rw [u2_self]; rfl, fun j hj => by omega⟩ (fun k hk => by rw [u2_ne (by omega), fc k (by omega) (by omega) (by omega), u2_ne (by omega), u2_ne (by omega)]) (fun k hk => by rw [u2_ne (by omega), ft.1 k (by omega) (by omega), u2_ne (by omega), t2 k (by omega)]) (fun q hq => by rw [u2_same (by omega), ft.2 q (by omega) (by omega), u2_same (by omega), t2 248 (by decide)])
    refine ⟨_, _, _, _, rfl, rfl, rfl, ?_, fun k hk => by rw [u2_ne (by omega), u2_ne (by omega), fc k (by omega) (by omega) (by omega), u2_ne (by omega), u2_ne (by omega)], fun k hk => by rw [u2_ne (by omega), u2_ne (by omega), ft.1 k (by omega) (by omega), u2_ne (by omega), t2 k (by omega)]⟩
    exact ⟨hA.now.cg (fun k h1 _ => by rw [u2_ne (by omega)]) (fun q _ => by rw [u2_ne (by decide)]), hA.sv.cg (by rw [u2_same (by decide)]) (by rw [u2_same (by decide)]) (fun k h1 _ => by rw [u2_ne (by omega)]) (fun q _ => by rw [u2_ne (by decide)]),
      hA.hi.cg (u2_ne (by decide)) (by rw [u2_same (by decide)]) (fun k h1 _ => by rw [u2_ne (by omega)]) (u2_ne (by decide)), hA.inp.cg (by rw [u2_ne (by decide)]) (by rw [u2_same (by decide)]) (u2_ne (by decide)) (u2_ne (by decide)),
      hA.lin.cg (by rw [u2_ne (by decide)]) (by rw [u2_same (by decide)]) (u2_ne (by decide)) (u2_ne (by decide)), by unfold Pfl; rw [u2_self, u2_self], hA.re.cg (by rw [u2_ne (by decide)]) (by rw [u2_same (by decide)]) (u2_ne (by decide)) (u2_ne (by decide)) (u2_ne (by decide))⟩
  · have y2 : B_X11_script_54 τ2 248 1 = B_X11_script_86 FU (u2 τ2 248 11 0) 248 0 0 1 := by
      unfold B_X11_script_54
      rw [if_neg ni1, bput_eq]
    have hA : Co (u2 σ2 241 1 0) (u2 (u2 τ2 248 11 0) 248 10 0) := h.input ⟨0, by omega, by rw [u2_self]; rfl, by rw [u2_self]; rfl, fun j hj => by omega⟩ (fun k hk => by rw [u2_ne (by omega), fc k (by omega) (by omega) (by omega), u2_ne (by omega), u2_ne (by omega)]) (fun k hk => by rw [u2_ne (by omega), u2_ne (by omega), ft.1 k (by omega) (by omega), u2_ne (by omega), t2 k (by omega)]) (fun q hq => by rw [u2_same (by omega), u2_same (by omega), ft.2 q (by omega) (by omega), u2_same (by omega), t2 248 (by decide)])
    obtain ⟨σ3, nx, n1, n2, n3, n4, n5, n6⟩ := note_ex hA
    have hp : pl nx = 79 + 18 * nx := rfl
    have U2 : Tt c n (u2 τ2 248 11 0) := U0.cg (by rw [u2_same (by decide), ft.2 10 (by decide) (by decide)]) (by rw [u2_ne (by decide), ft.1 255 (by decide) (by decide)])
    have s245 : ∀ k, 241 ≤ k → k ≠ 241 → σ3 k = σ2 k := fun k q1 q2 => by rw [n6 k (by omega), u2_ne q2]
    have hS : Sc σ3 (pl nx) ((u2 τ2 248 11 0) 250) := n4.cg (fun _ _ _ => rfl) (fun q hq => by rw [u2_ne (by decide), u2_ne (by decide), u2_ne (by decide), ft.1 250 (by decide) (by decide), ft.1 249 (by decide) (by decide), u2_ne (by decide), u2_ne (by decide), t3 q hq, t2 249 (by decide)])
    obtain ⟨σ4, τ4, v, r1, r2, r3, r4, r5⟩ := run n5 U2 u2_self n2 n3 hS hK (by rw [s245 245 (by decide) (by decide)]; exact k1) (fun j hj => by
      obtain ⟨z1, z2, z3⟩ := k2 j hj
      exact ⟨z1, by rw [s245 246 (by decide) (by decide)]; exact z2, fun q hq => by rw [s245 247 (by decide) (by decide)]; exact z3 q hq⟩) k3 k4
    rw [y1, y2, bcall_of x1, bput_eq, bcall_some, if_pos rfl, bcall_of n1]
    exact ⟨σ4, τ4, v, v, r1, r2, rfl, r3, fun k hk => by rw [r4 k hk, n6 k (by omega), u2_ne (by omega), fc k (by omega) (by omega) (by omega), u2_ne (by omega), u2_ne (by omega)], fun k hk => by rw [r5 k hk, u2_ne (by omega), ft.1 k (by omega) (by omega), u2_ne (by omega), t2 k (by omega)]⟩
