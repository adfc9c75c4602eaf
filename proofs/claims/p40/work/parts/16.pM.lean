/-! a change on both sides: what is noted before, and what is kept of it -/
theorem Co.cg2 {σ τ σ1 τ1 : St} (h : Co σ τ) (a : ∀ k, (k < 23 ∨ (41 ≤ k ∧ k < 61) ∨ (79 ≤ k ∧ k < 245)) → σ1 k = σ k) (b : ∀ k, (k = 249 ∨ (252 ≤ k ∧ k < 256) ∨ k = 257) → τ1 k = τ k) (c : ∀ q, (q = 4 ∨ q = 6 ∨ q = 8 ∨ q = 10 ∨ q = 14 ∨ q = 16) → τ1 248 q = τ 248 q) : Co σ1 τ1 :=
  ⟨h.now.cg (fun k _ h2 => a k (by omega)) (fun q _ => by rw [b 249 (by omega)]), h.sv.cg (by rw [a 0 (by omega)]) (c 6 (by omega)) (fun k _ h2 => a k (by omega)) (fun q _ => by rw [b 253 (by omega)]),
    h.hi.cg (a 59 (by omega)) (c 4 (by omega)) (fun k _ h2 => a k (by omega)) (b 252 (by omega)), h.inp.cg (by rw [a 241 (by omega)]) (c 10 (by omega)) (a 242 (by omega)) (b 255 (by omega)),
    h.lin.cg (by rw [a 243 (by omega)]) (c 8 (by omega)) (a 244 (by omega)) (b 254 (by omega)), by unfold Pfl; rw [a 0 (by omega), c 14 (by omega)]; exact h.fl,
    h.re.cg (by rw [a 2 (by omega)]) (c 16 (by omega)) (a 3 (by omega)) (a 4 (by omega)) (b 257 (by omega))⟩
theorem noted_ex {σ : St} {nx : Nat} (h : σ 59 2 = Int32.ofNat nx) (hx : nx < 9) : M_X2_noted σ 59 = some (σ, pl nx) := by
  have l60 : ln (59 + 1) = 9 := by decide +kernel
  have e : 59 + 1 + 19 + 18 * nx = pl nx := by unfold pl; omega
  unfold M_X2_noted baldS
  rw [h, l60, if_neg (fun q => (oN_nn (a := nx) (by omega)).mp q), if_neg (oN_nle (by omega) (by omega) hx), oN_toInt (by omega), oN_clamp (by omega), if_pos (by omega), e]
theorem note_ex {σ τ : St} (h : Co σ τ) : ∃ σ1 nx, M_X2_note σ 59 5 = some (σ1, 0) ∧ nx < 9 ∧ σ1 59 2 = Int32.ofNat nx ∧ Sc σ1 (pl nx) (τ 249) ∧ Co σ1 τ ∧ (∀ k, (k < pl nx ∨ pl nx + 18 ≤ k) → σ1 k = σ k) := by
  obtain ⟨u, nx, hu, hx, e1, e2, e3, e4⟩ := h.hi
  have hp : pl nx = 79 + 18 * nx := rfl
  obtain ⟨σ1, t1, t2, t3⟩ := take_sc σ (k := pl nx) (a := 5) (Bp nx hx) B5 (by omega)
  refine ⟨σ1, nx, ?_, hx, by rw [t3 59 (by omega)]; exact e3, t2 _ h.now, ?_, t3⟩
  · unfold M_X2_note
    rw [noted_ex e3 hx, bcall_some, t1, bcall_some]
  · refine ⟨h.now.cg (fun k _ h2 => t3 k (by omega)) (fun _ _ => rfl), h.sv.cg (by rw [t3 0 (by omega)]) rfl (fun k _ h2 => t3 k (by omega)) (fun _ _ => rfl), ?_, h.inp.cg (by rw [t3 241 (by omega)]) rfl (t3 242 (by omega)) rfl, h.lin.cg (by rw [t3 243 (by omega)]) rfl (t3 244 (by omega)) rfl, by unfold Pfl; rw [t3 0 (by omega)]; exact h.fl, h.re.cg (by rw [t3 2 (by omega)]) rfl (t3 3 (by omega)) (t3 4 (by omega)) rfl⟩
    refine ⟨u, nx, hu, hx, e1, by rw [t3 59 (by omega)]; exact e2, by rw [t3 59 (by omega)]; exact e3, fun j hj => (e4 j hj).cg (fun k h1 h2 => t3 k ?_) (fun _ _ => rfl)⟩
    have hp2 : pl ((nx + 8 - j) % 9) = 79 + 18 * ((nx + 8 - j) % 9) := rfl
    omega
theorem tries_ex (τ : St) : ∃ τ1, M_X11_tries τ 248 = some (τ1, 0) ∧ (∀ k, k ≠ 250 → τ1 k = τ k) ∧ ∀ q, q < 111 → τ1 250 q = τ 249 q := by
  refine ⟨_, copyLoop (fun n σ x => B_X11_tries_2 n σ 248 x) (fun σ => some (σ, 0)) 111 (248 + 1) (248 + 2) 0 0 (fun _ x => x) (fun _ x => x) τ (fun n σ x => rfl) (fun f i _ => by rw [Nat.zero_add]) (fun f i _ => by rw [Nat.zero_add]) (by decide +kernel) (by decide +kernel) (Or.inl (by decide)) (by decide), fun k hk => up_ne hk, fun q hq => ?_⟩
  rw [up_at]
  show (if 0 ≤ q ∧ q < 0 + 111 then τ 249 (0 + (q - 0)) else τ 250 q) = τ 249 q
  rw [if_pos (by omega), Nat.zero_add, Nat.sub_zero]
theorem back_ex (τ : St) : ∃ τ1, M_X11_comesBack τ 248 = some (τ1, 0) ∧ (∀ k, k ≠ 249 → τ1 k = τ k) ∧ ∀ q, q < 111 → τ1 249 q = τ 250 q := by
  refine ⟨_, copyLoop (fun n σ x => B_X11_comesBack_2 n σ 248 x) (fun σ => some (σ, 0)) 111 (248 + 2) (248 + 1) 0 0 (fun _ x => x) (fun _ x => x) τ (fun n σ x => rfl) (fun f i _ => by rw [Nat.zero_add]) (fun f i _ => by rw [Nat.zero_add]) (by decide +kernel) (by decide +kernel) (Or.inl (by decide)) (by decide), fun k hk => up_ne hk, fun q hq => ?_⟩
  rw [up_at]
  show (if 0 ≤ q ∧ q < 0 + 111 then τ 250 (0 + (q - 0)) else τ 249 q) = τ 250 q
  rw [if_pos (by omega), Nat.zero_add, Nat.sub_zero]
theorem thinks_ex (τ : St) : ∃ τ1, M_X11_thinks τ 248 = some (τ1, 0) ∧ (∀ k, k ≠ 251 → τ1 k = τ k) ∧ ∀ q, q < 111 → τ1 251 q = τ 249 q := by
  refine ⟨_, copyLoop (fun n σ x => B_X11_thinks_2 n σ 248 x) (fun σ => some (σ, 0)) 111 (248 + 1) (248 + 3) 0 0 (fun _ x => x) (fun _ x => x) τ (fun n σ x => rfl) (fun f i _ => by rw [Nat.zero_add]) (fun f i _ => by rw [Nat.zero_add]) (by decide +kernel) (by decide +kernel) (Or.inl (by decide)) (by decide), fun k hk => up_ne hk, fun q hq => ?_⟩
  rw [up_at]
  show (if 0 ≤ q ∧ q < 0 + 111 then τ 249 (0 + (q - 0)) else τ 251 q) = τ 249 q
  rw [if_pos (by omega), Nat.zero_add, Nat.sub_zero]
theorem unthink_ex (τ : St) : ∃ τ1, M_X11_thinksNoMore τ 248 = some (τ1, 0) ∧ (∀ k, k ≠ 249 → τ1 k = τ k) ∧ ∀ q, q < 111 → τ1 249 q = τ 251 q := by
  refine ⟨_, copyLoop (fun n σ x => B_X11_thinksNoMore_2 n σ 248 x) (fun σ => some (σ, 0)) 111 (248 + 3) (248 + 1) 0 0 (fun _ x => x) (fun _ x => x) τ (fun n σ x => rfl) (fun f i _ => by rw [Nat.zero_add]) (fun f i _ => by rw [Nat.zero_add]) (by decide +kernel) (by decide +kernel) (Or.inl (by decide)) (by decide), fun k hk => up_ne hk, fun q hq => ?_⟩
  rw [up_at]
  show (if 0 ≤ q ∧ q < 0 + 111 then τ 251 (0 + (q - 0)) else τ 249 q) = τ 251 q
  rw [if_pos (by omega), Nat.zero_add, Nat.sub_zero]
theorem mod9 : ∀ a, a < 27 → Int32.ofNat a - Int32.ofNat a / 9 * 9 = Int32.ofNat (a % 9) := by decide +kernel
/-- the row that is kept at place u -/
def kpF (τ : St) (u : Nat) : Nat → Int32 := fun q => if 111 * u ≤ q ∧ q < 111 * u + 111 then τ 250 (0 + (q - 111 * u)) else τ 252 q
theorem keeps49 {τ : St} {u : Nat} (v : Int32) (e : τ 248 4 = Int32.ofNat u) (hu : u < 8) : B_X11_keeps_49 τ 248 v = some (u2 (va_up τ 252 (kpF τ u)) 248 4 (Int32.ofNat (u + 1)), v) := by
  have h1 := copyLoop (fun n σ x => B_X11_keeps_51 n σ 248 v x) (fun σ => bput σ 248 4 ((σ 248 4) + (1 : Int32)) fun σ1 => some (σ1, v)) 111 (248 + 2) (248 + 4) 0 (111 * u) (fun _ x => x) (fun σ x => ((111 : Int32) * (σ 248 4)) + x) τ (fun n σ x => rfl) (fun f i _ => by rw [Nat.zero_add]) (fun f i _ => by
      show (111 : Int32) * (va_up τ (248 + 4) f 248 4) + Int32.ofNat i = _
      rw [up_ne (by decide), e, oN_lm, oN_add]) (by decide +kernel) (by rw [show ln (248 + 4) = 888 from by decide +kernel]; omega) (Or.inl (by decide)) (by decide)
  refine h1.trans ?_
  show bput (va_up τ 252 (kpF τ u)) 248 4 ((va_up τ 252 (kpF τ u) 248 4) + (1 : Int32)) (fun σ1 => some (σ1, v)) = _
  rw [bput_eq, up_ne (by decide), e, oN_al]
/-- one more change is kept -/
theorem keep_ex {σ τ : St} {nx : Nat} (hP : Phi σ τ) (hx : nx < 9) (e : σ 59 2 = Int32.ofNat nx) (hS : Sc σ (pl nx) (τ 250)) {v : Int32} (hv : 0 ≤ v) : ∃ σ1 τ1, M_X10_kept σ 0 v = some (σ1, v) ∧ M_X11_keeps τ 248 v = some (τ1, v) ∧ Phi σ1 τ1 ∧ (∀ k, k ≠ 59 → σ1 k = σ k) ∧ (∀ k, k ≠ 248 → k ≠ 252 → τ1 k = τ k) ∧ ∀ q, q ≠ 4 → τ1 248 q = τ 248 q := by
  obtain ⟨u, nx2, hu, hx2, e1, e2, e3, e4⟩ := hP
  have hn : nx2 = nx := by
    rw [e, oN_eq (by omega) (by omega)] at e3; omega
  subst hn
  have k1 : M_X10_kept σ 0 v = some (u2 (u2 σ 59 2 (Int32.ofNat ((nx2 + 1) % 9))) 59 3 (Int32.ofNat (min (u + 1) 8)), v) := by
    unfold M_X10_kept
    rw [if_neg (Int32.not_lt.mpr hv)]
    simp only [Nat.zero_add]
    unfold M_X2_keepNoted
    rw [bput_eq, blet_eq, bput_eq, bcall_some, e, u2_same (by decide), e2, oN_al, oN_al, mod9 _ (by omega), show (8 : Int32) = Int32.ofNat 8 from rfl, imin_nat (by omega) (by omega)]
  by_cases c : u = 8
  · subst c
    have h1 := copyLoop (fun n σ x => B_X11_keeps_11 n σ 248 v x) (fun σ => bput σ 248 4 ((σ 248 4) - (1 : Int32)) fun σ6 => B_X11_keeps_49 σ6 248 v) 777 (248 + 4) (248 + 4) 111 0 (fun _ x => (111 : Int32) + x) (fun _ x => x) τ (fun n σ x => rfl) (fun f i _ => by rw [oN_la]) (fun f i _ => by rw [Nat.zero_add]) (by decide +kernel) (by decide +kernel) (Or.inr (by decide)) (by decide)
    have h2 : M_X11_keeps τ 248 v = B_X11_keeps_49 (u2 (va_up τ 252 (fun q => if 0 ≤ q ∧ q < 0 + 777 then τ 252 (111 + (q - 0)) else τ 252 q)) 248 4 (Int32.ofNat 7)) 248 v := by
      unfold M_X11_keeps
      rw [if_pos (by rw [e1]; rfl)]
      refine h1.trans ?_
      show bput (va_up τ 252 (fun q => if 0 ≤ q ∧ q < 0 + 777 then τ 252 (111 + (q - 0)) else τ 252 q)) 248 4 ((va_up τ 252 (fun q => if 0 ≤ q ∧ q < 0 + 777 then τ 252 (111 + (q - 0)) else τ 252 q) 248 4) - (1 : Int32)) (fun σ6 => B_X11_keeps_49 σ6 248 v) = _
      rw [bput_eq, up_ne (by decide), e1, show Int32.ofNat 8 - 1 = Int32.ofNat 7 from by decide]
    generalize hT : u2 (va_up τ 252 (fun q => if 0 ≤ q ∧ q < 0 + 777 then τ 252 (111 + (q - 0)) else τ 252 q)) 248 4 (Int32.ofNat 7) = T at h2
    have t252 : ∀ q, q < 777 → T 252 q = τ 252 (111 + q) := fun q hq => by
      rw [← hT, u2_ne (by decide), up_at]
      show (if 0 ≤ q ∧ q < 0 + 777 then τ 252 (111 + (q - 0)) else τ 252 q) = _
      rw [if_pos (by omega), Nat.sub_zero]
    have t4 : T 248 4 = Int32.ofNat 7 := by rw [← hT, u2_self]
    have tx : ∀ k, k ≠ 248 → k ≠ 252 → T k = τ k := fun k h3 h4 => by rw [← hT, u2_ne h3, up_ne h4]
    have tq : ∀ q, q ≠ 4 → T 248 q = τ 248 q := fun q h3 => by rw [← hT, u2_same h3, up_ne (by decide)]
    refine ⟨_, u2 (va_up T 252 (kpF T 7)) 248 4 (Int32.ofNat (7 + 1)), k1, h2.trans (keeps49 v t4 (by decide)), ?_, fun k hk => by rw [u2_ne hk, u2_ne hk], fun k h3 h4 => by rw [u2_ne h3, up_ne h4, tx k h3 h4], fun q h3 => by rw [u2_same h3, up_ne (by decide), tq q h3]⟩
    refine ⟨8, (nx2 + 1) % 9, by omega, by omega, by rw [u2_self], by rw [u2_self]; rfl, by rw [u2_same (by decide), u2_self], fun j hj => ?_⟩
    by_cases cj : j = 0
    · subst cj
      have ep : ((nx2 + 1) % 9 + 8 - 0) % 9 = nx2 := by omega
      rw [ep]
      refine hS.cg (fun k h3 _ => ?_) (fun q hq => ?_)
      · have hp : pl nx2 = 79 + 18 * nx2 := rfl
        rw [u2_ne (by omega), u2_ne (by omega)]
      · show (u2 (va_up T 252 (kpF T 7)) 248 4 (Int32.ofNat (7 + 1))) 252 (111 * (8 - 1 - 0) + q) = τ 250 q
        rw [u2_ne (by decide), up_at]
        show (if 111 * 7 ≤ 111 * (8 - 1 - 0) + q ∧ 111 * (8 - 1 - 0) + q < 111 * 7 + 111 then T 250 (0 + (111 * (8 - 1 - 0) + q - 111 * 7)) else T 252 (111 * (8 - 1 - 0) + q)) = _
        rw [if_pos (by omega), tx 250 (by decide) (by decide), show 0 + (111 * (8 - 1 - 0) + q - 111 * 7) = q by omega]
    · have ep : ((nx2 + 1) % 9 + 8 - j) % 9 = (nx2 + 8 - (j - 1)) % 9 := by omega
      rw [ep]
      refine (e4 (j - 1) (by omega)).cg (fun k h3 _ => ?_) (fun q hq => ?_)
      · have hp : pl ((nx2 + 8 - (j - 1)) % 9) = 79 + 18 * ((nx2 + 8 - (j - 1)) % 9) := rfl
        rw [u2_ne (by omega), u2_ne (by omega)]
      · show (u2 (va_up T 252 (kpF T 7)) 248 4 (Int32.ofNat (7 + 1))) 252 (111 * (8 - 1 - j) + q) = τ 252 (111 * (8 - 1 - (j - 1)) + q)
        rw [u2_ne (by decide), up_at]
        show (if 111 * 7 ≤ 111 * (8 - 1 - j) + q ∧ 111 * (8 - 1 - j) + q < 111 * 7 + 111 then T 250 (0 + (111 * (8 - 1 - j) + q - 111 * 7)) else T 252 (111 * (8 - 1 - j) + q)) = _
        rw [if_neg (by omega), t252 _ (by omega), show 111 + (111 * (8 - 1 - j) + q) = 111 * (8 - 1 - (j - 1)) + q by omega]
  · have h2 : M_X11_keeps τ 248 v = B_X11_keeps_49 τ 248 v := by
      unfold M_X11_keeps
      rw [if_neg (by rw [e1, show (8 : Int32) = Int32.ofNat 8 from rfl, oN_eq (by omega) (by omega)]; exact c)]
    refine ⟨_, u2 (va_up τ 252 (kpF τ u)) 248 4 (Int32.ofNat (u + 1)), k1, h2.trans (keeps49 v e1 (by omega)), ?_, fun k hk => by rw [u2_ne hk, u2_ne hk], fun k h3 h4 => by rw [u2_ne h3, up_ne h4], fun q h3 => by rw [u2_same h3, up_ne (by decide)]⟩
    refine ⟨u + 1, (nx2 + 1) % 9, by omega, by omega, by rw [u2_self], by rw [u2_self, Nat.min_eq_left (by omega)], by rw [u2_same (by decide), u2_self], fun j hj => ?_⟩
    by_cases cj : j = 0
    · subst cj
      have ep : ((nx2 + 1) % 9 + 8 - 0) % 9 = nx2 := by omega
      rw [ep]
      refine hS.cg (fun k h3 _ => ?_) (fun q hq => ?_)
      · have hp : pl nx2 = 79 + 18 * nx2 := rfl
        rw [u2_ne (by omega), u2_ne (by omega)]
      · show (u2 (va_up τ 252 (kpF τ u)) 248 4 (Int32.ofNat (u + 1))) 252 (111 * (u + 1 - 1 - 0) + q) = τ 250 q
        rw [u2_ne (by decide), up_at]
        show (if 111 * u ≤ 111 * (u + 1 - 1 - 0) + q ∧ 111 * (u + 1 - 1 - 0) + q < 111 * u + 111 then τ 250 (0 + (111 * (u + 1 - 1 - 0) + q - 111 * u)) else τ 252 (111 * (u + 1 - 1 - 0) + q)) = _
        rw [if_pos (by omega), show 0 + (111 * (u + 1 - 1 - 0) + q - 111 * u) = q by omega]
    · have ep : ((nx2 + 1) % 9 + 8 - j) % 9 = (nx2 + 8 - (j - 1)) % 9 := by omega
      rw [ep]
      refine (e4 (j - 1) (by omega)).cg (fun k h3 _ => ?_) (fun q hq => ?_)
      · have hp : pl ((nx2 + 8 - (j - 1)) % 9) = 79 + 18 * ((nx2 + 8 - (j - 1)) % 9) := rfl
        rw [u2_ne (by omega), u2_ne (by omega)]
      · show (u2 (va_up τ 252 (kpF τ u)) 248 4 (Int32.ofNat (u + 1))) 252 (111 * (u + 1 - 1 - j) + q) = τ 252 (111 * (u - 1 - (j - 1)) + q)
        rw [u2_ne (by decide), up_at]
        show (if 111 * u ≤ 111 * (u + 1 - 1 - j) + q ∧ 111 * (u + 1 - 1 - j) + q < 111 * u + 111 then τ 250 (0 + (111 * (u + 1 - 1 - j) + q - 111 * u)) else τ 252 (111 * (u + 1 - 1 - j) + q)) = _
        rw [if_neg (by omega), show u + 1 - 1 - j = u - 1 - (j - 1) by omega]
/-- only the scaffold is another -/
def Fn (σ σ1 : St) : Prop := ∀ k, (k < 5 ∨ 23 ≤ k) → σ1 k = σ k
def Ft (τ τ1 : St) : Prop := (∀ k, k ≠ 248 → k ≠ 249 → τ1 k = τ k) ∧ ∀ q, q ≠ 17 → τ1 248 q = τ 248 q
/-- only the reasons are others -/
def Fr (σ σ1 : St) : Prop := ∀ k, k ≠ 2 → k ≠ 3 → k ≠ 4 → σ1 k = σ k
def Gr (τ τ1 : St) : Prop := (∀ k, k ≠ 248 → k ≠ 257 → τ1 k = τ k) ∧ ∀ q, q ≠ 16 → τ1 248 q = τ 248 q
/-- what a change answers, before it is kept -/
def Opx (σ τ : St) (x y : Option (St × Int32)) : Prop := (∃ v : Int32, (v = -1 ∨ v = -2) ∧ x = some (σ, v) ∧ y = some (τ, v)) ∨ (∃ σ1 τ1, x = some (σ1, -3) ∧ y = some (τ1, -3) ∧ Pre 2 σ1 τ1 ∧ Fr σ σ1 ∧ Gr τ τ1) ∨ (∃ σ1 τ1 v, x = some (σ1, v) ∧ y = some (τ1, 0) ∧ 0 ≤ v ∧ τ1 248 17 = v ∧ Sc σ1 5 (τ1 249) ∧ Fn σ σ1 ∧ Ft τ τ1)
def OpK (σ τ : St) (x y : Option (St × Int32)) : Prop := (∃ v : Int32, (v = -1 ∨ v = -2) ∧ x = some (σ, v) ∧ y = some (τ, v)) ∨ (∃ σ1 τ1, x = some (σ1, -3) ∧ y = some (τ1, -3) ∧ Pre 2 σ1 τ1 ∧ Fr σ σ1 ∧ Gr τ τ1) ∨ (∃ σ1 τ1 v, x = some (σ1, v) ∧ (y = bcall (M_X11_keeps τ1 248 v) fun a r => some (a, r)) ∧ 0 ≤ v ∧ Sc σ1 5 (τ1 249) ∧ Fn σ σ1 ∧ Ft τ τ1)
theorem Opx.toK {σ τ : St} {x y : Option (St × Int32)} (h : Opx σ τ x y) : OpK σ τ x (bcall y fun a r => bcall (M_X11_ends a 248 r) fun a r => some (a, r)) := by
  rcases h with ⟨v, hv, e1, rfl⟩ | ⟨σ1, τ1, e1, rfl, h⟩ | ⟨σ1, τ1, v, e1, rfl, h0, rfl, hS, hF, hT⟩
  · refine Or.inl ⟨v, hv, e1, ?_⟩
    rw [bcall_some]
    unfold M_X11_ends
    rcases hv with rfl | rfl
    · rw [if_neg (by decide), bcall_some]
    · rw [if_neg (by decide), bcall_some]
  · refine Or.inr (Or.inl ⟨σ1, τ1, e1, ?_, h⟩)
    rw [bcall_some]
    unfold M_X11_ends
    rw [if_neg (by decide), bcall_some]
  · refine Or.inr (Or.inr ⟨σ1, τ1, _, e1, ?_, h0, hS, hF, hT⟩)
    rw [bcall_some]
    unfold M_X11_ends
    rw [if_pos rfl]
    cases M_X11_keeps τ1 248 (τ1 248 17) with
    | none => rfl
    | some q => rfl
/-- a refused call's reasons -/
theorem Co.refused {m : Nat} {σ τ σ1 τ1 : St} (h : Co σ τ) (hP : Pre m σ1 τ1) (hm : m ≤ 3) (a : Fr σ σ1) (b : Gr τ τ1) : Co σ1 τ1 :=
  ⟨h.now.cg (fun k _ h2 => a k (by omega) (by omega) (by omega)) (fun q _ => by rw [b.1 249 (by omega) (by omega)]), h.sv.cg (by rw [a 0 (by omega) (by omega) (by omega)]) (b.2 6 (by omega)) (fun k _ h2 => a k (by omega) (by omega) (by omega)) (fun q _ => by rw [b.1 253 (by omega) (by omega)]),
    h.hi.cg (a 59 (by omega) (by omega) (by omega)) (b.2 4 (by omega)) (fun k _ h2 => a k (by omega) (by omega) (by omega)) (b.1 252 (by omega) (by omega)), h.inp.cg (by rw [a 241 (by omega) (by omega) (by omega)]) (b.2 10 (by omega)) (a 242 (by omega) (by omega) (by omega)) (b.1 255 (by omega) (by omega)),
    h.lin.cg (by rw [a 243 (by omega) (by omega) (by omega)]) (b.2 8 (by omega)) (a 244 (by omega) (by omega) (by omega)) (b.1 254 (by omega) (by omega)), by unfold Pfl; rw [a 0 (by omega) (by omega) (by omega), b.2 14 (by omega)]; exact h.fl,
    hP.le hm⟩
/-- a change that is made -/
theorem Co.changed {σ τ σ1 τ1 : St} (h : Co σ τ) (hS : Sc σ1 5 (τ1 249)) (a : Fn σ σ1) (b : Ft τ τ1) : Co σ1 τ1 :=
  ⟨hS, h.sv.cg (by rw [a 0 (by omega)]) (b.2 6 (by omega)) (fun k h1 h2 => a k (by omega)) (fun q _ => by rw [b.1 253 (by omega) (by omega)]),
    h.hi.cg (a 59 (by omega)) (b.2 4 (by omega)) (fun k h1 h2 => a k (by omega)) (b.1 252 (by omega) (by omega)), h.inp.cg (by rw [a 241 (by omega)]) (b.2 10 (by omega)) (a 242 (by omega)) (b.1 255 (by omega) (by omega)),
    h.lin.cg (by rw [a 243 (by omega)]) (b.2 8 (by omega)) (a 244 (by omega)) (b.1 254 (by omega) (by omega)), by unfold Pfl; rw [a 0 (by omega), b.2 14 (by omega)]; exact h.fl,
    h.re.cg (by rw [a 2 (by omega)]) (b.2 16 (by omega)) (a 3 (by omega)) (a 4 (by omega)) (b.1 257 (by omega) (by omega))⟩
/-- behind what was noted -/
theorem Co.kept {σ τ σ1 τ1 : St} (h : Co σ τ) (hP : Phi σ1 τ1) (a : ∀ k, k ≠ 59 → σ1 k = σ k) (b : ∀ k, k ≠ 248 → k ≠ 252 → τ1 k = τ k) (c : ∀ q, q ≠ 4 → τ1 248 q = τ 248 q) : Co σ1 τ1 :=
  ⟨h.now.cg (fun k _ h2 => a k (by omega)) (fun q _ => by rw [b 249 (by omega) (by omega)]), h.sv.cg (by rw [a 0 (by omega)]) (c 6 (by omega)) (fun k _ h2 => a k (by omega)) (fun q _ => by rw [b 253 (by omega) (by omega)]),
    hP, h.inp.cg (by rw [a 241 (by omega)]) (c 10 (by omega)) (a 242 (by omega)) (b 255 (by omega) (by omega)),
    h.lin.cg (by rw [a 243 (by omega)]) (c 8 (by omega)) (a 244 (by omega)) (b 254 (by omega) (by omega)), by unfold Pfl; rw [a 0 (by omega), c 14 (by omega)]; exact h.fl,
    h.re.cg (by rw [a 2 (by omega)]) (c 16 (by omega)) (a 3 (by omega)) (a 4 (by omega)) (b 257 (by omega) (by omega))⟩
/-- a whole change -/
theorem chg {σ τ : St} (h : Co σ τ) (F G : St → Option (St × Int32)) (hF : ∀ σ τ, Co σ τ → OpK σ τ (F σ) (G τ)) : Pair σ τ (bcall (M_X2_note σ 59 5) fun s _ => bcall (F s) fun s2 r => bcall (M_X10_kept s2 0 r) fun s3 r3 => some (s3, r3)) (bcall (M_X11_tries τ 248) fun t _ => G t) (fun v w => v = w) := by
  obtain ⟨σ1, nx, n1, n2, n3, n4, n5, n6⟩ := note_ex h
  obtain ⟨τ1, t1, t2, t3⟩ := tries_ex τ
  have hp : pl nx = 79 + 18 * nx := rfl
  have hC : Co σ1 τ1 := n5.cg2 (fun _ _ => rfl) (fun k hk => t2 k (by omega)) (fun q _ => by rw [t2 248 (by omega)])
  have hS : Sc σ1 (pl nx) (τ1 250) := n4.cg (fun _ _ _ => rfl) t3
  rw [n1, t1, bcall_some, bcall_some]
  have fs : ∀ k, 248 ≤ k → σ1 k = σ k := fun k hk => n6 k (by omega)
  have ft : ∀ k, k < 248 → τ1 k = τ k := fun k hk => t2 k (by omega)
  rcases hF σ1 τ1 hC with ⟨v, hv, e1, e2⟩ | ⟨σ2, τ2, e1, e2, hP, a, b⟩ | ⟨σ2, τ2, v, e1, e2, h0, hN, a, b⟩
  · refine ⟨σ1, τ1, v, v, ?_, e2, rfl, hC, fs, ft⟩
    rw [e1, bcall_some]
    unfold M_X10_kept
    rcases hv with rfl | rfl
    · rw [if_pos (by decide), bcall_some]
    · rw [if_pos (by decide), bcall_some]
  · refine ⟨σ2, τ2, -3, -3, ?_, e2, rfl, hC.refused hP (by decide) a b, fun k hk => by rw [a k (by omega) (by omega) (by omega), fs k hk], fun k hk => by rw [b.1 k (by omega) (by omega), ft k hk]⟩
    rw [e1, bcall_some]
    unfold M_X10_kept
    rw [if_pos (by decide), bcall_some]
  · have hC2 := hC.changed hN a b
    obtain ⟨σ3, τ3, k1, k2, k3, k4, k5, k6⟩ := keep_ex hC2.hi n2 (by rw [a 59 (by omega)]; exact n3) (hS.cg (fun k h1 _ => a k (by omega)) (fun q _ => by rw [b.1 250 (by omega) (by omega)])) h0
    refine ⟨σ3, τ3, v, v, ?_, ?_, rfl, hC2.kept k3 k4 k5 k6, fun k hk => by rw [k4 k (by omega), a k (by omega), fs k hk], fun k hk => by rw [k5 k (by omega) (by omega), b.1 k (by omega) (by omega), ft k hk]⟩
    · rw [e1, bcall_some, k1, bcall_some]
    · rw [e2, k2, bcall_some]
