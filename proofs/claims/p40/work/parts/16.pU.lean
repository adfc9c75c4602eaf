/-! a text, read plainly: c its codes, n its length -/
abbrev dg (c : Nat → Nat) (n p : Nat) : Prop := p < n ∧ 48 ≤ c p ∧ c p ≤ 57
def nmP (c : Nat → Nat) (n p m : Nat) : Nat := if dg c n p then (if m = 2 ∧ dg c n (p + 1) then p + 2 else p + 1) else p
def nmV (c : Nat → Nat) (n p m : Nat) : Nat := if m = 2 ∧ dg c n (p + 1) then 10 * (c p - 48) + (c (p + 1) - 48) else c p - 48
def mo (x : Nat) : Nat := if x = 37 then 2 else 1
abbrev isN (x : Nat) : Prop := x = 35 ∨ x = 37
abbrev itO (c : Nat → Nat) (n x p : Nat) : Prop := (isN x ∧ dg c n p) ∨ (¬ isN x ∧ p < n ∧ c p = x)
def itP (c : Nat → Nat) (n x p : Nat) : Nat := if isN x then nmP c n p (mo x) else p + 1
def rnR (c : Nat → Nat) (n : Nat) : List Nat → Nat → Nat
  | [], _ => 1
  | x :: l, p => if itO c n x p then rnR c n l (itP c n x p) else 0
def rnP (c : Nat → Nat) (n : Nat) : List Nat → Nat → Nat
  | [], p => p
  | x :: l, p => if itO c n x p then rnP c n l (itP c n x p) else p
def rnV (c : Nat → Nat) (n : Nat) : List Nat → Nat → Nat → Nat → Nat
  | [], _, _, _ => 0
  | x :: l, p, w, k => if isN x then (if k = w then nmV c n p (mo x) else rnV c n l (itP c n x p) (w + 1) k) else rnV c n l (itP c n x p) w k
def ar : List Nat → Nat
  | [] => 0
  | x :: l => (if isN x then 1 else 0) + ar l
def fmN (z : Nat) : List Nat := ([[35, 42, 35, 58, 37], [35], [35, 64, 35], [35, 42, 35], [37], []] : List (List Nat)).getD z []
def fz (L : Nat) : Nat := if L = 98 then 0 else if L = 100 then 1 else if L = 103 then 4 else if L = 105 then 2 else if L = 108 then 3 else if L = 110 then 4 else if L = 116 then 1 else if L = 117 then 2 else 5
abbrev odK (c : Nat → Nat) (n p : Nat) : Prop := p < n ∧ fz (c p) ≠ 5
def odR (c : Nat → Nat) (n p : Nat) : Nat := if odK c n p then rnR c n (fmN (fz (c p))) (p + 1) else 0
def odP (c : Nat → Nat) (n p : Nat) : Nat := if odK c n p then rnP c n (fmN (fz (c p))) (p + 1) else p
def odV (c : Nat → Nat) (n p k : Nat) : Nat := rnV c n (fmN (fz (c p))) (p + 1) 0 k
theorem nmP_le {c : Nat → Nat} {n p m : Nat} (h : p ≤ n) : nmP c n p m ≤ n := by
  unfold nmP
  by_cases a : dg c n p
  · rw [if_pos a]
    by_cases b : m = 2 ∧ dg c n (p + 1)
    · rw [if_pos b]; have := b.2.1; omega
    · rw [if_neg b]; have := a.1; omega
  · rw [if_neg a]; exact h
theorem nmP_ge {c : Nat → Nat} {n p m : Nat} : p ≤ nmP c n p m := by
  unfold nmP
  by_cases a : dg c n p
  · rw [if_pos a]
    by_cases b : m = 2 ∧ dg c n (p + 1)
    · rw [if_pos b]; omega
    · rw [if_neg b]; omega
  · rw [if_neg a]; exact Nat.le_refl _
theorem nmP_gt {c : Nat → Nat} {n p m : Nat} (a : dg c n p) : p + 1 ≤ nmP c n p m := by
  unfold nmP
  rw [if_pos a]
  by_cases b : m = 2 ∧ dg c n (p + 1)
  · rw [if_pos b]; omega
  · rw [if_neg b]; omega
theorem rnP_le {c : Nat → Nat} {n : Nat} : ∀ (l : List Nat) (p : Nat), p ≤ n → rnP c n l p ≤ n
  | [], p, h => h
  | x :: l, p, h => by
    unfold rnP
    by_cases a : itO c n x p
    · rw [if_pos a]
      refine rnP_le l _ ?_
      unfold itP
      by_cases b : isN x
      · rw [if_pos b]; exact nmP_le h
      · rw [if_neg b]
        rcases a with a | a
        · exact absurd a.1 b
        · have := a.2.1; omega
    · rw [if_neg a]; exact h
theorem rnP_ge {c : Nat → Nat} {n : Nat} : ∀ (l : List Nat) (p : Nat), p ≤ rnP c n l p
  | [], p => Nat.le_refl _
  | x :: l, p => by
    unfold rnP
    by_cases a : itO c n x p
    · rw [if_pos a]
      refine Nat.le_trans ?_ (rnP_ge l _)
      unfold itP
      by_cases b : isN x
      · rw [if_pos b]; exact nmP_ge
      · rw [if_neg b]; omega
    · rw [if_neg a]; exact Nat.le_refl _
theorem rnR_01 {c : Nat → Nat} {n : Nat} : ∀ (l : List Nat) (p : Nat), rnR c n l p = 0 ∨ rnR c n l p = 1
  | [], p => Or.inr rfl
  | x :: l, p => by
    unfold rnR
    by_cases a : itO c n x p
    · rw [if_pos a]; exact rnR_01 l _
    · rw [if_neg a]; exact Or.inl rfl
theorem fz_lt (L : Nat) : fz L < 6 := by
  unfold fz
  repeat' split
  all_goals decide
theorem fm_len : ∀ z, z < 6 → (fmN z).length = lnS z ∧ ar (fmN z) ≤ 3 ∧ lnS z ≤ 5 := by decide +kernel
theorem fm_chr : ∀ z, z < 6 → ∀ j, j < lnS z → (chr z j = Int32.ofNat ((fmN z).getD j 0) ∧ (fmN z).getD j 0 < 100 ∧ 0 < (fmN z).getD j 0) := by decide +kernel
theorem odP_le {c : Nat → Nat} {n p : Nat} (h : p ≤ n) : odP c n p ≤ n := by
  unfold odP
  by_cases a : odK c n p
  · rw [if_pos a]; exact rnP_le _ _ (by have := a.1; omega)
  · rw [if_neg a]; exact h
theorem odR_01 {c : Nat → Nat} {n p : Nat} : odR c n p = 0 ∨ odR c n p = 1 := by
  unfold odR
  by_cases a : odK c n p
  · rw [if_pos a]; exact rnR_01 _ _
  · rw [if_neg a]; exact Or.inl rfl
theorem odK_of {c : Nat → Nat} {n p : Nat} (h : odR c n p = 1) : odK c n p := by
  by_cases a : odK c n p
  · exact a
  · unfold odR at h; rw [if_neg a] at h; cases h
theorem fm_head : ∀ z, z < 5 → ∃ x l, fmN z = x :: l ∧ isN x := fun z hz => by
  have h : z = 0 ∨ z = 1 ∨ z = 2 ∨ z = 3 ∨ z = 4 := by omega
  rcases h with rfl | rfl | rfl | rfl | rfl
  · exact ⟨_, _, rfl, Or.inl rfl⟩
  · exact ⟨_, _, rfl, Or.inl rfl⟩
  · exact ⟨_, _, rfl, Or.inl rfl⟩
  · exact ⟨_, _, rfl, Or.inl rfl⟩
  · exact ⟨_, _, rfl, Or.inr rfl⟩
/-- an order has a letter and a digit -/
theorem odP_gt {c : Nat → Nat} {n p : Nat} (h : odR c n p = 1) : p + 2 ≤ odP c n p := by
  have a := odK_of h
  have hz := fz_lt (c p)
  obtain ⟨x, l, e, hx⟩ := fm_head (fz (c p)) (by have := a.2; omega)
  unfold odR at h
  unfold odP
  rw [if_pos a, e] at h
  rw [if_pos a, e]
  unfold rnR at h
  unfold rnP
  by_cases b : itO c n x (p + 1)
  · rw [if_pos b]
    refine Nat.le_trans ?_ (rnP_ge l _)
    unfold itP
    rw [if_pos hx]
    rcases b with b | b
    · exact nmP_gt b.2
    · exact absurd hx b.1
  · rw [if_neg b] at h; cases h
/-! the class reads it -/
def Tc (c : Nat → Nat) (n : Nat) (σ : St) : Prop := (σ 241 1 = Int32.ofNat n) ∧ (n ≤ 60) ∧ (∀ j, j < n → 32 ≤ c j ∧ c j ≤ 126) ∧ (∀ j, j < n → σ 242 j = Int32.ofNat (c j))
theorem Tc.l {c : Nat → Nat} {n : Nat} {σ : St} (h : Tc c n σ) : σ 241 1 = Int32.ofNat n := h.1
theorem Tc.hn {c : Nat → Nat} {n : Nat} {σ : St} (h : Tc c n σ) : n ≤ 60 := h.2.1
theorem Tc.rg {c : Nat → Nat} {n : Nat} {σ : St} (h : Tc c n σ) : ∀ j, j < n → 32 ≤ c j ∧ c j ≤ 126 := h.2.2.1
theorem Tc.tx {c : Nat → Nat} {n : Nat} {σ : St} (h : Tc c n σ) : ∀ j, j < n → σ 242 j = Int32.ofNat (c j) := h.2.2.2
theorem Tc.mk {c : Nat → Nat} {n : Nat} {σ : St} (l : σ 241 1 = Int32.ofNat n) (hn : n ≤ 60) (rg : ∀ j, j < n → 32 ≤ c j ∧ c j ≤ 126) (tx : ∀ j, j < n → σ 242 j = Int32.ofNat (c j)) : Tc c n σ := ⟨l, hn, rg, tx⟩
theorem Tc.cg {c : Nat → Nat} {n : Nat} {σ σ1 : St} (T : Tc c n σ) (a : σ1 241 = σ 241) (b : σ1 242 = σ 242) : Tc c n σ1 := ⟨by rw [a]; exact T.l, T.hn, T.rg, fun j hj => by rw [b]; exact T.tx j hj⟩
def sg (c : Nat → Nat) (n p : Nat) : Nat := if p < n then c p else 0
theorem okC_nat : ∀ g, g < 128 → okC (Int32.ofNat g) = true := by decide +kernel
theorem sg_lt {c : Nat → Nat} {n p : Nat} (rg : ∀ j, j < n → 32 ≤ c j ∧ c j ≤ 126) : sg c n p < 127 := by
  unfold sg
  by_cases h : p < n
  · rw [if_pos h]; have := (rg p h).2; omega
  · rw [if_neg h]; omega
theorem sg_dg {c : Nat → Nat} {n p : Nat} : dg c n p ↔ (48 ≤ sg c n p ∧ sg c n p ≤ 57) := by
  unfold sg
  by_cases h : p < n
  · rw [if_pos h]; exact ⟨fun q => q.2, fun q => ⟨h, q⟩⟩
  · rw [if_neg h]; exact ⟨fun q => absurd q.1 h, fun q => by omega⟩
theorem sign_at {c : Nat → Nat} {n p : Nat} {σ : St} (T : Tc c n σ) (hp : p ≤ n) : M_X4_signAt σ 241 (Int32.ofNat p) = some (σ, Int32.ofNat (sg c n p)) := by
  have l242 : ln (241 + 1) = 60 := by decide +kernel
  have hn := T.hn
  unfold M_X4_signAt
  rw [T.l, if_neg (fun q => (oN_nn (a := p) (by omega)).mp q)]
  unfold sg
  by_cases h : p < n
  · have h2 := T.rg p h
    rw [if_pos h, if_neg (oN_nle (by omega) (by omega) h), if_neg (oN_nle (by rw [l242]; decide) (by omega) (by rw [l242]; omega)), bald_nat (by rw [l242]; omega), T.tx p h]
    unfold bchk
    rw [if_pos (okC_nat _ (by omega))]
  · rw [if_neg h, if_pos (of_eq_true (oN_leT (by omega) (by omega)))]
    rfl
theorem isd_nat (σ : St) {g : Nat} (h : g < 1000) : M_X5_isDigit σ (Int32.ofNat g) = some (σ, if 48 ≤ g ∧ g ≤ 57 then 1 else 0) := by
  unfold M_X5_isDigit
  by_cases a : g < 48
  · rw [if_pos (of_eq_true (oN_ltTl (n := 48) (by decide) a)), if_neg (by omega)]
  · rw [if_neg (fun q => (oN_ltFl (n := 48) (by omega) (by show 48 ≤ g; omega)).mp q)]
    by_cases b : 57 < g
    · rw [if_pos (of_eq_true (oN_lltT (n := 57) (by omega) b)), if_neg (by omega)]
    · rw [if_neg (fun q => (oN_lltF (n := 57) (by decide) (by show g ≤ 57; omega)).mp q), if_pos (by omega)]
theorem rs_ok {c : Nat → Nat} {n p s : Nat} {σ : St} (T : Tc c n σ) (e : σ 245 3 = Int32.ofNat p) (h : p < n ∧ c p = s) : M_X5_readSign σ 245 241 (Int32.ofNat s) = some (u2 σ 245 3 (Int32.ofNat (p + 1)), 1) := by
  unfold M_X5_readSign
  rw [e, bcall_of (sign_at T (Nat.le_of_lt h.1))]
  unfold sg
  rw [if_pos h.1, h.2, if_pos rfl, bput_eq, e, oN_al]
theorem rs_no {c : Nat → Nat} {n p s : Nat} {σ : St} (T : Tc c n σ) (e : σ 245 3 = Int32.ofNat p) (hp : p ≤ n) (hs : 0 < s ∧ s < 1000) (h : ¬ (p < n ∧ c p = s)) : M_X5_readSign σ 245 241 (Int32.ofNat s) = some (σ, 0) := by
  have hl := sg_lt (p := p) T.rg
  unfold M_X5_readSign
  rw [e, bcall_of (sign_at T hp), if_neg]
  intro q
  rw [oN_eq (by omega) (by omega)] at q
  unfold sg at q
  by_cases a : p < n
  · rw [if_pos a] at q; exact h ⟨a, q⟩
  · rw [if_neg a] at q; omega
theorem rn_no {c : Nat → Nat} {n p : Nat} {σ : St} (T : Tc c n σ) (e : σ 245 3 = Int32.ofNat p) (hp : p ≤ n) (h : ¬ dg c n p) (x y : Int32) : M_X5_readNumber σ 245 241 x y = some (σ, 0) := by
  have hl := sg_lt (p := p) T.rg
  unfold M_X5_readNumber
  rw [e, bcall_of (sign_at T hp), bcall_of (isd_nat σ (by omega)), if_neg (fun q => h (sg_dg.mpr q)), if_pos rfl]
theorem rn_ok {c : Nat → Nat} {n p k w m : Nat} {σ : St} (T : Tc c n σ) (e : σ 245 3 = Int32.ofNat p) (e2 : σ 245 2 = Int32.ofNat k) (hk : k < 20) (hw : w < 3) (hm : m = 1 ∨ m = 2) (h : dg c n p) : ∃ σ1, M_X5_readNumber σ 245 241 (Int32.ofNat w) (Int32.ofNat (m - 1)) = some (σ1, 1) ∧ σ1 245 3 = Int32.ofNat (nmP c n p m) ∧ σ1 245 2 = Int32.ofNat k ∧ σ1 247 (3 * k + w) = Int32.ofNat (nmV c n p m) ∧ (∀ q, q ≠ 3 * k + w → σ1 247 q = σ 247 q) ∧ ∀ j, j ≠ 245 → j ≠ 247 → σ1 j = σ j := by
  have hp := h.1
  have hn := T.hn
  have hr := T.rg p hp
  have l247 : ln (245 + 2) = 60 := by decide +kernel
  have ni1 : ¬ ((1 : Int32) = 0) := by decide
  have s1 := sign_at T (Nat.le_of_lt hp)
  have d1 := isd_nat σ (g := sg c n p) (by have := sg_lt (p := p) T.rg; omega)
  rw [if_pos (sg_dg.mp h)] at d1
  have es : sg c n p = c p := by unfold sg; rw [if_pos hp]
  have T2 : Tc c n (u2 σ 245 3 (Int32.ofNat (p + 1))) := T.cg (u2_ne (by decide)) (u2_ne (by decide))
  have s2 := sign_at T2 (show p + 1 ≤ n by omega)
  have v1 : Int32.ofNat (c p) - 48 = Int32.ofNat (c p - 48) := oN_sl (n := 48) (by show 48 ≤ c p; exact h.2.1)
  have ix : ∀ (s : St) (v : Int32), M_X10_put s (245 + 2) (Int32.ofNat k * 3 + Int32.ofNat w) v = some (u2 s 247 (3 * k + w) v, 0) := fun s v => by
    rw [show Int32.ofNat k * 3 + Int32.ofNat w = Int32.ofNat (3 * k + w) from by rw [show (3 : Int32) = Int32.ofNat 3 from rfl, oN_mul, oN_add, Nat.mul_comm]]
    exact put_nat (k := 247) (by rw [show ln 247 = 60 from l247]; omega)
  unfold M_X5_readNumber
  rw [e, bcall_of s1, bcall_of d1, if_neg ni1, bcall_of (show M_X4_signAt σ 241 (σ 245 3) = _ from by rw [e]; exact s1), blet_eq, bput_eq, e, oN_al, es, v1]
  rcases hm with rfl | rfl
  · rw [if_pos (show Int32.ofNat (1 - 1) = (0 : Int32) from rfl), u2_same (show 2 ≠ 3 by decide), e2, bcall_of (ix _ _)]
    have f1 : nmP c n p 1 = p + 1 := by unfold nmP; rw [if_pos h, if_neg (by omega)]
    have f2 : nmV c n p 1 = c p - 48 := by unfold nmV; rw [if_neg (by omega)]
    exact ⟨_, rfl, by rw [u2_ne (by decide), u2_self, f1], by rw [u2_ne (by decide), u2_same (by decide)]; exact e2, by rw [u2_self, f2], fun q hq => by rw [u2_same hq, u2_ne (by decide)], fun j h1 h2 => by rw [u2_ne h2, u2_ne h1]⟩
  · have d2 := isd_nat (u2 σ 245 3 (Int32.ofNat (p + 1))) (g := sg c n (p + 1)) (by have := sg_lt (p := p + 1) T.rg; omega)
    rw [if_neg (show ¬ (Int32.ofNat (2 - 1) = (0 : Int32)) from by decide), u2_self, bcall_of s2, bcall_of d2]
    by_cases b : dg c n (p + 1)
    · have f1 : nmP c n p 2 = p + 2 := by unfold nmP; rw [if_pos h, if_pos ⟨rfl, b⟩]
      have f2 : nmV c n p 2 = 10 * (c p - 48) + (c (p + 1) - 48) := by unfold nmV; rw [if_pos ⟨rfl, b⟩]
      have es2 : sg c n (p + 1) = c (p + 1) := by unfold sg; rw [if_pos b.1]
      have v2 : Int32.ofNat (c p - 48) * 10 + Int32.ofNat (c (p + 1)) - 48 = Int32.ofNat (10 * (c p - 48) + (c (p + 1) - 48)) := by
        have hb := b.2.1
        rw [show (10 : Int32) = Int32.ofNat 10 from rfl, oN_mul, oN_add, oN_sl (n := 48) (by show 48 ≤ (c p - 48) * 10 + c (p + 1); omega)]
        exact congrArg Int32.ofNat (by show (c p - 48) * 10 + c (p + 1) - 48 = _; omega)
      rw [if_pos (sg_dg.mp b), if_neg ni1, u2_self, bcall_of s2, blet_eq, bput_eq, u2_self, oN_al, u2_same (show 2 ≠ 3 by decide), u2_same (show 2 ≠ 3 by decide), e2, es2, v2, bcall_of (ix _ _)]
      exact ⟨_, rfl, by rw [u2_ne (by decide), u2_self, f1], by rw [u2_ne (by decide), u2_same (by decide), u2_same (by decide)]; exact e2, by rw [u2_self, f2], fun q hq => by rw [u2_same hq, u2_ne (by decide), u2_ne (by decide)], fun j h1 h2 => by rw [u2_ne h2, u2_ne h1, u2_ne h1]⟩
    · have f1 : nmP c n p 2 = p + 1 := by unfold nmP; rw [if_pos h, if_neg (fun q => b q.2)]
      have f2 : nmV c n p 2 = c p - 48 := by unfold nmV; rw [if_neg (fun q => b q.2)]
      rw [if_neg (fun q => b (sg_dg.mpr q)), if_pos rfl, u2_same (show 2 ≠ 3 by decide), e2, bcall_of (ix _ _)]
      exact ⟨_, rfl, by rw [u2_ne (by decide), u2_self, f1], by rw [u2_ne (by decide), u2_same (by decide)]; exact e2, by rw [u2_self, f2], fun q hq => by rw [u2_same hq, u2_ne (by decide)], fun j h1 h2 => by rw [u2_ne h2, u2_ne h1]⟩
theorem shr0 : ∀ z, z < 7 → (Int32.ofNat (lnS z)) >>> ((0 : Int32) &&& 31) = Int32.ofNat (lnS z) := by decide +kernel
theorem len_ex (σ : St) {z : Nat} (hz : z < 7) : M_J0_length_8abf5 σ z = some (σ, Int32.ofNat (lnS z)) := by
  have a0 : M_J0_coder_7d493 σ z = some (σ, 0) := by
    unfold M_J0_coder_7d493
    rw [if_neg (by decide)]
  unfold M_J0_length_8abf5
  rw [bcall_of a0, shr0 z hz]
theorem fo_end (m : Nat) (σ : St) {z j : Nat} (w : Int32) (hz : z < 6) (hj : j = lnS z) : B_X5_readOrder_51 (m + 1) σ 245 241 z w (Int32.ofNat j) = some (σ, 1) := by
  subst hj
  simp only [B_X5_readOrder_51]
  rw [bcall_of (len_ex σ (by omega)), if_pos (Int32.le_refl _)]
theorem fo_35 (m : Nat) (σ : St) {z j : Nat} (w : Nat) (hz : z < 6) (hj : j < lnS z) (hc : chr z j = Int32.ofNat 35) : B_X5_readOrder_51 (m + 1) σ 245 241 z (Int32.ofNat w) (Int32.ofNat j) = bcall (M_X5_readNumber σ 245 241 (Int32.ofNat w) (Int32.ofNat (1 - 1))) fun s r => if r = 0 then some (s, 0) else B_X5_readOrder_51 m s 245 241 z (Int32.ofNat (w + 1)) (Int32.ofNat (j + 1)) := by
  have h5 := (fm_len z hz).2.2
  simp only [B_X5_readOrder_51]
  rw [bcall_of (len_ex σ (by omega)), if_neg (oN_nle (by omega) (by omega) hj), bcall_of (char_at σ (by omega) hj), hc, if_pos (show Int32.ofNat 35 = (35 : Int32) from rfl)]
  simp only [show ((0 : Int32) = 0) = True from eq_true rfl, show (Int32.ofNat 35 = (37 : Int32)) = False from by decide, ↓reduceIte, blet_eq, oN_al]
  rfl
theorem fo_37 (m : Nat) (σ : St) {z j : Nat} (w : Nat) (hz : z < 6) (hj : j < lnS z) (hc : chr z j = Int32.ofNat 37) : B_X5_readOrder_51 (m + 1) σ 245 241 z (Int32.ofNat w) (Int32.ofNat j) = bcall (M_X5_readNumber σ 245 241 (Int32.ofNat w) (Int32.ofNat (2 - 1))) fun s r => if r = 0 then some (s, 0) else B_X5_readOrder_51 m s 245 241 z (Int32.ofNat (w + 1)) (Int32.ofNat (j + 1)) := by
  have h5 := (fm_len z hz).2.2
  simp only [B_X5_readOrder_51]
  rw [bcall_of (len_ex σ (by omega)), if_neg (oN_nle (by omega) (by omega) hj), bcall_of (char_at σ (by omega) hj), hc, if_neg (show ¬ (Int32.ofNat 37 = (35 : Int32)) from by decide)]
  simp only [show ((0 : Int32) = 0) = True from eq_true rfl, show (Int32.ofNat 37 = (37 : Int32)) = True from eq_true rfl, ↓reduceIte, blet_eq, oN_al]
  rfl
theorem fo_s (m : Nat) (σ : St) {z j x : Nat} (w : Nat) (hz : z < 6) (hj : j < lnS z) (hc : chr z j = Int32.ofNat x) (hx : ¬ isN x) (hx2 : x < 1000) : B_X5_readOrder_51 (m + 1) σ 245 241 z (Int32.ofNat w) (Int32.ofNat j) = bcall (M_X5_readSign σ 245 241 (Int32.ofNat x)) fun s r => if r = 0 then some (s, 0) else B_X5_readOrder_51 m s 245 241 z (Int32.ofNat w) (Int32.ofNat (j + 1)) := by
  have h5 := (fm_len z hz).2.2
  have n5 : (Int32.ofNat x = (35 : Int32)) = False := oN_eqFl (n := 35) (by omega) (by decide) (fun q => hx (Or.inl q))
  have n7 : (Int32.ofNat x = (37 : Int32)) = False := oN_eqFl (n := 37) (by omega) (by decide) (fun q => hx (Or.inr q))
  simp only [B_X5_readOrder_51]
  rw [bcall_of (len_ex σ (by omega)), if_neg (oN_nle (by omega) (by omega) hj), bcall_of (char_at σ (by omega) hj), hc]
  simp only [n5, n7, i10, ↓reduceIte, blet_eq, oN_al, add0]
/-- the class's reading of what is left of a form -/
theorem fo_ex {c : Nat → Nat} {n k z : Nat} (hz : z < 6) (hk : k < 20) : ∀ (l : List Nat) (j w p m : Nat) (σ : St), (∀ q, q < l.length → (fmN z).getD (j + q) 0 = l.getD q 0) → j + l.length = lnS z → w + ar l ≤ 3 → p ≤ n → Tc c n σ → σ 245 3 = Int32.ofNat p → σ 245 2 = Int32.ofNat k → ∃ σ1, B_X5_readOrder_51 (m + l.length + 1) σ 245 241 z (Int32.ofNat w) (Int32.ofNat j) = some (σ1, Int32.ofNat (rnR c n l p)) ∧ σ1 245 3 = Int32.ofNat (rnP c n l p) ∧ σ1 245 2 = Int32.ofNat k ∧ (rnR c n l p = 1 → ∀ q, w ≤ q → q < w + ar l → σ1 247 (3 * k + q) = Int32.ofNat (rnV c n l p w q)) ∧ (∀ q, (q < 3 * k + w ∨ 3 * k + 3 ≤ q) → σ1 247 q = σ 247 q) ∧ ∀ j, j ≠ 245 → j ≠ 247 → σ1 j = σ j := by
  intro l
  induction l with
  | nil =>
    intro j w p m σ hl hj hw hp T e e2
    refine ⟨σ, fo_end m σ _ hz (by simpa using hj), e, e2, fun _ q h1 h2 => ?_, fun _ _ => rfl, fun _ _ _ => rfl⟩
    have : ar [] = 0 := rfl
    omega
  | cons x l ih =>
    intro j w p m σ hl hj hw hp T e e2
    have hj2 : j < lnS z := by simp only [List.length_cons] at hj; omega
    obtain ⟨c1, c2, c3⟩ := fm_chr z hz j hj2
    have hx : (fmN z).getD j 0 = x := by
      have := hl 0 (by simp)
      simpa using this
    rw [hx] at c1 c2 c3
    have hl2 : ∀ q, q < l.length → (fmN z).getD (j + 1 + q) 0 = l.getD q 0 := fun q hq => by
      have := hl (q + 1) (by simp; omega)
      rw [show j + 1 + q = j + (q + 1) by omega, this]
      simp
    have hj3 : j + 1 + l.length = lnS z := by simp only [List.length_cons] at hj; omega
    have ef : m + (x :: l).length + 1 = (m + l.length + 1) + 1 := by simp only [List.length_cons]; omega
    rw [ef]
    have ni1 : ¬ ((1 : Int32) = 0) := by decide
    have num : ∀ mm, (mm = 1 ∨ mm = 2) → mo x = mm → isN x → B_X5_readOrder_51 ((m + l.length + 1) + 1) σ 245 241 z (Int32.ofNat w) (Int32.ofNat j) = (bcall (M_X5_readNumber σ 245 241 (Int32.ofNat w) (Int32.ofNat (mm - 1))) fun s r => if r = 0 then some (s, 0) else B_X5_readOrder_51 (m + l.length + 1) s 245 241 z (Int32.ofNat (w + 1)) (Int32.ofNat (j + 1))) → ∃ σ1, B_X5_readOrder_51 ((m + l.length + 1) + 1) σ 245 241 z (Int32.ofNat w) (Int32.ofNat j) = some (σ1, Int32.ofNat (rnR c n (x :: l) p)) ∧ σ1 245 3 = Int32.ofNat (rnP c n (x :: l) p) ∧ σ1 245 2 = Int32.ofNat k ∧ (rnR c n (x :: l) p = 1 → ∀ q, w ≤ q → q < w + ar (x :: l) → σ1 247 (3 * k + q) = Int32.ofNat (rnV c n (x :: l) p w q)) ∧ (∀ q, (q < 3 * k + w ∨ 3 * k + 3 ≤ q) → σ1 247 q = σ 247 q) ∧ ∀ j, j ≠ 245 → j ≠ 247 → σ1 j = σ j := by
      intro mm hmm emo hix eB
      have ha : ar (x :: l) = 1 + ar l := by show (if isN x then 1 else 0) + ar l = _; rw [if_pos hix]
      rw [ha] at hw ⊢
      rw [eB]
      by_cases d : dg c n p
      · obtain ⟨σ1, r1, r2, r3, r4, r5, r6⟩ := rn_ok (w := w) T e e2 hk (by omega) hmm d
        have io : itO c n x p := Or.inl ⟨hix, d⟩
        have eip : itP c n x p = nmP c n p mm := by unfold itP; rw [if_pos hix, emo]
        obtain ⟨σ2, s1, s2, s3, s4, s5, s6⟩ := ih (j + 1) (w + 1) (itP c n x p) m σ1 hl2 hj3 (by omega) (by rw [eip]; exact nmP_le hp) (T.cg (r6 241 (by decide) (by decide)) (r6 242 (by decide) (by decide))) (by rw [eip]; exact r2) r3
        rw [bcall_of r1, if_neg ni1]
        have eR : rnR c n (x :: l) p = rnR c n l (itP c n x p) := by
          show (if itO c n x p then _ else 0) = _
          rw [if_pos io]
        have eP : rnP c n (x :: l) p = rnP c n l (itP c n x p) := by
          show (if itO c n x p then _ else p) = _
          rw [if_pos io]
        rw [eR, eP]
        refine ⟨σ2, s1, s2, s3, fun hR q h1 h2 => ?_, fun q hq => by rw [s5 q (by omega), r5 q (by omega)], fun j h1 h2 => by rw [s6 j h1 h2, r6 j h1 h2]⟩
        show σ2 247 (3 * k + q) = Int32.ofNat (if isN x then (if q = w then nmV c n p (mo x) else rnV c n l (itP c n x p) (w + 1) q) else rnV c n l (itP c n x p) w q)
        rw [if_pos hix]
        by_cases eq : q = w
        · rw [if_pos eq, eq, s5 _ (by omega), r4, emo]
        · rw [if_neg eq]
          exact s4 hR q (by omega) (by omega)
      · have io : ¬ itO c n x p := fun q => by
          rcases q with q | q
          · exact d q.2
          · exact q.1 hix
        have eR : rnR c n (x :: l) p = 0 := by
          show (if itO c n x p then _ else 0) = _
          rw [if_neg io]
        have eP : rnP c n (x :: l) p = p := by
          show (if itO c n x p then _ else p) = _
          rw [if_neg io]
        rw [bcall_of (rn_no T e hp d _ _), if_pos rfl, eR, eP]
        exact ⟨σ, rfl, e, e2, (fun q => by cases q), fun _ _ => rfl, fun _ _ _ => rfl⟩
    by_cases h35 : x = 35
    · refine num 1 (Or.inl rfl) (by rw [h35]; rfl) (Or.inl h35) (fo_35 _ σ w hz hj2 (by rw [c1, h35]))
    by_cases h37 : x = 37
    · refine num 2 (Or.inr rfl) (by rw [h37]; rfl) (Or.inr h37) (fo_37 _ σ w hz hj2 (by rw [c1, h37]))
    have hix : ¬ isN x := fun q => by
      rcases q with q | q
      · exact h35 q
      · exact h37 q
    have ha : ar (x :: l) = ar l := by show (if isN x then 1 else 0) + ar l = _; rw [if_neg hix, Nat.zero_add]
    rw [ha] at hw ⊢
    rw [fo_s _ σ w hz hj2 c1 hix (by omega)]
    by_cases d : p < n ∧ c p = x
    · have io : itO c n x p := Or.inr ⟨hix, d⟩
      have eip : itP c n x p = p + 1 := by unfold itP; rw [if_neg hix]
      obtain ⟨σ2, s1, s2, s3, s4, s5, s6⟩ := ih (j + 1) w (itP c n x p) m (u2 σ 245 3 (Int32.ofNat (p + 1))) hl2 hj3 hw (by rw [eip]; omega) (T.cg (u2_ne (by decide)) (u2_ne (by decide))) (by rw [u2_self, eip]) (by rw [u2_same (by decide)]; exact e2)
      rw [bcall_of (rs_ok T e d), if_neg ni1]
      have eR : rnR c n (x :: l) p = rnR c n l (itP c n x p) := by
        show (if itO c n x p then _ else 0) = _
        rw [if_pos io]
      have eP : rnP c n (x :: l) p = rnP c n l (itP c n x p) := by
        show (if itO c n x p then _ else p) = _
        rw [if_pos io]
      rw [eR, eP]
      refine ⟨σ2, s1, s2, s3, fun hR q h1 h2 => ?_, fun q hq => by rw [s5 q hq, u2_ne (by decide)], fun j h1 h2 => by rw [s6 j h1 h2, u2_ne h1]⟩
      show σ2 247 (3 * k + q) = Int32.ofNat (if isN x then (if q = w then nmV c n p (mo x) else rnV c n l (itP c n x p) (w + 1) q) else rnV c n l (itP c n x p) w q)
      rw [if_neg hix]
      exact s4 hR q h1 h2
    · have io : ¬ itO c n x p := fun q => by
        rcases q with q | q
        · exact hix q.1
        · exact d q.2
      have eR : rnR c n (x :: l) p = 0 := by
        show (if itO c n x p then _ else 0) = _
        rw [if_neg io]
      have eP : rnP c n (x :: l) p = p := by
        show (if itO c n x p then _ else p) = _
        rw [if_neg io]
      rw [bcall_of (rs_no T e hp ⟨c3, by omega⟩ d), if_pos rfl, eR, eP]
      exact ⟨σ, rfl, e, e2, (fun q => by cases q), fun _ _ => rfl, fun _ _ _ => rfl⟩
theorem form_ex (σ : St) {L : Nat} (h : L < 1000) : M_X5_formOf σ (Int32.ofNat L) = some (σ, fz L) := by
  by_cases a : L < 98 ∨ 117 < L
  · have e : fz L = 5 := by
      unfold fz
      rw [if_neg (by omega), if_neg (by omega), if_neg (by omega), if_neg (by omega), if_neg (by omega), if_neg (by omega), if_neg (by omega), if_neg (by omega)]
    unfold M_X5_formOf
    rw [if_pos (by rw [oN_toInt (by omega)]; omega), e]
  · have c : L = 98 ∨ L = 99 ∨ L = 100 ∨ L = 101 ∨ L = 102 ∨ L = 103 ∨ L = 104 ∨ L = 105 ∨ L = 106 ∨ L = 107 ∨ L = 108 ∨ L = 109 ∨ L = 110 ∨ L = 111 ∨ L = 112 ∨ L = 113 ∨ L = 114 ∨ L = 115 ∨ L = 116 ∨ L = 117 := by omega
    rcases c with rfl | rfl | rfl | rfl | rfl | rfl | rfl | rfl | rfl | rfl | rfl | rfl | rfl | rfl | rfl | rfl | rfl | rfl | rfl | rfl
    all_goals rfl
/-- the class reads an order -/
theorem order_c {c : Nat → Nat} {n p k : Nat} {σ : St} (hk : k < 20) (T : Tc c n σ) (hp : p ≤ n) (e : σ 245 3 = Int32.ofNat p) (e2 : σ 245 2 = Int32.ofNat k) : ∃ σ1, M_X5_readOrder σ 245 241 = some (σ1, Int32.ofNat (odR c n p)) ∧ σ1 245 3 = Int32.ofNat (odP c n p) ∧ σ1 245 2 = Int32.ofNat k ∧ (odR c n p = 1 → σ1 246 k = Int32.ofNat (c p) ∧ ∀ q, q < ar (fmN (fz (c p))) → σ1 247 (3 * k + q) = Int32.ofNat (odV c n p q)) ∧ (∀ q, q < k → σ1 246 q = σ 246 q) ∧ (∀ q, q < 3 * k → σ1 247 q = σ 247 q) ∧ ∀ j, j ≠ 245 → j ≠ 246 → j ≠ 247 → σ1 j = σ j := by
  have hl := sg_lt (p := p) T.rg
  have l246 : ln (245 + 1) = 20 := by decide +kernel
  unfold M_X5_readOrder
  rw [e, bcall_of (sign_at T hp), bcall_of (form_ex σ (by omega))]
  by_cases a : odK c n p
  · have hz := fz_lt (c p)
    have es : sg c n p = c p := by unfold sg; rw [if_pos a.1]
    rw [es]
    obtain ⟨f1, f2, f3⟩ := fm_len (fz (c p)) hz
    obtain ⟨x, l, fe, _⟩ := fm_head (fz (c p)) (by have := a.2; omega)
    have fpos : 0 < lnS (fz (c p)) := by rw [← f1, fe]; simp
    have em : M_J0_isEmpty_aae02 σ (fz (c p)) = some (σ, 0) := by
      unfold M_J0_isEmpty_aae02
      rw [if_neg (fun q => (oN_eqFl (n := 0) (by omega) (by decide) (by show lnS (fz (c p)) ≠ 0; omega)).mp q)]
    have pu : M_X10_put σ (245 + 1) (Int32.ofNat k) (Int32.ofNat (c p)) = some (u2 σ 246 k (Int32.ofNat (c p)), 0) := put_nat (k := 246) (by rw [show ln 246 = 20 from l246]; exact hk)
    rw [bcall_of em, if_pos rfl, e2, bcall_of pu, bput_eq, u2_ne (show 245 ≠ 246 by decide), e, oN_al]
    obtain ⟨σ1, s1, s2, s3, s4, s5, s6⟩ := fo_ex (c := c) (n := n) hz hk (fmN (fz (c p))) 0 0 (p + 1) (999 - lnS (fz (c p))) (u2 (u2 σ 246 k (Int32.ofNat (c p))) 245 3 (Int32.ofNat (p + 1))) (fun q _ => by rw [Nat.zero_add]) (by rw [Nat.zero_add]; exact f1) (by omega) (by have := a.1; omega) (T.cg (by rw [u2_ne (by decide), u2_ne (by decide)]) (by rw [u2_ne (by decide), u2_ne (by decide)])) u2_self (by rw [u2_same (by decide), u2_ne (by decide)]; exact e2)
    have eF : 999 - lnS (fz (c p)) + (fmN (fz (c p))).length + 1 = FU := by rw [f1]; show _ = 1000; omega
    rw [eF] at s1
    have eR : odR c n p = rnR c n (fmN (fz (c p))) (p + 1) := by unfold odR; rw [if_pos a]
    have eP : odP c n p = rnP c n (fmN (fz (c p))) (p + 1) := by unfold odP; rw [if_pos a]
    rw [eR, eP]
    refine ⟨σ1, s1, s2, s3, fun hR => ⟨by rw [s6 246 (by decide) (by decide), u2_ne (by decide), u2_self], fun q hq => s4 hR q (by omega) (by omega)⟩, fun q hq => by rw [s6 246 (by decide) (by decide), u2_ne (by decide), u2_same (by omega)], fun q hq => by rw [s5 q (by omega), u2_ne (by decide), u2_ne (by decide)], fun j h1 h2 h3 => by rw [s6 j h1 h3, u2_ne h1, u2_ne h2]⟩
  · have ez : fz (sg c n p) = 5 := by
      unfold sg
      by_cases b : p < n
      · rw [if_pos b]
        by_cases d : fz (c p) = 5
        · exact d
        · exact absurd ⟨b, d⟩ a
      · rw [if_neg b]; rfl
    have em : M_J0_isEmpty_aae02 σ 5 = some (σ, 1) := by
      unfold M_J0_isEmpty_aae02
      rw [if_pos (by decide)]
    have eR : odR c n p = 0 := by unfold odR; rw [if_neg a]
    have eP : odP c n p = p := by unfold odP; rw [if_neg a]
    rw [ez, bcall_of em, if_neg (by decide), eR, eP]
    exact ⟨σ, rfl, e, e2, (fun q => by cases q), fun _ _ => rfl, fun _ _ => rfl, fun _ _ _ _ => rfl⟩
