/-! the reference reads it -/
def Tt (c : Nat → Nat) (n : Nat) (τ : St) : Prop := (τ 248 10 = Int32.ofNat n) ∧ (n ≤ 60) ∧ (∀ j, j < n → 32 ≤ c j ∧ c j ≤ 126) ∧ (∀ j, j < n → τ 255 j = Int32.ofNat (c j))
theorem Tt.l {c : Nat → Nat} {n : Nat} {τ : St} (h : Tt c n τ) : τ 248 10 = Int32.ofNat n := h.1
theorem Tt.hn {c : Nat → Nat} {n : Nat} {τ : St} (h : Tt c n τ) : n ≤ 60 := h.2.1
theorem Tt.rg {c : Nat → Nat} {n : Nat} {τ : St} (h : Tt c n τ) : ∀ j, j < n → 32 ≤ c j ∧ c j ≤ 126 := h.2.2.1
theorem Tt.tx {c : Nat → Nat} {n : Nat} {τ : St} (h : Tt c n τ) : ∀ j, j < n → τ 255 j = Int32.ofNat (c j) := h.2.2.2
theorem Tt.mk {c : Nat → Nat} {n : Nat} {τ : St} (l : τ 248 10 = Int32.ofNat n) (hn : n ≤ 60) (rg : ∀ j, j < n → 32 ≤ c j ∧ c j ≤ 126) (tx : ∀ j, j < n → τ 255 j = Int32.ofNat (c j)) : Tt c n τ := ⟨l, hn, rg, tx⟩
theorem Tt.cg {c : Nat → Nat} {n : Nat} {τ τ1 : St} (T : Tt c n τ) (a : τ1 248 10 = τ 248 10) (b : τ1 255 = τ 255) : Tt c n τ1 := ⟨by rw [a]; exact T.l, T.hn, T.rg, fun j hj => by rw [b]; exact T.tx j hj⟩
theorem ld_tx {α : Type} {c : Nat → Nat} {n p : Nat} {τ : St} {K : Int32 → Option α} (T : Tt c n τ) (h : p < n) : bald τ (248 + 7) (Int32.ofNat p) K = K (Int32.ofNat (c p)) := by
  have l255 : ln (248 + 7) = 60 := by decide +kernel
  have hn := T.hn
  rw [bald_nat (by rw [l255]; omega), T.tx p h]
theorem next_ok {c : Nat → Nat} {n p s : Nat} {τ : St} (T : Tt c n τ) (e : τ 248 11 = Int32.ofNat p) (h : p < n ∧ c p = s) : M_X11_isNext τ 248 (Int32.ofNat s) = some (u2 τ 248 11 (Int32.ofNat (p + 1)), 1) := by
  have hn := T.hn
  have h1 := h.1
  unfold M_X11_isNext
  rw [e, T.l, if_neg (fun q => by rw [oN_eq (by omega) (by omega)] at q; omega), ld_tx T h.1, h.2, if_pos rfl, bput_eq, oN_al]
theorem next_no {c : Nat → Nat} {n p s : Nat} {τ : St} (T : Tt c n τ) (e : τ 248 11 = Int32.ofNat p) (hp : p ≤ n) (hs : s < 1000) (h : ¬ (p < n ∧ c p = s)) : M_X11_isNext τ 248 (Int32.ofNat s) = some (τ, 0) := by
  have hn := T.hn
  unfold M_X11_isNext
  rw [e, T.l]
  by_cases a : p = n
  · rw [if_pos (by rw [a])]
  · have h1 : p < n := by omega
    have h2 := T.rg p h1
    rw [if_neg (fun q => by rw [oN_eq (by omega) (by omega)] at q; omega), ld_tx T h1, if_neg (fun q => by rw [oN_eq (by omega) (by omega)] at q; exact h ⟨h1, q⟩)]
theorem in_nat (τ : St) {g : Nat} (h : g < 1000) : M_X11_in τ (Int32.ofNat g) 48 57 = some (τ, if 48 ≤ g ∧ g ≤ 57 then 1 else 0) := by
  unfold M_X11_in
  by_cases a : g < 48
  · rw [if_pos (of_eq_true (oN_ltTl (n := 48) (by decide) a)), if_neg (by omega)]
  · rw [if_neg (fun q => (oN_ltFl (n := 48) (by omega) (by show 48 ≤ g; omega)).mp q)]
    by_cases b : 57 < g
    · rw [if_pos (of_eq_true (oN_lltT (n := 57) (by omega) b)), if_neg (by omega)]
    · rw [if_neg (fun q => (oN_lltF (n := 57) (by decide) (by show g ≤ 57; omega)).mp q), if_pos (by omega)]
theorem d_stop {c : Nat → Nat} {n p w mm j : Nat} {τ : St} (m : Nat) (T : Tt c n τ) (e : τ 248 11 = Int32.ofNat p) (hp : p ≤ n) (hm : mm ≤ 2) (hj : j ≤ mm) (h : j = mm ∨ ¬ dg c n p) : B_X11_digits_9 (m + 1) τ 248 (Int32.ofNat w) (Int32.ofNat mm) (Int32.ofNat j) = some (τ, if j = 0 then 0 else 1) := by
  have hn := T.hn
  have ej : (if Int32.ofNat j ≤ (0 : Int32) then some (τ, (0 : Int32)) else some (τ, (1 : Int32))) = some (τ, if j = 0 then 0 else 1) := by
    by_cases a : j = 0
    · rw [a]; rfl
    · rw [if_neg (fun q => (oN_leFl (n := 0) (by omega) (by show 0 < j; omega)).mp q), if_neg a]
  simp only [B_X11_digits_9]
  by_cases a : j = mm
  · rw [if_pos (by rw [a]; exact Int32.le_refl _)]
    exact ej
  · have hd : ¬ dg c n p := by
      rcases h with h | h
      · exact absurd h a
      · exact h
    rw [if_neg (oN_nle (by omega) (by omega) (by omega)), e, T.l]
    by_cases b : p = n
    · rw [if_pos (by rw [b]; exact Int32.le_refl _)]
      exact ej
    · have h1 : p < n := by omega
      have h2 := T.rg p h1
      rw [if_neg (oN_nle (by omega) (by omega) h1), ld_tx T h1, bcall_of (in_nat τ (by omega)), if_neg (fun q => hd ⟨h1, q⟩), if_pos rfl]
      exact ej
theorem d_go {c : Nat → Nat} {n p w mm j v : Nat} {τ : St} (m : Nat) (T : Tt c n τ) (e : τ 248 11 = Int32.ofNat p) (hw : w < 3) (ev : τ 256 w = Int32.ofNat v) (hm : mm ≤ 2) (hj : j < mm) (h : dg c n p) : B_X11_digits_9 (m + 1) τ 248 (Int32.ofNat w) (Int32.ofNat mm) (Int32.ofNat j) = B_X11_digits_9 m (u2 (u2 τ 248 11 (Int32.ofNat (p + 1))) 256 w (Int32.ofNat (10 * v + (c p - 48)))) 248 (Int32.ofNat w) (Int32.ofNat mm) (Int32.ofNat (j + 1)) := by
  have hn := T.hn
  have h1 := h.1
  have h2 := T.rg p h1
  have l256 : ln (248 + 8) = 3 := by decide +kernel
  have T2 : Tt c n (u2 τ 248 11 (Int32.ofNat (p + 1))) := T.cg (u2_same (by decide)) (u2_ne (by decide))
  have hv : 10 * Int32.ofNat v + Int32.ofNat (c p) - 48 = Int32.ofNat (10 * v + (c p - 48)) := by
    have h3 := h.2.1
    rw [oN_lm, oN_add, oN_sl (n := 48) (by show 48 ≤ 10 * v + c p; omega)]
    exact congrArg Int32.ofNat (by show 10 * v + c p - 48 = _; omega)
  simp only [B_X11_digits_9]
  rw [if_neg (oN_nle (by omega) (by omega) hj), e, T.l, if_neg (oN_nle (by omega) (by omega) h1), ld_tx T h1, bcall_of (in_nat τ (by omega)), if_pos h.2, if_neg (by decide), bald_nat (by rw [l256]; exact hw), e, blet_eq, bput_eq, oN_al p 1, ld_tx T2 h1, bast_nat (by rw [l256]; exact hw), blet_eq, oN_al j 1]
  show B_X11_digits_9 m (u2 (u2 τ 248 11 (Int32.ofNat (p + 1))) 256 w (10 * τ 256 w + Int32.ofNat (c p) - 48)) 248 _ _ _ = _
  rw [ev, hv]
theorem digits_ex {c : Nat → Nat} {n p w mm : Nat} {τ : St} (T : Tt c n τ) (e : τ 248 11 = Int32.ofNat p) (hp : p ≤ n) (hw : w < 3) (hm : mm = 1 ∨ mm = 2) : ∃ τ1, M_X11_digits τ 248 (Int32.ofNat w) (Int32.ofNat mm) = some (τ1, if dg c n p then 1 else 0) ∧ τ1 248 11 = Int32.ofNat (nmP c n p mm) ∧ (dg c n p → τ1 256 w = Int32.ofNat (nmV c n p mm)) ∧ (∀ q, q ≠ w → τ1 256 q = τ 256 q) ∧ (∀ k, k ≠ 248 → k ≠ 256 → τ1 k = τ k) ∧ ∀ q, q ≠ 11 → τ1 248 q = τ 248 q := by
  have l256 : ln (248 + 8) = 3 := by decide +kernel
  have T1 : Tt c n (u2 τ 256 w 0) := T.cg (by rw [u2_ne (by decide)]) (u2_ne (by decide))
  have e1 : u2 τ 256 w 0 248 11 = Int32.ofNat p := by rw [u2_ne (by decide)]; exact e
  unfold M_X11_digits
  rw [bast_nat (by rw [l256]; exact hw)]
  by_cases h : dg c n p
  · have s1 := d_go (v := 0) (j := 0) (mm := mm) 999 T1 e1 hw u2_self (by omega) (by omega) h
    have v0 : 10 * 0 + (c p - 48) = c p - 48 := by omega
    rw [v0] at s1
    have T2 : Tt c n (u2 (u2 (u2 τ 256 w 0) 248 11 (Int32.ofNat (p + 1))) 256 w (Int32.ofNat (c p - 48))) := T.cg (by rw [u2_ne (by decide), u2_same (by decide), u2_ne (by decide)]) (by rw [u2_ne (by decide), u2_ne (by decide), u2_ne (by decide)])
    have e2 : u2 (u2 (u2 τ 256 w 0) 248 11 (Int32.ofNat (p + 1))) 256 w (Int32.ofNat (c p - 48)) 248 11 = Int32.ofNat (p + 1) := by rw [u2_ne (by decide), u2_self]
    rw [if_pos h]
    by_cases b : mm = 2 ∧ dg c n (p + 1)
    · obtain ⟨rfl, b⟩ := b
      have s2 := d_go (v := c p - 48) (j := 1) (mm := 2) 998 T2 e2 hw u2_self (by omega) (by omega) b
      have T3 : Tt c n (u2 (u2 (u2 (u2 (u2 τ 256 w 0) 248 11 (Int32.ofNat (p + 1))) 256 w (Int32.ofNat (c p - 48))) 248 11 (Int32.ofNat (p + 1 + 1))) 256 w (Int32.ofNat (10 * (c p - 48) + (c (p + 1) - 48)))) := T2.cg (by rw [u2_ne (by decide), u2_same (by decide)]) (by rw [u2_ne (by decide), u2_ne (by decide)])
      have s3 := d_stop (w := w) (j := 2) (mm := 2) 997 T3 (p := p + 2) (by rw [u2_ne (by decide), u2_self]) (by have := b.1; omega) (by omega) (by omega) (Or.inl rfl)
      have f1 : nmP c n p 2 = p + 2 := by unfold nmP; rw [if_pos h, if_pos ⟨rfl, b⟩]
      have f2 : nmV c n p 2 = 10 * (c p - 48) + (c (p + 1) - 48) := by unfold nmV; rw [if_pos ⟨rfl, b⟩]
      rw [f1, f2]
      exact ⟨_, s1.trans (s2.trans s3), by rw [u2_ne (by decide), u2_self], fun _ => by rw [u2_self], fun q hq => by rw [u2_same hq, u2_ne (by decide), u2_same hq, u2_ne (by decide), u2_same hq], fun k h1 h2 => by rw [u2_ne h2, u2_ne h1, u2_ne h2, u2_ne h1, u2_ne h2], fun q hq => by rw [u2_ne (by decide), u2_same hq, u2_ne (by decide), u2_same hq, u2_ne (by decide)]⟩
    · have s2 := d_stop (w := w) (j := 1) (mm := mm) 998 T2 e2 (by have := h.1; omega) (by omega) (by omega) (by
        rcases hm with rfl | rfl
        · exact Or.inl rfl
        · exact Or.inr (fun q => b ⟨rfl, q⟩))
      have f1 : nmP c n p mm = p + 1 := by unfold nmP; rw [if_pos h, if_neg b]
      have f2 : nmV c n p mm = c p - 48 := by unfold nmV; rw [if_neg b]
      rw [f1, f2]
      exact ⟨_, s1.trans s2, e2, fun _ => by rw [u2_self], fun q hq => by rw [u2_same hq, u2_ne (by decide), u2_same hq], fun k h1 h2 => by rw [u2_ne h2, u2_ne h1, u2_ne h2], fun q hq => by rw [u2_ne (by decide), u2_same hq, u2_ne (by decide)]⟩
  · have s1 := d_stop (w := w) (j := 0) (mm := mm) 999 T1 e1 hp (by omega) (by omega) (Or.inr h)
    have f1 : nmP c n p mm = p := by unfold nmP; rw [if_neg h]
    rw [if_neg h, f1]
    exact ⟨_, s1, e1, fun q => absurd q h, fun q hq => by rw [u2_same hq], fun k h1 h2 => by rw [u2_ne h2], fun q _ => by rw [u2_ne (by decide)]⟩
def rF : List Nat → St → Nat → Option (St × Int32)
  | [], τ, _ => some (τ, 1)
  | x :: l, τ, w => if isN x then (bcall (M_X11_digits τ 248 (Int32.ofNat w) (Int32.ofNat (mo x))) fun s r => if r = 0 then some (s, 0) else rF l s (w + 1)) else (bcall (M_X11_isNext τ 248 (Int32.ofNat x)) fun s r => if r = 0 then some (s, 0) else rF l s w)
theorem mo_12 (x : Nat) : mo x = 1 ∨ mo x = 2 := by
  unfold mo
  by_cases h : x = 37
  · rw [if_pos h]; exact Or.inr rfl
  · rw [if_neg h]; exact Or.inl rfl
theorem rF_ex {c : Nat → Nat} {n : Nat} : ∀ (l : List Nat) (w p : Nat) (τ : St), (∀ x, x ∈ l → x < 1000) → w + ar l ≤ 3 → p ≤ n → Tt c n τ → τ 248 11 = Int32.ofNat p → ∃ τ1, rF l τ w = some (τ1, Int32.ofNat (rnR c n l p)) ∧ τ1 248 11 = Int32.ofNat (rnP c n l p) ∧ (rnR c n l p = 1 → ∀ q, w ≤ q → q < w + ar l → τ1 256 q = Int32.ofNat (rnV c n l p w q)) ∧ (∀ q, q < w → τ1 256 q = τ 256 q) ∧ (∀ k, k ≠ 248 → k ≠ 256 → τ1 k = τ k) ∧ ∀ q, q ≠ 11 → τ1 248 q = τ 248 q := by
  intro l
  induction l with
  | nil =>
    intro w p τ _ hw hp T e
    refine ⟨τ, rfl, e, fun _ q h1 h2 => ?_, fun _ _ => rfl, fun _ _ _ => rfl, fun _ _ => rfl⟩
    have : ar [] = 0 := rfl
    omega
  | cons x l ih =>
    intro w p τ hl hw hp T e
    have hx : x < 1000 := hl x (by simp)
    have hl2 : ∀ y, y ∈ l → y < 1000 := fun y hy => hl y (by simp [hy])
    have ni1 : ¬ ((1 : Int32) = 0) := by decide
    have eF : rF (x :: l) τ w = if isN x then (bcall (M_X11_digits τ 248 (Int32.ofNat w) (Int32.ofNat (mo x))) fun s r => if r = 0 then some (s, 0) else rF l s (w + 1)) else (bcall (M_X11_isNext τ 248 (Int32.ofNat x)) fun s r => if r = 0 then some (s, 0) else rF l s w) := rfl
    have eV : ∀ q, rnV c n (x :: l) p w q = if isN x then (if q = w then nmV c n p (mo x) else rnV c n l (itP c n x p) (w + 1) q) else rnV c n l (itP c n x p) w q := fun _ => rfl
    have eR : rnR c n (x :: l) p = if itO c n x p then rnR c n l (itP c n x p) else 0 := rfl
    have eP : rnP c n (x :: l) p = if itO c n x p then rnP c n l (itP c n x p) else p := rfl
    have ea : ar (x :: l) = (if isN x then 1 else 0) + ar l := rfl
    rw [eF]
    by_cases hix : isN x
    · rw [if_pos hix] at ea ⊢
      rw [ea] at hw ⊢
      obtain ⟨τ1, d1, d2, d3, d4, d5, d6⟩ := digits_ex T e hp (show w < 3 by omega) (mo_12 x)
      by_cases d : dg c n p
      · have io : itO c n x p := Or.inl ⟨hix, d⟩
        have eip : itP c n x p = nmP c n p (mo x) := by unfold itP; rw [if_pos hix]
        rw [if_pos d] at d1
        obtain ⟨τ2, s1, s2, s3, s4, s5, s6⟩ := ih (w + 1) (itP c n x p) τ1 hl2 (by omega) (by rw [eip]; exact nmP_le hp) (T.cg (d6 10 (by decide)) (d5 255 (by decide) (by decide))) (by rw [eip]; exact d2)
        rw [bcall_of d1, if_neg ni1, eR, eP, if_pos io, if_pos io]
        refine ⟨τ2, s1, s2, fun hR q h1 h2 => ?_, fun q hq => by rw [s4 q (by omega), d4 q (by omega)], fun k h1 h2 => by rw [s5 k h1 h2, d5 k h1 h2], fun q hq => by rw [s6 q hq, d6 q hq]⟩
        rw [eV, if_pos hix]
        by_cases eq : q = w
        · rw [if_pos eq, eq, s4 w (by omega)]; exact d3 d
        · rw [if_neg eq]; exact s3 hR q (by omega) (by omega)
      · have io : ¬ itO c n x p := fun q => by
          rcases q with q | q
          · exact d q.2
          · exact q.1 hix
        have eip : nmP c n p (mo x) = p := by unfold nmP; rw [if_neg d]
        rw [if_neg d] at d1
        rw [eip] at d2
        rw [bcall_of d1, if_pos rfl, eR, eP, if_neg io, if_neg io]
        exact ⟨τ1, rfl, d2, (fun q => by cases q), fun q hq => d4 q (by omega), d5, d6⟩
    · rw [if_neg hix] at ea ⊢
      rw [ea, Nat.zero_add] at hw ⊢
      by_cases d : p < n ∧ c p = x
      · have io : itO c n x p := Or.inr ⟨hix, d⟩
        have eip : itP c n x p = p + 1 := by unfold itP; rw [if_neg hix]
        obtain ⟨τ2, s1, s2, s3, s4, s5, s6⟩ := ih w (itP c n x p) (u2 τ 248 11 (Int32.ofNat (p + 1))) hl2 hw (by rw [eip]; omega) (T.cg (u2_same (by decide)) (u2_ne (by decide))) (by rw [u2_self, eip])
        rw [bcall_of (next_ok T e d), if_neg ni1, eR, eP, if_pos io, if_pos io]
        refine ⟨τ2, s1, s2, fun hR q h1 h2 => ?_, fun q hq => by rw [s4 q hq, u2_ne (by decide)], fun k h1 h2 => by rw [s5 k h1 h2, u2_ne h1], fun q hq => by rw [s6 q hq, u2_same hq]⟩
        rw [eV, if_neg hix]
        exact s3 hR q h1 h2
      · have io : ¬ itO c n x p := fun q => by
          rcases q with q | q
          · exact hix q.1
          · exact d q.2
        rw [bcall_of (next_no T e hp hx d), if_pos rfl, eR, eP, if_neg io, if_neg io]
        exact ⟨τ, rfl, e, (fun q => by cases q), fun _ _ => rfl, fun _ _ _ => rfl, fun _ _ => rfl⟩
theorem fm_lt : ∀ z, z < 6 → ∀ x, x ∈ fmN z → x < 1000 := by decide +kernel
theorem rF_one {c : Nat → Nat} {n p x : Nat} {τ : St} (T : Tt c n τ) (e : τ 248 11 = Int32.ofNat p) (hp : p ≤ n) (hx : isN x) : (bcall (M_X11_digits τ 248 (Int32.ofNat 0) (Int32.ofNat (mo x))) fun s r => bchk (okZ r) (some (s, r))) = rF [x] τ 0 := by
  obtain ⟨τ1, d1, _⟩ := digits_ex T e hp (show 0 < 3 by decide) (mo_12 x)
  have eF : rF [x] τ 0 = if isN x then (bcall (M_X11_digits τ 248 (Int32.ofNat 0) (Int32.ofNat (mo x))) fun s r => if r = 0 then some (s, 0) else some (s, 1)) else (bcall (M_X11_isNext τ 248 (Int32.ofNat x)) fun s r => if r = 0 then some (s, 0) else some (s, 1)) := rfl
  rw [eF, if_pos hx]
  by_cases d : dg c n p
  · rw [if_pos d] at d1
    rw [bcall_of d1, bcall_of d1, if_neg (by decide)]
    unfold bchk
    rw [if_pos okZ1]
  · rw [if_neg d] at d1
    rw [bcall_of d1, bcall_of d1, if_pos rfl]
    unfold bchk
    rw [if_pos okZ0]
/-- the reference reads an order -/
theorem order_r {c : Nat → Nat} {n p : Nat} {τ : St} (T : Tt c n τ) (hp : p ≤ n) (e : τ 248 11 = Int32.ofNat p) : ∃ τ1, M_X11_isOrder τ 248 = some (τ1, Int32.ofNat (odR c n p)) ∧ τ1 248 11 = Int32.ofNat (odP c n p) ∧ (odK c n p → τ1 248 12 = Int32.ofNat (c p)) ∧ (odR c n p = 1 → ∀ q, q < ar (fmN (fz (c p))) → τ1 256 q = Int32.ofNat (odV c n p q)) ∧ (∀ k, k ≠ 248 → k ≠ 256 → τ1 k = τ k) ∧ ∀ q, q ≠ 11 → q ≠ 12 → τ1 248 q = τ 248 q := by
  have hn := T.hn
  unfold M_X11_isOrder
  rw [e, T.l]
  by_cases a : p = n
  · have k0 : ¬ odK c n p := fun q => by have := q.1; omega
    have eR : odR c n p = 0 := by unfold odR; rw [if_neg k0]
    have eP : odP c n p = p := by unfold odP; rw [if_neg k0]
    rw [if_pos (by rw [a]), eR, eP]
    exact ⟨τ, rfl, e, fun q => absurd q k0, (fun q => by cases q), fun _ _ _ => rfl, fun _ _ _ => rfl⟩
  have h1 : p < n := by omega
  have h2 := T.rg p h1
  rw [if_neg (fun q => by rw [oN_eq (by omega) (by omega)] at q; omega), ld_tx T h1]
  unfold bchk
  rw [if_pos (okC_nat _ (by omega)), bput_eq, u2_self, u2_same (show 11 ≠ 12 by decide), e, bput_eq, oN_al]
  have T1 : Tt c n (u2 (u2 τ 248 12 (Int32.ofNat (c p))) 248 11 (Int32.ofNat (p + 1))) := T.cg (by rw [u2_same (by decide), u2_same (by decide)]) (by rw [u2_ne (by decide), u2_ne (by decide)])
  have bad : fz (c p) = 5 → ∃ τ1, some (u2 τ 248 12 (Int32.ofNat (c p)), (0 : Int32)) = some (τ1, Int32.ofNat (odR c n p)) ∧ τ1 248 11 = Int32.ofNat (odP c n p) ∧ (odK c n p → τ1 248 12 = Int32.ofNat (c p)) ∧ (odR c n p = 1 → ∀ q, q < ar (fmN (fz (c p))) → τ1 256 q = Int32.ofNat (odV c n p q)) ∧ (∀ k, k ≠ 248 → k ≠ 256 → τ1 k = τ k) ∧ ∀ q, q ≠ 11 → q ≠ 12 → τ1 248 q = τ 248 q := fun h5 => by
    have k0 : ¬ odK c n p := fun q => q.2 h5
    have eR : odR c n p = 0 := by unfold odR; rw [if_neg k0]
    have eP : odP c n p = p := by unfold odP; rw [if_neg k0]
    rw [eR, eP]
    exact ⟨_, rfl, by rw [u2_same (by decide)]; exact e, fun _ => by rw [u2_self], (fun q => by cases q), fun k q1 q2 => by rw [u2_ne q1], fun q _ q2 => by rw [u2_same q2]⟩
  have good : ∀ (x : Option (St × Int32)), fz (c p) ≠ 5 → x = rF (fmN (fz (c p))) (u2 (u2 τ 248 12 (Int32.ofNat (c p))) 248 11 (Int32.ofNat (p + 1))) 0 → ∃ τ1, x = some (τ1, Int32.ofNat (odR c n p)) ∧ τ1 248 11 = Int32.ofNat (odP c n p) ∧ (odK c n p → τ1 248 12 = Int32.ofNat (c p)) ∧ (odR c n p = 1 → ∀ q, q < ar (fmN (fz (c p))) → τ1 256 q = Int32.ofNat (odV c n p q)) ∧ (∀ k, k ≠ 248 → k ≠ 256 → τ1 k = τ k) ∧ ∀ q, q ≠ 11 → q ≠ 12 → τ1 248 q = τ 248 q := fun x h5 hx => by
    have k1 : odK c n p := ⟨h1, h5⟩
    have eR : odR c n p = rnR c n (fmN (fz (c p))) (p + 1) := by unfold odR; rw [if_pos k1]
    have eP : odP c n p = rnP c n (fmN (fz (c p))) (p + 1) := by unfold odP; rw [if_pos k1]
    have hz := fz_lt (c p)
    have hf := fm_len (fz (c p)) hz
    obtain ⟨τ1, s1, s2, s3, s4, s5, s6⟩ := rF_ex (c := c) (n := n) (fmN (fz (c p))) 0 (p + 1) _ (fm_lt _ hz) (by omega) (by omega) T1 u2_self
    rw [eR, eP]
    refine ⟨τ1, hx.trans s1, s2, fun _ => by rw [s6 12 (by decide), u2_same (by decide), u2_self], fun hR q hq => s3 hR q (by omega) (by omega), fun k q1 q2 => by rw [s5 k q1 q2, u2_ne q1, u2_ne q1], fun q q1 q2 => by rw [s6 q q1, u2_same q1, u2_same q2]⟩
  have one : ∀ x, isN x → fmN (fz (c p)) = [x] → (bcall (M_X11_digits (u2 (u2 τ 248 12 (Int32.ofNat (c p))) 248 11 (Int32.ofNat (p + 1))) 248 (Int32.ofNat 0) (Int32.ofNat (mo x))) fun s r => bchk (okZ r) (some (s, r))) = rF (fmN (fz (c p))) (u2 (u2 τ 248 12 (Int32.ofNat (c p))) 248 11 (Int32.ofNat (p + 1))) 0 := fun x hx hf => by
    rw [hf]
    exact rF_one T1 u2_self (by omega) hx
  by_cases lo : c p < 98 ∨ 117 < c p
  · rw [if_pos (by rw [oN_toInt (by omega)]; omega)]
    refine bad ?_
    unfold fz
    rw [if_neg (by omega), if_neg (by omega), if_neg (by omega), if_neg (by omega), if_neg (by omega), if_neg (by omega), if_neg (by omega), if_neg (by omega)]
  rw [if_neg (by rw [oN_toInt (by omega)]; omega)]
  generalize hL : c p = L at *
  have cs : L = 98 ∨ L = 99 ∨ L = 100 ∨ L = 101 ∨ L = 102 ∨ L = 103 ∨ L = 104 ∨ L = 105 ∨ L = 106 ∨ L = 107 ∨ L = 108 ∨ L = 109 ∨ L = 110 ∨ L = 111 ∨ L = 112 ∨ L = 113 ∨ L = 114 ∨ L = 115 ∨ L = 116 ∨ L = 117 := by omega
  rcases cs with rfl | rfl | rfl | rfl | rfl | rfl | rfl | rfl | rfl | rfl | rfl | rfl | rfl | rfl | rfl | rfl | rfl | rfl | rfl | rfl
  · rw [show (Int32.ofNat 98).toInt = 98 from rfl]
    rw [if_pos (show (98 : Int) = 98 from rfl)]
    exact good _ (by decide) rfl
  · rw [show (Int32.ofNat 99).toInt = 99 from rfl]
    rw [if_neg (show ¬ ((99 : Int) = 98) from by decide), if_pos (show (99 : Int) = 99 from rfl)]
    exact bad rfl
  · rw [show (Int32.ofNat 100).toInt = 100 from rfl]
    rw [if_neg (show ¬ ((100 : Int) = 98) from by decide), if_neg (show ¬ ((100 : Int) = 99) from by decide), if_pos (show (100 : Int) = 100 from rfl)]
    exact good _ (by decide) (one 35 (Or.inl rfl) rfl)
  · rw [show (Int32.ofNat 101).toInt = 101 from rfl]
    rw [if_neg (show ¬ ((101 : Int) = 98) from by decide), if_neg (show ¬ ((101 : Int) = 99) from by decide), if_neg (show ¬ ((101 : Int) = 100) from by decide), if_pos (show (101 : Int) = 101 from rfl)]
    exact bad rfl
  · rw [show (Int32.ofNat 102).toInt = 102 from rfl]
    rw [if_neg (show ¬ ((102 : Int) = 98) from by decide), if_neg (show ¬ ((102 : Int) = 99) from by decide), if_neg (show ¬ ((102 : Int) = 100) from by decide), if_neg (show ¬ ((102 : Int) = 101) from by decide), if_pos (show (102 : Int) = 102 from rfl)]
    exact bad rfl
  · rw [show (Int32.ofNat 103).toInt = 103 from rfl]
    rw [if_neg (show ¬ ((103 : Int) = 98) from by decide), if_neg (show ¬ ((103 : Int) = 99) from by decide), if_neg (show ¬ ((103 : Int) = 100) from by decide), if_neg (show ¬ ((103 : Int) = 101) from by decide), if_neg (show ¬ ((103 : Int) = 102) from by decide), if_pos (show (103 : Int) = 103 from rfl)]
    exact good _ (by decide) (one 37 (Or.inr rfl) rfl)
  · rw [show (Int32.ofNat 104).toInt = 104 from rfl]
    rw [if_neg (show ¬ ((104 : Int) = 98) from by decide), if_neg (show ¬ ((104 : Int) = 99) from by decide), if_neg (show ¬ ((104 : Int) = 100) from by decide), if_neg (show ¬ ((104 : Int) = 101) from by decide), if_neg (show ¬ ((104 : Int) = 102) from by decide), if_neg (show ¬ ((104 : Int) = 103) from by decide), if_pos (show (104 : Int) = 104 from rfl)]
    exact bad rfl
  · rw [show (Int32.ofNat 105).toInt = 105 from rfl]
    rw [if_neg (show ¬ ((105 : Int) = 98) from by decide), if_neg (show ¬ ((105 : Int) = 99) from by decide), if_neg (show ¬ ((105 : Int) = 100) from by decide), if_neg (show ¬ ((105 : Int) = 101) from by decide), if_neg (show ¬ ((105 : Int) = 102) from by decide), if_neg (show ¬ ((105 : Int) = 103) from by decide), if_neg (show ¬ ((105 : Int) = 104) from by decide), if_pos (show (105 : Int) = 105 from rfl)]
    exact good _ (by decide) rfl
  · rw [show (Int32.ofNat 106).toInt = 106 from rfl]
    rw [if_neg (show ¬ ((106 : Int) = 98) from by decide), if_neg (show ¬ ((106 : Int) = 99) from by decide), if_neg (show ¬ ((106 : Int) = 100) from by decide), if_neg (show ¬ ((106 : Int) = 101) from by decide), if_neg (show ¬ ((106 : Int) = 102) from by decide), if_neg (show ¬ ((106 : Int) = 103) from by decide), if_neg (show ¬ ((106 : Int) = 104) from by decide), if_neg (show ¬ ((106 : Int) = 105) from by decide), if_pos (show (106 : Int) = 106 from rfl)]
    exact bad rfl
  · rw [show (Int32.ofNat 107).toInt = 107 from rfl]
    rw [if_neg (show ¬ ((107 : Int) = 98) from by decide), if_neg (show ¬ ((107 : Int) = 99) from by decide), if_neg (show ¬ ((107 : Int) = 100) from by decide), if_neg (show ¬ ((107 : Int) = 101) from by decide), if_neg (show ¬ ((107 : Int) = 102) from by decide), if_neg (show ¬ ((107 : Int) = 103) from by decide), if_neg (show ¬ ((107 : Int) = 104) from by decide), if_neg (show ¬ ((107 : Int) = 105) from by decide), if_neg (show ¬ ((107 : Int) = 106) from by decide), if_pos (show (107 : Int) = 107 from rfl)]
    exact bad rfl
  · rw [show (Int32.ofNat 108).toInt = 108 from rfl]
    rw [if_neg (show ¬ ((108 : Int) = 98) from by decide), if_neg (show ¬ ((108 : Int) = 99) from by decide), if_neg (show ¬ ((108 : Int) = 100) from by decide), if_neg (show ¬ ((108 : Int) = 101) from by decide), if_neg (show ¬ ((108 : Int) = 102) from by decide), if_neg (show ¬ ((108 : Int) = 103) from by decide), if_neg (show ¬ ((108 : Int) = 104) from by decide), if_neg (show ¬ ((108 : Int) = 105) from by decide), if_neg (show ¬ ((108 : Int) = 106) from by decide), if_neg (show ¬ ((108 : Int) = 107) from by decide), if_pos (show (108 : Int) = 108 from rfl)]
    exact good _ (by decide) rfl
  · rw [show (Int32.ofNat 109).toInt = 109 from rfl]
    rw [if_neg (show ¬ ((109 : Int) = 98) from by decide), if_neg (show ¬ ((109 : Int) = 99) from by decide), if_neg (show ¬ ((109 : Int) = 100) from by decide), if_neg (show ¬ ((109 : Int) = 101) from by decide), if_neg (show ¬ ((109 : Int) = 102) from by decide), if_neg (show ¬ ((109 : Int) = 103) from by decide), if_neg (show ¬ ((109 : Int) = 104) from by decide), if_neg (show ¬ ((109 : Int) = 105) from by decide), if_neg (show ¬ ((109 : Int) = 106) from by decide), if_neg (show ¬ ((109 : Int) = 107) from by decide), if_neg (show ¬ ((109 : Int) = 108) from by decide), if_pos (show (109 : Int) = 109 from rfl)]
    exact bad rfl
  · rw [show (Int32.ofNat 110).toInt = 110 from rfl]
    rw [if_neg (show ¬ ((110 : Int) = 98) from by decide), if_neg (show ¬ ((110 : Int) = 99) from by decide), if_neg (show ¬ ((110 : Int) = 100) from by decide), if_neg (show ¬ ((110 : Int) = 101) from by decide), if_neg (show ¬ ((110 : Int) = 102) from by decide), if_neg (show ¬ ((110 : Int) = 103) from by decide), if_neg (show ¬ ((110 : Int) = 104) from by decide), if_neg (show ¬ ((110 : Int) = 105) from by decide), if_neg (show ¬ ((110 : Int) = 106) from by decide), if_neg (show ¬ ((110 : Int) = 107) from by decide), if_neg (show ¬ ((110 : Int) = 108) from by decide), if_neg (show ¬ ((110 : Int) = 109) from by decide), if_pos (show (110 : Int) = 110 from rfl)]
    exact good _ (by decide) (one 37 (Or.inr rfl) rfl)
  · rw [show (Int32.ofNat 111).toInt = 111 from rfl]
    rw [if_neg (show ¬ ((111 : Int) = 98) from by decide), if_neg (show ¬ ((111 : Int) = 99) from by decide), if_neg (show ¬ ((111 : Int) = 100) from by decide), if_neg (show ¬ ((111 : Int) = 101) from by decide), if_neg (show ¬ ((111 : Int) = 102) from by decide), if_neg (show ¬ ((111 : Int) = 103) from by decide), if_neg (show ¬ ((111 : Int) = 104) from by decide), if_neg (show ¬ ((111 : Int) = 105) from by decide), if_neg (show ¬ ((111 : Int) = 106) from by decide), if_neg (show ¬ ((111 : Int) = 107) from by decide), if_neg (show ¬ ((111 : Int) = 108) from by decide), if_neg (show ¬ ((111 : Int) = 109) from by decide), if_neg (show ¬ ((111 : Int) = 110) from by decide), if_pos (show (111 : Int) = 111 from rfl)]
    exact bad rfl
  · rw [show (Int32.ofNat 112).toInt = 112 from rfl]
    rw [if_neg (show ¬ ((112 : Int) = 98) from by decide), if_neg (show ¬ ((112 : Int) = 99) from by decide), if_neg (show ¬ ((112 : Int) = 100) from by decide), if_neg (show ¬ ((112 : Int) = 101) from by decide), if_neg (show ¬ ((112 : Int) = 102) from by decide), if_neg (show ¬ ((112 : Int) = 103) from by decide), if_neg (show ¬ ((112 : Int) = 104) from by decide), if_neg (show ¬ ((112 : Int) = 105) from by decide), if_neg (show ¬ ((112 : Int) = 106) from by decide), if_neg (show ¬ ((112 : Int) = 107) from by decide), if_neg (show ¬ ((112 : Int) = 108) from by decide), if_neg (show ¬ ((112 : Int) = 109) from by decide), if_neg (show ¬ ((112 : Int) = 110) from by decide), if_neg (show ¬ ((112 : Int) = 111) from by decide), if_pos (show (112 : Int) = 112 from rfl)]
    exact bad rfl
  · rw [show (Int32.ofNat 113).toInt = 113 from rfl]
    rw [if_neg (show ¬ ((113 : Int) = 98) from by decide), if_neg (show ¬ ((113 : Int) = 99) from by decide), if_neg (show ¬ ((113 : Int) = 100) from by decide), if_neg (show ¬ ((113 : Int) = 101) from by decide), if_neg (show ¬ ((113 : Int) = 102) from by decide), if_neg (show ¬ ((113 : Int) = 103) from by decide), if_neg (show ¬ ((113 : Int) = 104) from by decide), if_neg (show ¬ ((113 : Int) = 105) from by decide), if_neg (show ¬ ((113 : Int) = 106) from by decide), if_neg (show ¬ ((113 : Int) = 107) from by decide), if_neg (show ¬ ((113 : Int) = 108) from by decide), if_neg (show ¬ ((113 : Int) = 109) from by decide), if_neg (show ¬ ((113 : Int) = 110) from by decide), if_neg (show ¬ ((113 : Int) = 111) from by decide), if_neg (show ¬ ((113 : Int) = 112) from by decide), if_pos (show (113 : Int) = 113 from rfl)]
    exact bad rfl
  · rw [show (Int32.ofNat 114).toInt = 114 from rfl]
    rw [if_neg (show ¬ ((114 : Int) = 98) from by decide), if_neg (show ¬ ((114 : Int) = 99) from by decide), if_neg (show ¬ ((114 : Int) = 100) from by decide), if_neg (show ¬ ((114 : Int) = 101) from by decide), if_neg (show ¬ ((114 : Int) = 102) from by decide), if_neg (show ¬ ((114 : Int) = 103) from by decide), if_neg (show ¬ ((114 : Int) = 104) from by decide), if_neg (show ¬ ((114 : Int) = 105) from by decide), if_neg (show ¬ ((114 : Int) = 106) from by decide), if_neg (show ¬ ((114 : Int) = 107) from by decide), if_neg (show ¬ ((114 : Int) = 108) from by decide), if_neg (show ¬ ((114 : Int) = 109) from by decide), if_neg (show ¬ ((114 : Int) = 110) from by decide), if_neg (show ¬ ((114 : Int) = 111) from by decide), if_neg (show ¬ ((114 : Int) = 112) from by decide), if_neg (show ¬ ((114 : Int) = 113) from by decide), if_pos (show (114 : Int) = 114 from rfl)]
    exact bad rfl
  · rw [show (Int32.ofNat 115).toInt = 115 from rfl]
    rw [if_neg (show ¬ ((115 : Int) = 98) from by decide), if_neg (show ¬ ((115 : Int) = 99) from by decide), if_neg (show ¬ ((115 : Int) = 100) from by decide), if_neg (show ¬ ((115 : Int) = 101) from by decide), if_neg (show ¬ ((115 : Int) = 102) from by decide), if_neg (show ¬ ((115 : Int) = 103) from by decide), if_neg (show ¬ ((115 : Int) = 104) from by decide), if_neg (show ¬ ((115 : Int) = 105) from by decide), if_neg (show ¬ ((115 : Int) = 106) from by decide), if_neg (show ¬ ((115 : Int) = 107) from by decide), if_neg (show ¬ ((115 : Int) = 108) from by decide), if_neg (show ¬ ((115 : Int) = 109) from by decide), if_neg (show ¬ ((115 : Int) = 110) from by decide), if_neg (show ¬ ((115 : Int) = 111) from by decide), if_neg (show ¬ ((115 : Int) = 112) from by decide), if_neg (show ¬ ((115 : Int) = 113) from by decide), if_neg (show ¬ ((115 : Int) = 114) from by decide), if_pos (show (115 : Int) = 115 from rfl)]
    exact bad rfl
  · rw [show (Int32.ofNat 116).toInt = 116 from rfl]
    rw [if_neg (show ¬ ((116 : Int) = 98) from by decide), if_neg (show ¬ ((116 : Int) = 99) from by decide), if_neg (show ¬ ((116 : Int) = 100) from by decide), if_neg (show ¬ ((116 : Int) = 101) from by decide), if_neg (show ¬ ((116 : Int) = 102) from by decide), if_neg (show ¬ ((116 : Int) = 103) from by decide), if_neg (show ¬ ((116 : Int) = 104) from by decide), if_neg (show ¬ ((116 : Int) = 105) from by decide), if_neg (show ¬ ((116 : Int) = 106) from by decide), if_neg (show ¬ ((116 : Int) = 107) from by decide), if_neg (show ¬ ((116 : Int) = 108) from by decide), if_neg (show ¬ ((116 : Int) = 109) from by decide), if_neg (show ¬ ((116 : Int) = 110) from by decide), if_neg (show ¬ ((116 : Int) = 111) from by decide), if_neg (show ¬ ((116 : Int) = 112) from by decide), if_neg (show ¬ ((116 : Int) = 113) from by decide), if_neg (show ¬ ((116 : Int) = 114) from by decide), if_neg (show ¬ ((116 : Int) = 115) from by decide), if_pos (show (116 : Int) = 116 from rfl)]
    exact good _ (by decide) (one 35 (Or.inl rfl) rfl)
  · rw [show (Int32.ofNat 117).toInt = 117 from rfl]
    rw [if_neg (show ¬ ((117 : Int) = 98) from by decide), if_neg (show ¬ ((117 : Int) = 99) from by decide), if_neg (show ¬ ((117 : Int) = 100) from by decide), if_neg (show ¬ ((117 : Int) = 101) from by decide), if_neg (show ¬ ((117 : Int) = 102) from by decide), if_neg (show ¬ ((117 : Int) = 103) from by decide), if_neg (show ¬ ((117 : Int) = 104) from by decide), if_neg (show ¬ ((117 : Int) = 105) from by decide), if_neg (show ¬ ((117 : Int) = 106) from by decide), if_neg (show ¬ ((117 : Int) = 107) from by decide), if_neg (show ¬ ((117 : Int) = 108) from by decide), if_neg (show ¬ ((117 : Int) = 109) from by decide), if_neg (show ¬ ((117 : Int) = 110) from by decide), if_neg (show ¬ ((117 : Int) = 111) from by decide), if_neg (show ¬ ((117 : Int) = 112) from by decide), if_neg (show ¬ ((117 : Int) = 113) from by decide), if_neg (show ¬ ((117 : Int) = 114) from by decide), if_neg (show ¬ ((117 : Int) = 115) from by decide), if_neg (show ¬ ((117 : Int) = 116) from by decide), if_pos (show (117 : Int) = 117 from rfl)]
    exact good _ (by decide) rfl
/-! both read a text -/
def ps (c : Nat → Nat) (n : Nat) : Nat → Nat
  | 0 => 0
  | k + 1 => odP c n (ps c n k) + 1
def FrC (σ0 σ1 : St) : Prop := ∀ k, k ≠ 245 → k ≠ 246 → k ≠ 247 → σ1 k = σ0 k
def FrT (τ0 τ1 : St) : Prop := (∀ k, k ≠ 248 → k ≠ 256 → τ1 k = τ0 k) ∧ ∀ q, q ≠ 11 → q ≠ 12 → τ1 248 q = τ0 248 q
/-- order j stands in the class's rows -/
def Std (c : Nat → Nat) (n : Nat) (σ : St) (j : Nat) : Prop := odR c n (ps c n j) = 1 ∧ σ 246 j = Int32.ofNat (c (ps c n j)) ∧ ∀ q, q < ar (fmN (fz (c (ps c n j)))) → σ 247 (3 * j + q) = Int32.ofNat (odV c n (ps c n j) q)
def RdF (c : Nat → Nat) (n : Nat) (σ0 τ0 : St) (x y : Option (St × Int32)) : Prop := ∃ σ1 τ1 f, f ≤ n ∧ x = some (σ1, Int32.ofNat f) ∧ y = B_X11_script_54 τ1 248 0 ∧ τ1 248 11 = Int32.ofNat f ∧ FrC σ0 σ1 ∧ FrT τ0 τ1
def RdK (c : Nat → Nat) (n : Nat) (σ0 τ0 : St) (x y : Option (St × Int32)) : Prop := ∃ σ1 τ1 K, x = some (σ1, -4) ∧ y = B_X11_script_54 τ1 248 1 ∧ K + 1 ≤ 20 ∧ σ1 245 2 = Int32.ofNat (K + 1) ∧ (∀ j, j < K + 1 → Std c n σ1 j) ∧ (∀ j, j < K → odP c n (ps c n j) < n ∧ c (odP c n (ps c n j)) = 59) ∧ odP c n (ps c n K) = n ∧ FrC σ0 σ1 ∧ FrT τ0 τ1
theorem read_both {c : Nat → Nat} {n : Nat} {σ0 τ0 : St} (T0 : Tc c n σ0) (U0 : Tt c n τ0) (e0 : σ0 245 3 = Int32.ofNat 0) (e1 : σ0 245 2 = Int32.ofNat 0) (e2 : τ0 248 11 = Int32.ofNat 0) : RdF c n σ0 τ0 (B_X5_read_12 FU σ0 245 241 0) (bcall (M_X11_isOrder τ0 248) fun s r => B_X11_script_14 FU s 248 r) ∨ RdK c n σ0 τ0 (B_X5_read_12 FU σ0 245 241 0) (bcall (M_X11_isOrder τ0 248) fun s r => B_X11_script_14 FU s 248 r) := by
  have hn := T0.hn
  have ni1 : ¬ ((1 : Int32) = 0) := by decide
  refine two2 (F := fun m a x => B_X5_read_12 m a 245 241 x) (G := fun m b _ => bcall (M_X11_isOrder b 248) fun s r => B_X11_script_14 m s 248 r) (I := fun k a b => ps c n k ≤ n ∧ a 245 3 = Int32.ofNat (ps c n k) ∧ a 245 2 = Int32.ofNat k ∧ b 248 11 = Int32.ofNat (ps c n k) ∧ (∀ j, j < k → Std c n a j) ∧ (∀ j, j < k → odP c n (ps c n j) < n ∧ c (odP c n (ps c n j)) = 59) ∧ 3 * k ≤ ps c n k ∧ FrC σ0 a ∧ FrT τ0 b) (P := fun x y => RdF c n σ0 τ0 x y ∨ RdK c n σ0 τ0 x y) (N := 20) ?_ ?_ 20 0 FU FU σ0 τ0 (by omega) (FU_lt (by omega)) (FU_lt (by omega)) ⟨Nat.zero_le _, e0, e1, e2, fun j hj => by omega, fun j hj => by omega, Nat.zero_le _, fun _ _ _ _ => rfl, fun _ _ _ => rfl, fun _ _ _ => rfl⟩
  · rintro m1 m2 a b ⟨hp, a3, a2, b11, st, ch, h3, fc, ft⟩
    have U : Tt c n b := U0.cg (ft.2 10 (by decide) (by decide)) (ft.1 255 (by decide) (by decide))
    obtain ⟨τ1, s1, s2, s3, s4, s5, s6⟩ := order_r U hp b11
    have k0 : ¬ odK c n (ps c n 20) := fun q => by have := q.1; omega
    have eR : odR c n (ps c n 20) = 0 := by unfold odR; rw [if_neg k0]
    have eP : odP c n (ps c n 20) = ps c n 20 := by unfold odP; rw [if_neg k0]
    rw [eR] at s1
    rw [eP] at s2
    refine Or.inl ⟨a, τ1, ps c n 20, hp, ?_, ?_, s2, fc, fun k q1 q2 => by rw [s5 k q1 q2, ft.1 k q1 q2], fun q q1 q2 => by rw [s6 q q1 q2, ft.2 q q1 q2]⟩
    · simp only [B_X5_read_12]
      rw [if_pos (by decide), a3]
    · rw [bcall_of s1]
      simp only [B_X11_script_14]
      exact (if_pos (show Int32.ofNat 0 = (0 : Int32) from rfl)).trans rfl
  · rintro m1 m2 k a b hk _ hm2 ⟨hp, a3, a2, b11, st, ch, h3, fc, ft⟩
    have U : Tt c n b := U0.cg (ft.2 10 (by decide) (by decide)) (ft.1 255 (by decide) (by decide))
    have T : Tc c n a := T0.cg (fc 241 (by decide) (by decide) (by decide)) (fc 242 (by decide) (by decide) (by decide))
    obtain ⟨σ1, r1, r2, r3, r4, r5, r6, r7⟩ := order_c hk T hp a3 a2
    obtain ⟨τ1, s1, s2, s3, s4, s5, s6⟩ := order_r U hp b11
    have fc1 : FrC σ0 σ1 := fun j q1 q2 q3 => by rw [r7 j q1 q2 q3, fc j q1 q2 q3]
    have ft1 : FrT τ0 τ1 := ⟨fun j q1 q2 => by rw [s5 j q1 q2, ft.1 j q1 q2], fun q q1 q2 => by rw [s6 q q1 q2, ft.2 q q1 q2]⟩
    have hpo := odP_le (c := c) (n := n) hp
    simp only [B_X5_read_12]
    rw [if_neg (fun q => (oN_lleF (n := 20) (by decide) hk).mp q), bcall_of r1, bcall_of s1]
    simp only [B_X11_script_14]
    rcases odR_01 (c := c) (n := n) (p := ps c n k) with eR | eR
    · rw [eR, if_pos (show Int32.ofNat 0 = (0 : Int32) from rfl), if_pos (show Int32.ofNat 0 = (0 : Int32) from rfl), r2]
      exact Or.inl (Or.inl ⟨σ1, τ1, odP c n (ps c n k), hpo, rfl, rfl, s2, fc1, ft1⟩)
    · have hg := odP_gt eR
      have T1 : Tc c n (u2 σ1 245 2 (Int32.ofNat (k + 1))) := T0.cg (by rw [u2_ne (by decide)]; exact fc1 241 (by decide) (by decide) (by decide)) (by rw [u2_ne (by decide)]; exact fc1 242 (by decide) (by decide) (by decide))
      have U1 : Tt c n τ1 := U0.cg (ft1.2 10 (by decide) (by decide)) (ft1.1 255 (by decide) (by decide))
      have b3 : u2 σ1 245 2 (Int32.ofNat (k + 1)) 245 3 = Int32.ofNat (odP c n (ps c n k)) := by rw [u2_same (by decide)]; exact r2
      have st1 : ∀ (s : St), (∀ j, j ≠ 245 → s j = σ1 j) → ∀ j, j < k + 1 → Std c n s j := fun s hs j hj => by
        by_cases e : j = k
        · rw [e]
          refine ⟨eR, by rw [hs 246 (by decide)]; exact (r4 eR).1, fun q hq => by rw [hs 247 (by decide)]; exact (r4 eR).2 q hq⟩
        · obtain ⟨z1, z2, z3⟩ := st j (by omega)
          have hz := fm_len (fz (c (ps c n j))) (fz_lt _)
          exact ⟨z1, by rw [hs 246 (by decide), r5 j (by omega)]; exact z2, fun q hq => by rw [hs 247 (by decide), r6 (3 * j + q) (by omega)]; exact z3 q hq⟩
      rw [eR, if_neg (show ¬ (Int32.ofNat 1 = (0 : Int32)) from by decide), if_neg (show ¬ (Int32.ofNat 1 = (0 : Int32)) from by decide), bput_eq, r3, oN_al, b3, T1.l, U1.l, s2]
      by_cases c1 : odP c n (ps c n k) < n
      · rw [if_pos (of_eq_true (oN_ltT (by omega) c1)), if_neg (oN_nle (by omega) (by omega) c1)]
        by_cases c2 : c (odP c n (ps c n k)) = 59
        · have n1 := rs_ok (s := 59) T1 b3 ⟨c1, c2⟩
          have n2 := next_ok (s := 59) U1 s2 ⟨c1, c2⟩
          have n1 : M_X5_readSign (u2 σ1 245 2 (Int32.ofNat (k + 1))) 245 241 (59 : Int32) = _ := n1
          have n2 : M_X11_isNext τ1 248 (59 : Int32) = _ := n2
          have ep : ps c n (k + 1) = odP c n (ps c n k) + 1 := rfl
          have U2 : Tt c n (u2 τ1 248 11 (Int32.ofNat (odP c n (ps c n k) + 1))) := U1.cg (u2_same (by decide)) (u2_ne (by decide))
          obtain ⟨τ2, t1, _⟩ := order_r U2 (show odP c n (ps c n k) + 1 ≤ n by omega) u2_self
          rw [bcall_of n1, if_neg ni1, bcall_of n2, if_neg ni1, bcall_of t1, blet_eq]
          refine Or.inr ⟨u2 (u2 σ1 245 2 (Int32.ofNat (k + 1))) 245 3 (Int32.ofNat (odP c n (ps c n k) + 1)), u2 τ1 248 11 (Int32.ofNat (odP c n (ps c n k) + 1)), rfl, ?_, by rw [ep]; omega, by rw [u2_self, ep], by rw [u2_same (by decide), u2_self], by rw [u2_self, ep], st1 _ (fun j hj => by rw [u2_ne hj, u2_ne hj]), fun j hj => ?_, by rw [ep]; omega, fun j q1 q2 q3 => by rw [u2_ne q1, u2_ne q1]; exact fc1 j q1 q2 q3, fun j q1 q2 => by rw [u2_ne q1]; exact ft1.1 j q1 q2, fun q q1 q2 => by rw [u2_same q1]; exact ft1.2 q q1 q2⟩
          · rw [bcall_of t1]
            rcases odR_01 (c := c) (n := n) (p := odP c n (ps c n k) + 1) with z | z
            · rw [z, if_pos (show Int32.ofNat 0 = (0 : Int32) from rfl)]; rfl
            · rw [z, if_neg (show ¬ (Int32.ofNat 1 = (0 : Int32)) from by decide)]; rfl
          · by_cases e : j = k
            · rw [e]; exact ⟨c1, c2⟩
            · exact ch j (by omega)
        · have n1 := rs_no (s := 59) T1 b3 hpo (by decide) (fun q => c2 q.2)
          have n2 := next_no (s := 59) U1 s2 hpo (by decide) (fun q => c2 q.2)
          have n1 : M_X5_readSign (u2 σ1 245 2 (Int32.ofNat (k + 1))) 245 241 (59 : Int32) = _ := n1
          have n2 : M_X11_isNext τ1 248 (59 : Int32) = _ := n2
          rw [bcall_of n1, if_pos rfl, bcall_of n2, if_pos rfl, b3]
          cases m2 with
          | zero => omega
          | succ m2 =>
            simp only [B_X11_script_14]
            rw [if_pos trivial]
            exact Or.inl (Or.inl ⟨_, τ1, odP c n (ps c n k), hpo, rfl, rfl, s2, fun j q1 q2 q3 => by rw [u2_ne q1]; exact fc1 j q1 q2 q3, ft1⟩)
      · have ee : odP c n (ps c n k) = n := by omega
        rw [if_neg (fun q => (oN_ltF (by omega) (by omega)).mp q), if_pos (of_eq_true (oN_leT (by omega) (by omega)))]
        exact Or.inl (Or.inr ⟨_, τ1, k, rfl, rfl, by omega, by rw [u2_self], st1 _ (fun j hj => by rw [u2_ne hj]), ch, ee, fun j q1 q2 q3 => by rw [u2_ne q1]; exact fc1 j q1 q2 q3, ft1⟩)
