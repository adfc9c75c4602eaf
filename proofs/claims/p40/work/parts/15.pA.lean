/-! pure level: rows for evaluating -/
theorem bcall_some {α β : Type} (σ : St) (v : β) (K : St → β → Option α) : bcall (some (σ, v)) K = K σ v := rfl
theorem blet_eq {α : Type} (v : Int32) (K : Int32 → Option α) : blet v K = K v := rfl
theorem bput_eq {α : Type} (σ : St) (k j : Nat) (v : Int32) (K : St → Option α) : bput σ k j v K = K (u2 σ k j v) := rfl
set_option maxRecDepth 20000 in
theorem lnL_le : ∀ k, k < 258 → ln k ≤ 888 := by decide +kernel
set_option maxRecDepth 20000 in
theorem lnL_len : lnL.length ≤ 258 := by decide +kernel
theorem ln_le (k : Nat) : ln k ≤ 888 := by
  by_cases h : k < 258
  · exact lnL_le k h
  · unfold ln
    rw [List.getD_eq_getElem?_getD, List.getElem?_eq_none (show lnL.length ≤ k from Nat.le_trans lnL_len (Nat.le_of_not_lt h))]
    exact Nat.zero_le _
theorem oN_toInt {n : Nat} (h : n < 2147483648) : (Int32.ofNat n).toInt = n := Int32.toInt_ofNat_of_lt h
theorem oN_clamp {n : Nat} (h : n < 2147483648) : (Int32.ofNat n).toNatClampNeg = n := by
  show (Int32.ofNat n).toInt.toNat = n
  rw [oN_toInt h]; rfl
theorem oN_le {a b : Nat} (ha : a < 2147483648) (hb : b < 2147483648) : Int32.ofNat a ≤ Int32.ofNat b ↔ a ≤ b := by
  rw [Int32.le_iff_toInt_le, oN_toInt ha, oN_toInt hb]; omega
theorem oN_lt {a b : Nat} (ha : a < 2147483648) (hb : b < 2147483648) : Int32.ofNat a < Int32.ofNat b ↔ a < b := by
  rw [Int32.lt_iff_toInt_lt, oN_toInt ha, oN_toInt hb]; omega
theorem oN_eq {a b : Nat} (ha : a < 2147483648) (hb : b < 2147483648) : Int32.ofNat a = Int32.ofNat b ↔ a = b := by
  constructor
  · intro h
    have := congrArg Int32.toInt h
    rw [oN_toInt ha, oN_toInt hb] at this; omega
  · rintro rfl; rfl
theorem oN_add (a b : Nat) : Int32.ofNat a + Int32.ofNat b = Int32.ofNat (a + b) := (Int32.ofNat_add a b).symm
theorem oN_mul (a b : Nat) : Int32.ofNat a * Int32.ofNat b = Int32.ofNat (a * b) := (Int32.ofNat_mul a b).symm
theorem oN_al (a n : Nat) : Int32.ofNat a + (no_index (@OfNat.ofNat Int32 n _)) = Int32.ofNat (a + @OfNat.ofNat Nat n _) := oN_add a n
theorem oN_la (a n : Nat) : (no_index (@OfNat.ofNat Int32 n _)) + Int32.ofNat a = Int32.ofNat (@OfNat.ofNat Nat n _ + a) := oN_add n a
theorem oN_lm (a n : Nat) : (no_index (@OfNat.ofNat Int32 n _)) * Int32.ofNat a = Int32.ofNat (@OfNat.ofNat Nat n _ * a) := oN_mul n a
theorem oN_sub {a b : Nat} (h : b ≤ a) : Int32.ofNat a - Int32.ofNat b = Int32.ofNat (a - b) := by
  have := oN_add (a - b) b
  rw [Nat.sub_add_cancel h] at this
  rw [← this, Int32.add_sub_cancel]
theorem oN_sl {a n : Nat} (h : @OfNat.ofNat Nat n _ ≤ a) : Int32.ofNat a - (no_index (@OfNat.ofNat Int32 n _)) = Int32.ofNat (a - @OfNat.ofNat Nat n _) := oN_sub h
theorem oN_nle {a b : Nat} (ha : a < 2147483648) (hb : b < 2147483648) (h : b < a) : ¬ (Int32.ofNat a ≤ Int32.ofNat b) := fun q => by rw [oN_le ha hb] at q; omega
theorem oN_leT {a b : Nat} (hb : b < 2147483648) (h : a ≤ b) : (Int32.ofNat a ≤ Int32.ofNat b) = True := eq_true (by rw [oN_le (by omega) hb]; exact h)
theorem oN_leF {a b : Nat} (ha : a < 2147483648) (h : b < a) : (Int32.ofNat a ≤ Int32.ofNat b) = False := eq_false (by rw [oN_le ha (by omega)]; omega)
theorem oN_ltT {a b : Nat} (hb : b < 2147483648) (h : a < b) : (Int32.ofNat a < Int32.ofNat b) = True := eq_true (by rw [oN_lt (by omega) hb]; exact h)
theorem oN_ltF {a b : Nat} (ha : a < 2147483648) (h : b ≤ a) : (Int32.ofNat a < Int32.ofNat b) = False := eq_false (by rw [oN_lt ha (by omega)]; omega)
theorem oN_eqF {a b : Nat} (ha : a < 2147483648) (hb : b < 2147483648) (h : a ≠ b) : (Int32.ofNat a = Int32.ofNat b) = False := eq_false (by rw [oN_eq ha hb]; exact h)
theorem oN_leTl {a n : Nat} (hb : @OfNat.ofNat Nat n _ < 2147483648) (h : a ≤ @OfNat.ofNat Nat n _) : (Int32.ofNat a ≤ (no_index (@OfNat.ofNat Int32 n _))) = True := oN_leT hb h
theorem oN_leFl {a n : Nat} (ha : a < 2147483648) (h : @OfNat.ofNat Nat n _ < a) : (Int32.ofNat a ≤ (no_index (@OfNat.ofNat Int32 n _))) = False := oN_leF ha h
theorem oN_ltTl {a n : Nat} (hb : @OfNat.ofNat Nat n _ < 2147483648) (h : a < @OfNat.ofNat Nat n _) : (Int32.ofNat a < (no_index (@OfNat.ofNat Int32 n _))) = True := oN_ltT hb h
theorem oN_ltFl {a n : Nat} (ha : a < 2147483648) (h : @OfNat.ofNat Nat n _ ≤ a) : (Int32.ofNat a < (no_index (@OfNat.ofNat Int32 n _))) = False := oN_ltF ha h
theorem oN_lleT {a n : Nat} (hb : a < 2147483648) (h : @OfNat.ofNat Nat n _ ≤ a) : ((no_index (@OfNat.ofNat Int32 n _)) ≤ Int32.ofNat a) = True := oN_leT hb h
theorem oN_lleF {a n : Nat} (ha : @OfNat.ofNat Nat n _ < 2147483648) (h : a < @OfNat.ofNat Nat n _) : ((no_index (@OfNat.ofNat Int32 n _)) ≤ Int32.ofNat a) = False := oN_leF ha h
theorem oN_lltT {a n : Nat} (hb : a < 2147483648) (h : @OfNat.ofNat Nat n _ < a) : ((no_index (@OfNat.ofNat Int32 n _)) < Int32.ofNat a) = True := oN_ltT hb h
theorem oN_lltF {a n : Nat} (ha : @OfNat.ofNat Nat n _ < 2147483648) (h : a ≤ @OfNat.ofNat Nat n _) : ((no_index (@OfNat.ofNat Int32 n _)) < Int32.ofNat a) = False := oN_ltF ha h
theorem oN_eqFl {a n : Nat} (ha : a < 2147483648) (hb : @OfNat.ofNat Nat n _ < 2147483648) (h : a ≠ @OfNat.ofNat Nat n _) : (Int32.ofNat a = (no_index (@OfNat.ofNat Int32 n _))) = False := oN_eqF ha hb h
theorem oN_m4 {a : Nat} (ha : a < 2147483648) : (Int32.ofNat a = (-4 : Int32)) = False := eq_false (fun q => by have := congrArg Int32.toInt q; rw [oN_toInt ha] at this; have e : (-4 : Int32).toInt = -4 := rfl; omega)
theorem oN_nn {a : Nat} (ha : a < 2147483648) : (Int32.ofNat a < (0 : Int32)) = False := oN_ltF (b := 0) ha (Nat.zero_le _)
theorem oN_nn2 {a : Nat} (ha : a < 2147483648) : ((0 : Int32) ≤ Int32.ofNat a) = True := oN_leT (a := 0) ha (Nat.zero_le _)
theorem not_lt_le {a b : Int32} : (a < b) = ¬ (b ≤ a) := propext Int32.not_le.symm
theorem bald_nat {α : Type} {σ : St} {k i : Nat} {K : Int32 → Option α} (h : i < ln k) : bald σ k (Int32.ofNat i) K = K (σ k i) := by
  have h1 := ln_le k
  unfold bald
  rw [oN_toInt (by omega), oN_clamp (by omega), if_pos (by omega)]
theorem bast_nat {α : Type} {σ : St} {k i : Nat} {x : Int32} {K : St → Option α} (h : i < ln k) : bast σ k (Int32.ofNat i) x K = K (u2 σ k i x) := by
  have h1 := ln_le k
  unfold bast
  rw [oN_toInt (by omega), oN_clamp (by omega), if_pos (by omega)]
theorem bald_lit {α : Type} {σ : St} {k n : Nat} {K : Int32 → Option α} (h : @OfNat.ofNat Nat n _ < ln k) : bald σ k (no_index (@OfNat.ofNat Int32 n _)) K = K (σ k (@OfNat.ofNat Nat n _)) := bald_nat h
theorem bast_lit {α : Type} {σ : St} {k n : Nat} {x : Int32} {K : St → Option α} (h : @OfNat.ofNat Nat n _ < ln k) : bast σ k (no_index (@OfNat.ofNat Int32 n _)) x K = K (u2 σ k (@OfNat.ofNat Nat n _) x) := bast_nat h
theorem at_nat {σ : St} {k i : Nat} (h : i < ln k) : M_X10_at σ k (Int32.ofNat i) = some (σ, σ k i) := by
  have h1 := ln_le k
  unfold M_X10_at
  rw [if_neg, if_neg, bald_nat h]
  · rw [oN_le (by omega) (by omega)]; omega
  · rw [show (0 : Int32) = Int32.ofNat 0 from rfl, oN_lt (by omega) (by omega)]; omega
theorem put_nat {σ : St} {k i : Nat} {v : Int32} (h : i < ln k) : M_X10_put σ k (Int32.ofNat i) v = some (u2 σ k i v, 0) := by
  have h1 := ln_le k
  unfold M_X10_put
  rw [if_neg, if_neg, bast_nat h]
  · rw [oN_le (by omega) (by omega)]; omega
  · rw [show (0 : Int32) = Int32.ofNat 0 from rfl, oN_lt (by omega) (by omega)]; omega
def mm (x : Int32) : Int32 := if x = 0 then -4 else x - 1
theorem mm_0 : mm (Int32.ofNat 0) = -4 := by decide
theorem oN_s1 (q : Nat) : Int32.ofNat (q + 1) - 1 = Int32.ofNat q := oN_sub (a := q + 1) (b := 1) (by omega)
theorem oN_z1 : Int32.ofNat 0 - 1 = -1 := by decide
theorem mm_s {q : Nat} (h : q < 1000) : mm (Int32.ofNat (q + 1)) = Int32.ofNat q := by
  unfold mm
  rw [if_neg, oN_s1]
  intro e
  have e2 : Int32.ofNat (q + 1) = Int32.ofNat 0 := e
  rw [oN_eq (by omega) (by omega)] at e2
  omega
theorem m1_neg : ((-1 : Int32) < 0) = True := by decide
theorem m1_nn : ((0 : Int32) ≤ (-1 : Int32)) = False := by decide
theorem m4_neg : ((-4 : Int32) < 0) = True := by decide
theorem i10 : ((1 : Int32) = 0) = False := by decide
theorem i00 : ((0 : Int32) = 0) = True := by decide
theorem i44 : ((-4 : Int32) = -4) = True := by decide
theorem oN_pred {n : Nat} (hn : n < 1000) (x : Int32) : Int32.ofNat n - 1 < x ↔ Int32.ofNat n ≤ x := by
  have e : (Int32.ofNat n - 1).toInt = n - 1 := by
    rw [Int32.toInt_sub, oN_toInt (by omega)]
    have : (1 : Int32).toInt = 1 := rfl
    rw [this, Int.bmod_eq_of_le (by omega) (by omega)]
  rw [Int32.lt_iff_toInt_lt, Int32.le_iff_toInt_le, e, oN_toInt (by omega)]; omega
theorem x_in {τ : St} {n : Nat} (hn : n < 1000) (x : Int32) : M_X11_in τ x 0 (Int32.ofNat n - 1) = if x < 0 then some (τ, 0) else if Int32.ofNat n ≤ x then some (τ, 0) else some (τ, 1) := by
  unfold M_X11_in
  by_cases c : x < 0
  · rw [if_pos c, if_pos c]
  · rw [if_neg c, if_neg c]
    by_cases c2 : Int32.ofNat n ≤ x
    · rw [if_pos c2, if_pos ((oN_pred hn x).mpr c2)]
    · rw [if_neg c2, if_neg (fun q => c2 ((oN_pred hn x).mp q))]
theorem or_bit : ∀ i, i < 5 → ∀ m, m < 2 ^ i → (Int32.ofNat m ||| ((1 : Int32) <<< (Int32.ofNat i &&& 31))) = Int32.ofNat (m + 2 ^ i) := by decide +kernel
theorem or_0 (x : Int32) : x ||| 0 = x := Int32.or_zero
theorem u2_ne {σ : St} {k j k2 : Nat} {v : Int32} (h : k2 ≠ k) : u2 σ k j v k2 = σ k2 := by
  show va_up σ k _ k2 = _
  unfold va_up; rw [if_neg h]
theorem u2_same {σ : St} {k j j2 : Nat} {v : Int32} (h : j2 ≠ j) : u2 σ k j v k j2 = σ k j2 := by
  show va_up σ k _ k j2 = _
  unfold va_up upd; rw [if_pos rfl, if_neg h]
theorem u2_self {σ : St} {k j : Nat} {v : Int32} : u2 σ k j v k j = v := by
  show va_up σ k _ k j = _
  unfold va_up upd; rw [if_pos rfl, if_pos rfl]
theorem u2_if {σ : St} {k j j2 : Nat} {v : Int32} : u2 σ k j v k j2 = if j2 = j then v else σ k j2 := by
  show va_up σ k _ k j2 = _
  unfold va_up upd; rw [if_pos rfl]
theorem u2_up {τ : St} {k j : Nat} {r : Nat → Int32} {v : Int32} : u2 (va_up τ k r) k j v = va_up τ k (upd r j v) := by
  funext q
  unfold u2 va_up
  by_cases h : q = k
  · rw [if_pos h, if_pos h, if_pos rfl]
  · rw [if_neg h, if_neg h, if_neg h]
theorem up_at {τ : St} {k : Nat} {r : Nat → Int32} : va_up τ k r k = r := by unfold va_up; rw [if_pos rfl]
theorem up_ne {τ : St} {k j : Nat} {r : Nat → Int32} (h : j ≠ k) : va_up τ k r j = τ j := by unfold va_up; rw [if_neg h]
theorem up_eta (τ : St) (k : Nat) : va_up τ k (τ k) = τ := by
  funext q; unfold va_up
  by_cases h : q = k
  · rw [if_pos h, h]
  · rw [if_neg h]
theorem upd_ne {r : Nat → Int32} {j i : Nat} {v : Int32} (h : i ≠ j) : upd r j v i = r i := by unfold upd; rw [if_neg h]
theorem upd_self {r : Nat → Int32} {j : Nat} {v : Int32} : upd r j v j = v := by unfold upd; rw [if_pos rfl]
theorem imin_comm (x y : Int32) : imin x y = imin y x := by
  unfold imin
  by_cases h : y < x
  · rw [if_pos h, if_neg (Int32.not_lt.mpr (Int32.le_of_lt h))]
  · by_cases h2 : x < y
    · rw [if_neg h, if_pos h2]
    · rw [if_neg h, if_neg h2]; exact Int32.le_antisymm (Int32.not_lt.mp h) (Int32.not_lt.mp h2)
theorem imax_comm (x y : Int32) : imax x y = imax y x := by
  unfold imax
  by_cases h : x < y
  · rw [if_pos h, if_neg (Int32.not_lt.mpr (Int32.le_of_lt h))]
  · by_cases h2 : y < x
    · rw [if_neg h, if_pos h2]
    · rw [if_neg h, if_neg h2]; exact Int32.le_antisymm (Int32.not_lt.mp h2) (Int32.not_lt.mp h)
theorem oN_of_range {x : Int32} {n : Nat} (hn : n < 2147483648) (h0 : ¬ x < 0) (h1 : ¬ Int32.ofNat n ≤ x) : ∃ s, s < n ∧ x = Int32.ofNat s := by
  rw [Int32.lt_iff_toInt_lt] at h0
  rw [Int32.le_iff_toInt_le, oN_toInt hn] at h1
  have e0 : (0 : Int32).toInt = 0 := rfl
  refine ⟨x.toInt.toNat, by omega, ?_⟩
  apply Int32.toInt_inj.mp
  rw [oN_toInt (by omega)]; omega
/-- two loops in step -/
theorem two2 {A B : Type} {α β : Type} {F : Nat → A → Int32 → α} {G : Nat → B → Int32 → β} {I : Nat → A → B → Prop} {P : α → β → Prop} {N : Nat}
    (hend : ∀ n m a b, I N a b → P (F (n + 1) a (Int32.ofNat N)) (G (m + 1) b (Int32.ofNat N)))
    (hstep : ∀ n m i a b, i < N → N ≤ n + i → N ≤ m + i → I i a b → P (F (n + 1) a (Int32.ofNat i)) (G (m + 1) b (Int32.ofNat i)) ∨ ∃ a1 b1, F (n + 1) a (Int32.ofNat i) = F n a1 (Int32.ofNat (i + 1)) ∧ G (m + 1) b (Int32.ofNat i) = G m b1 (Int32.ofNat (i + 1)) ∧ I (i + 1) a1 b1) :
    ∀ d i n m a b, i + d = N → d < n → d < m → I i a b → P (F n a (Int32.ofNat i)) (G m b (Int32.ofNat i)) := by
  intro d
  induction d with
  | zero =>
    intro i n m a b h1 h2 h3 h4
    obtain ⟨n, rfl⟩ : ∃ q, n = q + 1 := ⟨n - 1, by omega⟩
    obtain ⟨m, rfl⟩ : ∃ q, m = q + 1 := ⟨m - 1, by omega⟩
    have : i = N := by omega
    subst this
    exact hend n m a b h4
  | succ d ih =>
    intro i n m a b h1 h2 h3 h4
    obtain ⟨n, rfl⟩ : ∃ q, n = q + 1 := ⟨n - 1, by omega⟩
    obtain ⟨m, rfl⟩ : ∃ q, m = q + 1 := ⟨m - 1, by omega⟩
    rcases hstep n m i a b (by omega) (by omega) (by omega) h4 with h | ⟨a1, b1, e1, e2, h5⟩
    · exact h
    · rw [e1, e2]
      exact ih (i + 1) n m a1 b1 (by omega) (by omega) (by omega) h5
theorem two {A B : Type} {α β : Type} {F : Nat → A → Int32 → α} {G : Nat → B → Int32 → β} {I : Nat → A → B → Prop} {P : α → β → Prop} {N : Nat}
    (hend : ∀ n m a b, I N a b → P (F (n + 1) a (Int32.ofNat N)) (G (m + 1) b (Int32.ofNat N)))
    (hstep : ∀ n m i a b, i < N → I i a b → P (F (n + 1) a (Int32.ofNat i)) (G (m + 1) b (Int32.ofNat i)) ∨ ∃ a1 b1, F (n + 1) a (Int32.ofNat i) = F n a1 (Int32.ofNat (i + 1)) ∧ G (m + 1) b (Int32.ofNat i) = G m b1 (Int32.ofNat (i + 1)) ∧ I (i + 1) a1 b1) :
    ∀ d i n m a b, i + d = N → d < n → d < m → I i a b → P (F n a (Int32.ofNat i)) (G m b (Int32.ofNat i)) :=
  two2 hend (fun n m i a b h1 _ _ h2 => hstep n m i a b h1 h2)
/-- one loop -/
theorem one {A : Type} {α : Type} {F : Nat → A → Int32 → α} {I : Nat → A → Prop} {P : α → Prop} {N : Nat}
    (hend : ∀ n a, I N a → P (F (n + 1) a (Int32.ofNat N)))
    (hstep : ∀ n i a, i < N → I i a → P (F (n + 1) a (Int32.ofNat i)) ∨ ∃ a1, F (n + 1) a (Int32.ofNat i) = F n a1 (Int32.ofNat (i + 1)) ∧ I (i + 1) a1) :
    ∀ d i n a, i + d = N → d < n → I i a → P (F n a (Int32.ofNat i)) := by
  intro d i n a h1 h2 h3
  exact two (F := F) (G := fun _ (_ : Unit) _ => ()) (I := fun i a _ => I i a) (P := fun x _ => P x) (N := N) (fun n _ a _ h => hend n a h) (fun n m i a b h1 h2 => (hstep n i a h1 h2).imp id (fun ⟨a1, e, h⟩ => ⟨a1, (), e, rfl, h⟩)) d i n n a () h1 h2 h2 h3
