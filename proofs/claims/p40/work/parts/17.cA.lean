/-! what is known of the object between calls: its row, what was before, what is saved, how much is read, the fault -/
def tz (r : Nat → Int32) : St := fun k => if k = 249 then r else fun _ => 0
theorem tz_now {r : Nat → Int32} : tz r 249 = r := if_pos rfl
theorem tz_c {r : Nat → Int32} {k : Nat} (h : k ≠ 249) : tz r k = fun _ => 0 := if_neg h
def psh (r : Nat → Int32) (L : Nat → Nat → Int32) : Nat → Nat → Int32 := fun j => if j = 0 then r else L (j - 1)
def Svd (σ : St) : Option (Nat → Int32) → Prop
  | none => σ 0 8 = 0
  | some q => σ 0 8 = 1 ∧ Sc σ 41 q
def Rg (σ : St) (u nx : Nat) (L : Nat → Nat → Int32) : Prop := ∀ j, j < u → Sc σ (pl ((nx + 8 - j) % 9)) (L j)
def Cs (σ : St) (r : Nat → Int32) (u nx : Nat) (L : Nat → Nat → Int32) (sv : Option (Nat → Int32)) (n : Nat) (ft : Int32) : Prop :=
  (∃ τ, Co σ τ) ∧ Sc σ 5 r ∧ Hh σ u nx ∧ Rg σ u nx L ∧ Svd σ sv ∧ σ 241 1 = Int32.ofNat n ∧ σ 0 9 = ft
theorem Svd.cg {σ σ1 : St} {sv : Option (Nat → Int32)} (h : Svd σ sv) (a : σ1 0 8 = σ 0 8) (b : ∀ k, 41 ≤ k → k < 59 → σ1 k = σ k) : Svd σ1 sv := by
  cases sv with
  | none => exact a.trans h
  | some q => exact ⟨a.trans h.1, h.2.cg (fun k h1 h2 => b k h1 (by omega)) (fun _ _ => rfl)⟩
theorem Rg.cg {σ σ1 : St} {u nx : Nat} {L : Nat → Nat → Int32} (h : Rg σ u nx L) (b : ∀ k, 79 ≤ k → k < 241 → σ1 k = σ k) : Rg σ1 u nx L := fun j hj => by
  have hp : pl ((nx + 8 - j) % 9) = 79 + 18 * ((nx + 8 - j) % 9) := rfl
  exact (h j hj).cg (fun k h1 h2 => b k (by omega) (by omega)) (fun _ _ => rfl)
/-- the places of the ring that are in use keep, whatever is written into the place that is next -/
theorem Rg.cgn {σ σ1 : St} {u nx : Nat} {L : Nat → Nat → Int32} (h : Rg σ u nx L) (hu : u ≤ 8) (hx : nx < 9) (b : ∀ k, 79 ≤ k → k < 241 → (k < pl nx ∨ pl nx + 18 ≤ k) → σ1 k = σ k) : Rg σ1 u nx L := fun j hj => by
  have hp : pl ((nx + 8 - j) % 9) = 79 + 18 * ((nx + 8 - j) % 9) := rfl
  have hn : pl nx = 79 + 18 * nx := rfl
  have hne : (nx + 8 - j) % 9 ≠ nx := by omega
  exact (h j hj).cg (fun k h1 h2 => b k (by omega) (by omega) (by omega)) (fun _ _ => rfl)
theorem Rg.push {σ σ1 : St} {u nx : Nat} {L : Nat → Nat → Int32} {r : Nat → Int32} (h : Rg σ u nx L) (hu : u ≤ 8) (hx : nx < 9) (hr : Sc σ1 (pl nx) r) (b : ∀ k, 79 ≤ k → k < 241 → (k < pl nx ∨ pl nx + 18 ≤ k) → σ1 k = σ k) : Rg σ1 (min (u + 1) 8) ((nx + 1) % 9) (psh r L) := fun j hj => by
  unfold psh
  by_cases c : j = 0
  · rw [if_pos c, c, show ((nx + 1) % 9 + 8 - 0) % 9 = nx by omega]; exact hr
  · rw [if_neg c, show ((nx + 1) % 9 + 8 - j) % 9 = (nx + 8 - (j - 1)) % 9 by omega]
    exact (h.cgn hu hx b) (j - 1) (by omega)
theorem Cs.co {σ : St} {r : Nat → Int32} {u nx n : Nat} {L : Nat → Nat → Int32} {sv : Option (Nat → Int32)} {ft : Int32} (h : Cs σ r u nx L sv n ft) : ∃ τ, Co σ τ := h.1
theorem Cs.sc {σ : St} {r : Nat → Int32} {u nx n : Nat} {L : Nat → Nat → Int32} {sv : Option (Nat → Int32)} {ft : Int32} (h : Cs σ r u nx L sv n ft) : Sc σ 5 r := h.2.1
theorem Cs.hh {σ : St} {r : Nat → Int32} {u nx n : Nat} {L : Nat → Nat → Int32} {sv : Option (Nat → Int32)} {ft : Int32} (h : Cs σ r u nx L sv n ft) : Hh σ u nx := h.2.2.1
theorem Cs.rg {σ : St} {r : Nat → Int32} {u nx n : Nat} {L : Nat → Nat → Int32} {sv : Option (Nat → Int32)} {ft : Int32} (h : Cs σ r u nx L sv n ft) : Rg σ u nx L := h.2.2.2.1
theorem Cs.sv {σ : St} {r : Nat → Int32} {u nx n : Nat} {L : Nat → Nat → Int32} {sv : Option (Nat → Int32)} {ft : Int32} (h : Cs σ r u nx L sv n ft) : Svd σ sv := h.2.2.2.2.1
theorem Cs.inp {σ : St} {r : Nat → Int32} {u nx n : Nat} {L : Nat → Nat → Int32} {sv : Option (Nat → Int32)} {ft : Int32} (h : Cs σ r u nx L sv n ft) : σ 241 1 = Int32.ofNat n := h.2.2.2.2.2.1
theorem Cs.flt {σ : St} {r : Nat → Int32} {u nx n : Nat} {L : Nat → Nat → Int32} {sv : Option (Nat → Int32)} {ft : Int32} (h : Cs σ r u nx L sv n ft) : σ 0 9 = ft := h.2.2.2.2.2.2
theorem Cs.row {σ : St} {r r1 : Nat → Int32} {u nx n : Nat} {L : Nat → Nat → Int32} {sv : Option (Nat → Int32)} {ft : Int32} (h : Cs σ r u nx L sv n ft) (e : ∀ q, q < 111 → r1 q = r q) : Cs σ r1 u nx L sv n ft := ⟨h.1, h.sc.cg (fun _ _ _ => rfl) e, h.2.2⟩
theorem Pair.co {α β : Type} {σ τ : St} {x : Option (St × α)} {y : Option (St × β)} {Q : α → β → Prop} (h : Pair σ τ x y Q) : ∃ σ1 v τ1, x = some (σ1, v) ∧ Co σ1 τ1 := by
  obtain ⟨σ1, τ1, v, w, e1, -, -, hC, -⟩ := h
  exact ⟨σ1, v, τ1, e1, hC⟩
/-- a query: its answer is of the row alone, and nothing of it is to be seen -/
theorem Cs.qry {α : Type} {σ : St} {r : Nat → Int32} {u nx n : Nat} {L : Nat → Nat → Int32} {sv : Option (Nat → Int32)} {ft : Int32} {x : Option (St × α)} {y : Option (St × α)} (h : Cs σ r u nx L sv n ft) (hz : PZ σ (tz r) x y (fun v w => v = w)) (hq : ∀ τ, Co σ τ → ∃ σ1 v τ1, x = some (σ1, v) ∧ Co σ1 τ1) :
    ∃ σ1 τz v, x = some (σ1, v) ∧ y = some (τz, v) ∧ Cs σ1 r u nx L sv n ft ∧ Fz σ σ1 := by
  obtain ⟨σ1, τz, v, w, e1, e2, rfl, f⟩ := hz
  obtain ⟨τ, hC⟩ := h.co
  obtain ⟨σ2, v2, τ2, e3, hC2⟩ := hq τ hC
  rw [e1] at e3
  obtain ⟨rfl, rfl⟩ := Prod.mk.injEq _ _ _ _ ▸ Option.some.inj e3
  exact ⟨σ1, τz, v, e1, e2, ⟨⟨τ2, hC2⟩, f.sc h.sc, ⟨h.hh.1, h.hh.2.1, by rw [f 59 (by omega)]; exact h.hh.2.2.1, by rw [f 59 (by omega)]; exact h.hh.2.2.2⟩, h.rg.cg (fun k h1 h2 => f k (by omega)), h.sv.cg (by rw [f 0 (by omega)]) (fun k h1 h2 => f k (by omega)), by rw [f 241 (by omega)]; exact h.inp, by rw [f 0 (by omega)]; exact h.flt⟩, f⟩
/-- a change: its answer and the row behind it are of the row alone -/
theorem Cs.chg {σ : St} {r : Nat → Int32} {u nx n : Nat} {L : Nat → Nat → Int32} {sv : Option (Nat → Int32)} {ft : Int32} {x y : Option (St × Int32)} (h : Cs σ r u nx L sv n ft) (hz : PC u nx σ (tz r) x y) (hq : ∀ τ, Co σ τ → ∃ σ1 v τ1, x = some (σ1, v) ∧ Co σ1 τ1) :
    ∃ σ1 τz v, x = some (σ1, v) ∧ y = some (τz, v) ∧ ((v < 0 ∧ Cs σ1 r u nx L sv n ft ∧ ((v = -3 ∧ Pre 2 σ1 τz) ∨ (v ≠ -3 ∧ ∀ k, 2 ≤ k → k < 5 → σ1 k = σ k))) ∨ (0 ≤ v ∧ Cs σ1 (τz 249) (min (u + 1) 8) ((nx + 1) % 9) (psh r L) sv n ft)) := by
  obtain ⟨σ1, τz, v, e1, e2, fr, hh⟩ := hz
  obtain ⟨τ, hC⟩ := h.co
  obtain ⟨σ2, v2, τ2, e3, hC2⟩ := hq τ hC
  rw [e1] at e3
  obtain ⟨rfl, rfl⟩ := Prod.mk.injEq _ _ _ _ ▸ Option.some.inj e3
  have hn : pl nx = 79 + 18 * nx := rfl
  obtain ⟨hu, hx, -, -⟩ := id h.hh
  refine ⟨σ1, τz, v, e1, e2, ?_⟩
  rcases hh with ⟨h0, h59, h5, hr⟩ | ⟨h0, hs, hH, hp, hr⟩
  · exact Or.inl ⟨h0, ⟨⟨τ2, hC2⟩, h.sc.cg (fun k h1 h2 => h5 k h1 (by omega)) (fun _ _ => rfl), ⟨hu, hx, by rw [h59]; exact h.hh.2.2.1, by rw [h59]; exact h.hh.2.2.2⟩, h.rg.cgn hu hx (fun k h1 h2 h3 => fr k (by omega) (by omega) h3), h.sv.cg (by rw [fr 0 (by omega) (by omega) (by omega)]) (fun k h1 h2 => fr k (by omega) (by omega) (by omega)), by rw [fr 241 (by omega) (by omega) (by omega)]; exact h.inp, by rw [fr 0 (by omega) (by omega) (by omega)]; exact h.flt⟩, hr⟩
  · exact Or.inr ⟨h0, ⟨⟨τ2, hC2⟩, hs, hH, h.rg.push hu hx (hp r h.sc) (fun k h1 h2 h3 => fr k (by omega) (by omega) h3), h.sv.cg (by rw [fr 0 (by omega) (by omega) (by omega)]) (fun k h1 h2 => fr k (by omega) (by omega) (by omega)), by rw [fr 241 (by omega) (by omega) (by omega)]; exact h.inp, by rw [fr 0 (by omega) (by omega) (by omega)]; exact h.flt⟩⟩
theorem Cs.undo0 {σ : St} {r : Nat → Int32} {nx n : Nat} {L : Nat → Nat → Int32} {sv : Option (Nat → Int32)} {ft : Int32} (h : Cs σ r 0 nx L sv n ft) : M_X10_undo σ 0 = some (σ, -4) := by
  unfold M_X10_undo
  simp only [Nat.zero_add]
  rw [h.hh.2.2.1, if_pos (by decide)]
theorem Cs.undo {σ : St} {r : Nat → Int32} {u nx n : Nat} {L : Nat → Nat → Int32} {sv : Option (Nat → Int32)} {ft : Int32} (h : Cs σ r (u + 1) nx L sv n ft) : ∃ σ1, M_X10_undo σ 0 = some (σ1, Int32.ofNat u) ∧ Cs σ1 (L 0) u ((nx + 8) % 9) (fun j => L (j + 1)) sv n ft := by
  obtain ⟨h1, h2, h4, h5⟩ := id h.hh
  obtain ⟨τ, hC⟩ := h.co
  obtain ⟨σ2, v2, τ2, e3, hC2⟩ := (Q_undo hC).co
  have cn : ¬ (Int32.ofNat (u + 1) = (0 : Int32)) := fun q => absurd ((oN_eq (b := 0) (by omega) (by decide)).mp q) (by omega)
  have s1 : M_X2_stepBack σ 59 = some (u2 (u2 σ 59 2 (Int32.ofNat ((nx + 8) % 9))) 59 3 (Int32.ofNat u), pl ((nx + 8) % 9)) := by
    have e := noted_ex (σ := u2 (u2 σ 59 2 (Int32.ofNat ((nx + 8) % 9))) 59 3 (Int32.ofNat u)) (nx := (nx + 8) % 9) (by rw [u2_same (by decide), u2_self]) (by omega)
    have e0 : Int32.ofNat nx + 9 - 1 = Int32.ofNat (nx + 8) := by rw [oN_al]; exact oN_sl (a := nx + 9) (n := 1) (by show 1 ≤ nx + 9; omega)
    unfold M_X2_stepBack
    rw [bput_eq, bput_eq, h5, e0, mod9 _ (by omega), u2_same (by decide), h4, oN_s1, bcall_of e]
  obtain ⟨σ1, t1, t2, t3⟩ := take_sc (u2 (u2 σ 59 2 (Int32.ofNat ((nx + 8) % 9))) 59 3 (Int32.ofNat u)) (k := 5) (a := pl ((nx + 8) % 9)) B5 (Bp _ (by omega)) (by unfold pl; omega)
  have fs : ∀ k, k ≠ 59 → (k < 5 ∨ 23 ≤ k) → σ1 k = σ k := fun k q1 q2 => by rw [t3 k (by omega), u2_ne q1, u2_ne q1]
  have e59 : σ1 59 3 = Int32.ofNat u := by rw [t3 59 (by omega), u2_self]
  have e : M_X10_undo σ 0 = some (σ1, Int32.ofNat u) := by
    unfold M_X10_undo
    simp only [Nat.zero_add]
    rw [h4, if_neg cn, bcall_of s1, bcall_of t1, e59]
  rw [e] at e3
  obtain ⟨rfl, rfl⟩ := Prod.mk.injEq _ _ _ _ ▸ Option.some.inj e3
  have z := h.rg 0 (by omega)
  rw [show nx + 8 - 0 = nx + 8 from rfl] at z
  have hp : pl ((nx + 8) % 9) = 79 + 18 * ((nx + 8) % 9) := rfl
  refine ⟨σ1, e, ⟨τ2, hC2⟩, t2 (L 0) (z.cg (fun k h1 _ => by rw [u2_ne (by omega), u2_ne (by omega)]) (fun _ _ => rfl)), ⟨by omega, by omega, e59, by rw [t3 59 (by omega), u2_same (by decide), u2_self]⟩, fun j hj => ?_, h.sv.cg (by rw [fs 0 (by omega) (by omega)]) (fun k h1 h2 => fs k (by omega) (by omega)), by rw [fs 241 (by omega) (by omega)]; exact h.inp, by rw [fs 0 (by omega) (by omega)]; exact h.flt⟩
  have z := h.rg (j + 1) (by omega)
  rw [show (nx + 8 - (j + 1)) % 9 = ((nx + 8) % 9 + 8 - j) % 9 by omega] at z
  have hp : pl (((nx + 8) % 9 + 8 - j) % 9) = 79 + 18 * (((nx + 8) % 9 + 8 - j) % 9) := rfl
  exact z.cg (fun k h1 _ => fs k (by omega) (by omega)) (fun _ _ => rfl)
theorem Cs.save {σ : St} {r : Nat → Int32} {u nx n : Nat} {L : Nat → Nat → Int32} {sv : Option (Nat → Int32)} {ft : Int32} (h : Cs σ r u nx L sv n ft) : ∃ σ1, M_X10_save σ 0 = some (σ1, r 0) ∧ Cs σ1 r u nx L (some r) n ft := by
  obtain ⟨nb, ns, nc, ni, rs, i⟩ := id h.sc
  obtain ⟨σ1, t1, t2, t3⟩ := take_sc σ (k := 41) (a := 5) B41 B5 (by omega)
  obtain ⟨τ, hC⟩ := h.co
  obtain ⟨σ2, v2, τ2, e3, hC2⟩ := (Q_save hC).co
  have e : M_X10_save σ 0 = some (u2 σ1 0 8 1, r 0) := by
    unfold M_X10_save
    simp only [Nat.zero_add]
    rw [bcall_of t1, bput_eq]
    show some (u2 σ1 0 8 1, u2 σ1 0 8 1 5 4) = _
    rw [u2_ne (by decide), t3 5 (by omega), rs.f4]
  rw [e] at e3
  obtain ⟨rfl, rfl⟩ := Prod.mk.injEq _ _ _ _ ▸ Option.some.inj e3
  exact ⟨_, e, ⟨τ2, hC2⟩, h.sc.cg (fun k h1 h2 => by rw [u2_ne (by omega), t3 k (by omega)]) (fun _ _ => rfl), ⟨h.hh.1, h.hh.2.1, by rw [u2_ne (by decide), t3 59 (by omega)]; exact h.hh.2.2.1, by rw [u2_ne (by decide), t3 59 (by omega)]; exact h.hh.2.2.2⟩, h.rg.cg (fun k h1 h2 => by rw [u2_ne (by omega), t3 k (by omega)]), ⟨by rw [u2_self], (t2 r h.sc).cg (fun k h1 _ => by rw [u2_ne (by omega)]) (fun _ _ => rfl)⟩, by rw [u2_ne (by decide), t3 241 (by omega)]; exact h.inp, by rw [u2_same (by decide), t3 0 (by omega)]; exact h.flt⟩
theorem Cs.restore0 {σ : St} {r : Nat → Int32} {u nx n : Nat} {L : Nat → Nat → Int32} {ft : Int32} (h : Cs σ r u nx L none n ft) : M_X10_restore σ 0 = some (σ, -4) := by
  have z : σ 0 8 = 0 := h.sv
  unfold M_X10_restore
  rw [z, if_pos rfl]
theorem Cs.restore {σ : St} {r q : Nat → Int32} {u nx n : Nat} {L : Nat → Nat → Int32} {ft : Int32} (h : Cs σ r u nx L (some q) n ft) : ∃ σ1, M_X10_restore σ 0 = some (σ1, q 0) ∧ Cs σ1 q 0 nx L (some q) n ft := by
  have ni1 : ¬ ((1 : Int32) = 0) := by decide
  obtain ⟨s1, s3⟩ : σ 0 8 = 1 ∧ Sc σ 41 q := h.sv
  obtain ⟨σ1, t1, t2, t3⟩ := take_sc σ (k := 5) (a := 41) B5 B41 (by omega)
  have z0 := t2 _ s3
  obtain ⟨nb, ns, nc, ni, r5, i⟩ := id z0
  obtain ⟨τ, hC⟩ := h.co
  obtain ⟨σ2, v2, τ2, e3, hC2⟩ := (Q_restore hC).co
  have e : M_X10_restore σ 0 = some (u2 σ1 59 3 0, q 0) := by
    unfold M_X10_restore
    simp only [Nat.zero_add]
    rw [s1, if_neg ni1, bcall_of t1]
    unfold M_X2_forget
    rw [bput_eq, bcall_some]
    show some (u2 σ1 59 3 0, u2 σ1 59 3 0 5 4) = _
    rw [u2_ne (by decide), r5.f4]
  rw [e] at e3
  obtain ⟨rfl, rfl⟩ := Prod.mk.injEq _ _ _ _ ▸ Option.some.inj e3
  exact ⟨_, e, ⟨τ2, hC2⟩, z0.cg (fun k h1 h2 => by rw [u2_ne (by omega)]) (fun _ _ => rfl), ⟨by omega, h.hh.2.1, by rw [u2_self]; rfl, by rw [u2_same (by decide), t3 59 (by omega)]; exact h.hh.2.2.2⟩, fun j hj => by omega, ⟨by rw [u2_ne (by decide), t3 0 (by omega)]; exact s1, s3.cg (fun k h1 h2 => by rw [u2_ne (by omega), t3 k (by omega)]) (fun _ _ => rfl)⟩, by rw [u2_ne (by decide), t3 241 (by omega)]; exact h.inp, by rw [u2_ne (by decide), t3 0 (by omega)]; exact h.flt⟩
def bareR : Nat → Int32 := fun q => if q = 6 then 60 else if q = 7 then 20 else 0
theorem Cs.clear {σ : St} {r : Nat → Int32} {u nx n : Nat} {L : Nat → Nat → Int32} {sv : Option (Nat → Int32)} {ft : Int32} (h : Cs σ r u nx L sv n ft) : ∃ σ1, M_X10_clear σ 0 = some (σ1, r 0) ∧ Cs σ1 bareR 0 nx L sv n ft := by
  obtain ⟨nb, ns, nc, ni, rs, i⟩ := id h.sc
  have b1 := bare_ex (σ := σ) rs.cs i.hs
  have fr : ∀ k, (k < 5 ∨ 23 ≤ k) → bareS σ k = σ k := fun k hk => by unfold bareS; simp (disch := omega) only [u2_ne]
  obtain ⟨τ, hC⟩ := h.co
  obtain ⟨σ2, v2, τ2, e3, hC2⟩ := (Q_clear hC).co
  have e : M_X10_clear σ 0 = some (u2 (bareS σ) 59 3 0, r 0) := by
    unfold M_X10_clear M_X2_forget
    simp only [Nat.zero_add]
    rw [blet_eq, bcall_of b1, bput_eq, bcall_some, rs.f4]
  rw [e] at e3
  obtain ⟨rfl, rfl⟩ := Prod.mk.injEq _ _ _ _ ▸ Option.some.inj e3
  exact ⟨_, e, ⟨τ2, hC2⟩, (bare_sc (τ := tz bareR) (fun q _ => by rw [tz_now]; rfl)).cg (fun k _ h2 => by rw [u2_ne (by omega)]) (fun q _ => by rw [tz_now]), ⟨by omega, h.hh.2.1, by rw [u2_self]; rfl, by rw [u2_same (by decide), fr 59 (by omega)]; exact h.hh.2.2.2⟩, fun j hj => by omega, h.sv.cg (by rw [u2_ne (by decide), fr 0 (by omega)]) (fun k h1 h2 => by rw [u2_ne (by omega), fr k (by omega)]), by rw [u2_ne (by decide), fr 241 (by omega)]; exact h.inp, by rw [u2_ne (by decide), fr 0 (by omega)]; exact h.flt⟩
