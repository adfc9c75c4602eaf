/-! what holds between calls, of a class's state σ (cells below 248) and a reference's state τ (cells from 248) -/
def pl (i : Nat) : Nat := 79 + 18 * i
/-- the row of the reference that is kept at place i -/
def kr (τ : St) (i : Nat) : Nat → Int32 := fun q => τ 252 (111 * i + q)
def Psv (σ τ : St) : Prop := (σ 0 8 = 0 ∧ τ 248 6 = 0) ∨ (σ 0 8 = 1 ∧ τ 248 6 = 1 ∧ Sc σ 41 (τ 253))
def Phi (σ τ : St) : Prop := ∃ u nx, u ≤ 8 ∧ nx < 9 ∧ τ 248 4 = Int32.ofNat u ∧ σ 59 3 = Int32.ofNat u ∧ σ 59 2 = Int32.ofNat nx ∧ ∀ j, j < u → Sc σ (pl ((nx + 8 - j) % 9)) (kr τ (u - 1 - j))
def Pin (σ τ : St) : Prop := ∃ n, n ≤ 60 ∧ σ 241 1 = Int32.ofNat n ∧ τ 248 10 = Int32.ofNat n ∧ ∀ i, i < n → ∃ c, 32 ≤ c ∧ c ≤ 126 ∧ σ 242 i = Int32.ofNat c ∧ τ 255 i = Int32.ofNat c
def Pli (σ τ : St) : Prop := ∃ n, n ≤ 180 ∧ σ 243 1 = Int32.ofNat n ∧ τ 248 8 = Int32.ofNat n ∧ ∀ i, i < n → ∃ c, c ≤ 126 ∧ σ 244 i = Int32.ofNat c ∧ τ 254 i = Int32.ofNat c
def Pfl (σ τ : St) : Prop := σ 0 9 = τ 248 14
def Pre (m : Nat) (σ τ : St) : Prop := ∃ d, d ≤ m ∧ σ 2 2 = Int32.ofNat d ∧ τ 248 16 = Int32.ofNat d ∧ ∀ i, i < d → σ 3 i = τ 257 (2 * i) ∧ σ 4 i = τ 257 (2 * i + 1)
def Co (σ τ : St) : Prop := (Sc σ 5 (τ 249)) ∧ (Psv σ τ) ∧ (Phi σ τ) ∧ (Pin σ τ) ∧ (Pli σ τ) ∧ (Pfl σ τ) ∧ (Pre 3 σ τ)
theorem Co.now {σ τ : St} (h : Co σ τ) : Sc σ 5 (τ 249) := h.1
theorem Co.sv {σ τ : St} (h : Co σ τ) : Psv σ τ := h.2.1
theorem Co.hi {σ τ : St} (h : Co σ τ) : Phi σ τ := h.2.2.1
theorem Co.inp {σ τ : St} (h : Co σ τ) : Pin σ τ := h.2.2.2.1
theorem Co.lin {σ τ : St} (h : Co σ τ) : Pli σ τ := h.2.2.2.2.1
theorem Co.fl {σ τ : St} (h : Co σ τ) : Pfl σ τ := h.2.2.2.2.2.1
theorem Co.re {σ τ : St} (h : Co σ τ) : Pre 3 σ τ := h.2.2.2.2.2.2
theorem Co.mk {σ τ : St} (now : Sc σ 5 (τ 249)) (sv : Psv σ τ) (hi : Phi σ τ) (inp : Pin σ τ) (lin : Pli σ τ) (fl : Pfl σ τ) (re : Pre 3 σ τ) : Co σ τ := ⟨now, sv, hi, inp, lin, fl, re⟩
theorem Psv.cg {σ τ σ1 τ1 : St} (h : Psv σ τ) (a : σ1 0 8 = σ 0 8) (b : τ1 248 6 = τ 248 6) (c : ∀ k, 41 ≤ k → k < 59 → σ1 k = σ k) (d : ∀ q, q < 111 → τ1 253 q = τ 253 q) : Psv σ1 τ1 := by
  unfold Psv at *
  rw [a, b]
  exact h.imp id (fun ⟨x, y, z⟩ => ⟨x, y, z.cg (fun k h1 h2 => c k h1 (by omega)) d⟩)
theorem Phi.cg {σ τ σ1 τ1 : St} (h : Phi σ τ) (a : σ1 59 = σ 59) (b : τ1 248 4 = τ 248 4) (c : ∀ k, 79 ≤ k → k < 241 → σ1 k = σ k) (d : τ1 252 = τ 252) : Phi σ1 τ1 := by
  obtain ⟨u, nx, h1, h2, h3, h4, h5, h6⟩ := h
  refine ⟨u, nx, h1, h2, by rw [b]; exact h3, by rw [a]; exact h4, by rw [a]; exact h5, fun j hj => (h6 j hj).cg (fun k h1 h2 => ?_) (fun q _ => by unfold kr; rw [d])⟩
  unfold pl at h1 h2
  exact c k (by omega) (by omega)
theorem Pin.cg {σ τ σ1 τ1 : St} (h : Pin σ τ) (a : σ1 241 1 = σ 241 1) (b : τ1 248 10 = τ 248 10) (c : σ1 242 = σ 242) (d : τ1 255 = τ 255) : Pin σ1 τ1 := by
  unfold Pin at *
  rw [a, b, c, d]; exact h
theorem Pli.cg {σ τ σ1 τ1 : St} (h : Pli σ τ) (a : σ1 243 1 = σ 243 1) (b : τ1 248 8 = τ 248 8) (c : σ1 244 = σ 244) (d : τ1 254 = τ 254) : Pli σ1 τ1 := by
  unfold Pli at *
  rw [a, b, c, d]; exact h
theorem Pre.cg {m : Nat} {σ τ σ1 τ1 : St} (h : Pre m σ τ) (a : σ1 2 2 = σ 2 2) (b : τ1 248 16 = τ 248 16) (c : σ1 3 = σ 3) (d : σ1 4 = σ 4) (e : τ1 257 = τ 257) : Pre m σ1 τ1 := by
  unfold Pre at *
  rw [a, b, c, d, e]; exact h
theorem Pre.le {m n : Nat} {σ τ : St} (h : Pre m σ τ) (hm : m ≤ n) : Pre n σ τ := by
  obtain ⟨d, h1, h2⟩ := h
  exact ⟨d, by omega, h2⟩
theorem Co.cg {σ τ σ1 τ1 : St} (h : Co σ τ) (a : ∀ k, k < 248 → σ1 k = σ k) (b : ∀ k, 248 ≤ k → τ1 k = τ k) : Co σ1 τ1 :=
  ⟨h.now.cg (fun k _ h2 => a k (by omega)) (fun q _ => by rw [b 249 (by omega)]), h.sv.cg (by rw [a 0 (by omega)]) (by rw [b 248 (by omega)]) (fun k _ h2 => a k (by omega)) (fun q _ => by rw [b 253 (by omega)]),
    h.hi.cg (a 59 (by omega)) (by rw [b 248 (by omega)]) (fun k _ h2 => a k (by omega)) (b 252 (by omega)), h.inp.cg (by rw [a 241 (by omega)]) (by rw [b 248 (by omega)]) (a 242 (by omega)) (b 255 (by omega)),
    h.lin.cg (by rw [a 243 (by omega)]) (by rw [b 248 (by omega)]) (a 244 (by omega)) (b 254 (by omega)), by unfold Pfl; rw [a 0 (by omega), b 248 (by omega)]; exact h.fl,
    h.re.cg (by rw [a 2 (by omega)]) (by rw [b 248 (by omega)]) (a 3 (by omega)) (a 4 (by omega)) (b 257 (by omega))⟩
def Rel (σ : St) : Prop := Co σ σ
/-- one call on both sides -/
def Pair {α β : Type} (σ τ : St) (x : Option (St × α)) (y : Option (St × β)) (Q : α → β → Prop) : Prop := ∃ σ1 τ1 v w, x = some (σ1, v) ∧ y = some (τ1, w) ∧ Q v w ∧ Co σ1 τ1 ∧ (∀ k, 248 ≤ k → σ1 k = σ k) ∧ (∀ k, k < 248 → τ1 k = τ k)
theorem glue {α : Type} (F G : St → Option (St × α)) (h : ∀ σ τ, Co σ τ → Pair σ τ (F σ) (G τ) (fun v w => v = w)) : ∀ σ, Rel σ → ∃ σ1 r σ2, F σ = some (σ1, r) ∧ G σ1 = some (σ2, r) ∧ Rel σ2 := by
  intro σ hR
  obtain ⟨σ1, τ1, v, w, e1, _, _, _, f1, _⟩ := h σ σ hR
  obtain ⟨σ2, τ2, v2, w2, e3, e4, rfl, hC, f3, f4⟩ := h σ σ1 (hR.cg (fun _ _ => rfl) f1)
  rw [e1] at e3
  obtain ⟨rfl, rfl⟩ := Prod.mk.injEq _ _ _ _ ▸ Option.some.inj e3
  exact ⟨σ1, v, τ2, e1, e4, hC.cg f4 (fun _ _ => rfl)⟩
/-- queries -/
theorem Pair.q {α β : Type} {σ τ : St} {x : Option (St × α)} {y : Option (St × β)} {Q : α → β → Prop} (h : Co σ τ) {v : α} {w : β} (e1 : x = some (σ, v)) (e2 : y = some (τ, w)) (hq : Q v w) : Pair σ τ x y Q := ⟨σ, τ, v, w, e1, e2, hq, h, fun _ _ => rfl, fun _ _ => rfl⟩
