/-! the first object's run: what one call of each kind gives -/
def Cy (σ : St) (l : List Int32) (u : Nat) : Prop := ∃ nx L, Cs σ (rw l) u nx L (some (rw w0)) 0 0
theorem Cy.cz {σ : St} {l : List Int32} {u : Nat} (h : Cy σ l u) : Cz (rw l) σ := by
  obtain ⟨nx, L, hc⟩ := h
  exact hc.cz
theorem Cy.es {σ : St} {l l2 : List Int32} {u : Nat} {F : St → Option (St × Int32)} {v : Int32} {x : Option (St × Int32)} (h : Cy σ l u) (hz : ∀ nx, Hh σ u nx → PC u nx σ (tz (rw l)) x (F (tz (rw l)))) (hq : ∀ τ, Co σ τ → ∃ σ1 v τ1, x = some (σ1, v) ∧ Co σ1 τ1) (h0 : 0 ≤ v) (hk : stepOK F l v l2 = true) : ∃ σ1, x = some (σ1, v) ∧ Cy σ1 l2 (min (u + 1) 8) := by
  obtain ⟨nx, L, hc⟩ := h
  obtain ⟨σ1, e, h1⟩ := hc.es (hz nx hc.hh) hq h0 hk
  exact ⟨σ1, e, _, _, h1⟩
def badR (F : St → Option (St × Int32)) (l : List Int32) (a b : Int32) : Bool := match F (tz (rw l)) with
  | some (τ, w) => decide (w = -3) && (decide (τ 248 16 = 1) && (decide (τ 257 0 = a) && decide (τ 257 1 = b)))
  | none => false
def badR2 (F : St → Option (St × Int32)) (l : List Int32) (a b c d : Int32) : Bool := match F (tz (rw l)) with
  | some (τ, w) => decide (w = -3) && (decide (τ 248 16 = 2) && (decide (τ 257 0 = a) && (decide (τ 257 1 = b) && (decide (τ 257 2 = c) && decide (τ 257 3 = d)))))
  | none => false
theorem Cy.bad1 {σ : St} {l : List Int32} {u : Nat} {F : St → Option (St × Int32)} {a b : Int32} {x : Option (St × Int32)} (h : Cy σ l u) (hz : ∀ nx, Hh σ u nx → PC u nx σ (tz (rw l)) x (F (tz (rw l)))) (hq : ∀ τ, Co σ τ → ∃ σ1 v τ1, x = some (σ1, v) ∧ Co σ1 τ1) (hk : badR F l a b = true) : ∃ σ1, x = some (σ1, -3) ∧ Cy σ1 l u ∧ σ1 2 2 = Int32.ofNat 1 ∧ σ1 3 0 = a ∧ σ1 4 0 = b := by
  obtain ⟨nx, L, hc⟩ := h
  obtain ⟨σ1, τz, v, e1, e2, hh⟩ := hc.chg (hz nx hc.hh) hq
  unfold badR at hk
  rw [e2] at hk
  simp only [Bool.and_eq_true, decide_eq_true_iff] at hk
  obtain ⟨rfl, k1, k2, k3⟩ := hk
  rcases hh with ⟨-, h1, ⟨-, d, hd, p1, p2, p3⟩ | ⟨q, -⟩⟩ | ⟨q, -⟩
  · have d1 : d = 1 := (oN_eq (by omega) (by decide)).mp (show Int32.ofNat d = Int32.ofNat 1 from p2.symm.trans k1)
    subst d1
    obtain ⟨p4, p5⟩ := p3 0 (by omega)
    exact ⟨σ1, e1, ⟨nx, L, h1⟩, p1, p4.trans k2, p5.trans k3⟩
  · exact absurd rfl q
  · exact absurd q (by decide)
theorem Cy.bad2 {σ : St} {l : List Int32} {u : Nat} {F : St → Option (St × Int32)} {a b c d : Int32} {x : Option (St × Int32)} (h : Cy σ l u) (hz : ∀ nx, Hh σ u nx → PC u nx σ (tz (rw l)) x (F (tz (rw l)))) (hq : ∀ τ, Co σ τ → ∃ σ1 v τ1, x = some (σ1, v) ∧ Co σ1 τ1) (hk : badR2 F l a b c d = true) : ∃ σ1, x = some (σ1, -3) ∧ Cy σ1 l u ∧ σ1 2 2 = Int32.ofNat 2 ∧ σ1 3 0 = a ∧ σ1 4 0 = b ∧ σ1 3 1 = c ∧ σ1 4 1 = d := by
  obtain ⟨nx, L, hc⟩ := h
  obtain ⟨σ1, τz, v, e1, e2, hh⟩ := hc.chg (hz nx hc.hh) hq
  unfold badR2 at hk
  rw [e2] at hk
  simp only [Bool.and_eq_true, decide_eq_true_iff] at hk
  obtain ⟨rfl, k1, k2, k3, k4, k5⟩ := hk
  rcases hh with ⟨-, h1, ⟨-, d, hd, p1, p2, p3⟩ | ⟨q, -⟩⟩ | ⟨q, -⟩
  · have d1 : d = 2 := (oN_eq (by omega) (by decide)).mp (show Int32.ofNat d = Int32.ofNat 2 from p2.symm.trans k1)
    subst d1
    obtain ⟨p4, p5⟩ := p3 0 (by omega)
    obtain ⟨p6, p7⟩ := p3 1 (by omega)
    exact ⟨σ1, e1, ⟨nx, L, h1⟩, p1, p4.trans k2, p5.trans k3, p6.trans k4, p7.trans k5⟩
  · exact absurd rfl q
  · exact absurd q (by decide)
def askOK {α : Type} [DecidableEq α] (F : St → Option (St × α)) (l : List Int32) (v : α) : Bool := match F (tz (rw l)) with
  | some (_, w) => decide (w = v)
  | none => false
theorem Cy.ask {α : Type} [DecidableEq α] {σ : St} {l : List Int32} {u : Nat} {F : St → Option (St × α)} {v : α} {x : Option (St × α)} (h : Cy σ l u) (hz : PZ σ (tz (rw l)) x (F (tz (rw l))) (fun v w => v = w)) (hq : ∀ τ, Co σ τ → ∃ σ1 v τ1, x = some (σ1, v) ∧ Co σ1 τ1) (hk : askOK F l v = true) : ∃ σ1, x = some (σ1, v) ∧ Cy σ1 l u := by
  obtain ⟨nx, L, hc⟩ := h
  obtain ⟨σ1, τz, w, e1, e2, h1, -⟩ := hc.qry hz hq
  unfold askOK at hk
  rw [e2] at hk
  simp only [decide_eq_true_iff] at hk
  subst hk
  exact ⟨σ1, e1, nx, L, h1⟩
theorem E_day {σ : St} {l l2 : List Int32} {u : Nat} {v p : Int32} (h : Cy σ l u) (h0 : 0 ≤ v) (hk : stepOK (fun t => M_X11_day t 248 p) l v l2 = true) : ∃ σ1, M_X10_day σ 0 p = some (σ1, v) ∧ Cy σ1 l2 (min (u + 1) 8) := h.es (F := fun t => M_X11_day t 248 p) (fun _ hh => Z_day (tzc h.cz) hh (tz4 _) p) (fun _ hC => (Q_day hC p).co) h0 hk
theorem E_bundle {σ : St} {l l2 : List Int32} {u : Nat} {v p q : Int32} (h : Cy σ l u) (h0 : 0 ≤ v) (hk : stepOK (fun t => M_X11_bundle t 248 p q) l v l2 = true) : ∃ σ1, M_X10_bundle σ 0 p q = some (σ1, v) ∧ Cy σ1 l2 (min (u + 1) 8) := h.es (F := fun t => M_X11_bundle t 248 p q) (fun _ hh => Z_bundle (tzc h.cz) hh (tz4 _) p q) (fun _ hC => (Q_bundle hC p q).co) h0 hk
theorem E_strips {σ : St} {l l2 : List Int32} {u : Nat} {v p : Int32} (h : Cy σ l u) (h0 : 0 ≤ v) (hk : stepOK (fun t => M_X11_strips t 248 p) l v l2 = true) : ∃ σ1, M_X10_strips σ 0 p = some (σ1, v) ∧ Cy σ1 l2 (min (u + 1) 8) := h.es (F := fun t => M_X11_strips t 248 p) (fun _ hh => Z_strips (tzc h.cz) hh (tz4 _) p) (fun _ hC => (Q_strips hC p).co) h0 hk
theorem E_crew {σ : St} {l l2 : List Int32} {u : Nat} {v p : Int32} (h : Cy σ l u) (h0 : 0 ≤ v) (hk : stepOK (fun t => M_X11_crew t 248 p) l v l2 = true) : ∃ σ1, M_X10_crew σ 0 p = some (σ1, v) ∧ Cy σ1 l2 (min (u + 1) 8) := h.es (F := fun t => M_X11_crew t 248 p) (fun _ hh => Z_crew (tzc h.cz) hh (tz4 _) p) (fun _ hC => (Q_crew hC p).co) h0 hk
theorem E_inspector {σ : St} {l l2 : List Int32} {u : Nat} {v p : Int32} (h : Cy σ l u) (h0 : 0 ≤ v) (hk : stepOK (fun t => M_X11_inspector t 248 p) l v l2 = true) : ∃ σ1, M_X10_inspector σ 0 p = some (σ1, v) ∧ Cy σ1 l2 (min (u + 1) 8) := h.es (F := fun t => M_X11_inspector t 248 p) (fun _ hh => Z_inspector (tzc h.cz) hh (tz4 _) p) (fun _ hC => (Q_inspector hC p).co) h0 hk
theorem E_build {σ : St} {l l2 : List Int32} {u : Nat} {v p q w : Int32} (h : Cy σ l u) (h0 : 0 ≤ v) (hk : stepOK (fun t => M_X11_build t 248 p q w) l v l2 = true) : ∃ σ1, M_X10_build σ 0 p q w = some (σ1, v) ∧ Cy σ1 l2 (min (u + 1) 8) := h.es (F := fun t => M_X11_build t 248 p q w) (fun _ hh => Z_build (tzc h.cz) hh (tz4 _) p q w) (fun _ hC => (Q_build hC p q w).co) h0 hk
theorem E_up {σ : St} {l l2 : List Int32} {u : Nat} {v p q : Int32} (h : Cy σ l u) (h0 : 0 ≤ v) (hk : stepOK (fun t => M_X11_up t 248 p q) l v l2 = true) : ∃ σ1, M_X10_up σ 0 p q = some (σ1, v) ∧ Cy σ1 l2 (min (u + 1) 8) := h.es (F := fun t => M_X11_up t 248 p q) (fun _ hh => Z_up (tzc h.cz) hh (tz4 _) p q) (fun _ hC => (Q_up hC p q).co) h0 hk
theorem E_lift {σ : St} {l l2 : List Int32} {u : Nat} {v p q : Int32} (h : Cy σ l u) (h0 : 0 ≤ v) (hk : stepOK (fun t => M_X11_lift t 248 p q) l v l2 = true) : ∃ σ1, M_X10_lift σ 0 p q = some (σ1, v) ∧ Cy σ1 l2 (min (u + 1) 8) := h.es (F := fun t => M_X11_lift t 248 p q) (fun _ hh => Z_lift (tzc h.cz) hh (tz4 _) p q) (fun _ hC => (Q_lift hC p q).co) h0 hk
theorem E_inspect {σ : St} {l l2 : List Int32} {u : Nat} {v p q : Int32} (h : Cy σ l u) (h0 : 0 ≤ v) (hk : stepOK (fun t => M_X11_inspect t 248 p q) l v l2 = true) : ∃ σ1, M_X10_inspect σ 0 p q = some (σ1, v) ∧ Cy σ1 l2 (min (u + 1) 8) := h.es (F := fun t => M_X11_inspect t 248 p q) (fun _ hh => Z_inspect (tzc h.cz) hh (tz4 _) p q) (fun _ hC => (Q_inspect hC p q).co) h0 hk
theorem E_signal {σ : St} {l l2 : List Int32} {u : Nat} {v p : Int32} (h : Cy σ l u) (h0 : 0 ≤ v) (hk : stepOK (fun t => M_X11_signal t 248 p) l v l2 = true) : ∃ σ1, M_X10_signal σ 0 p = some (σ1, v) ∧ Cy σ1 l2 (min (u + 1) 8) := h.es (F := fun t => M_X11_signal t 248 p) (fun _ hh => Z_signal (tzc h.cz) hh (tz4 _) p) (fun _ hC => (Q_signal hC p).co) h0 hk
theorem N_bundle {σ : St} {l : List Int32} {u : Nat} {a b p q : Int32} (h : Cy σ l u) (hk : badR (fun t => M_X11_bundle t 248 p q) l a b = true) : ∃ σ1, M_X10_bundle σ 0 p q = some (σ1, -3) ∧ Cy σ1 l u ∧ σ1 2 2 = Int32.ofNat 1 ∧ σ1 3 0 = a ∧ σ1 4 0 = b := h.bad1 (F := fun t => M_X11_bundle t 248 p q) (fun _ hh => Z_bundle (tzc h.cz) hh (tz4 _) p q) (fun _ hC => (Q_bundle hC p q).co) hk
theorem N_crew {σ : St} {l : List Int32} {u : Nat} {a b p : Int32} (h : Cy σ l u) (hk : badR (fun t => M_X11_crew t 248 p) l a b = true) : ∃ σ1, M_X10_crew σ 0 p = some (σ1, -3) ∧ Cy σ1 l u ∧ σ1 2 2 = Int32.ofNat 1 ∧ σ1 3 0 = a ∧ σ1 4 0 = b := h.bad1 (F := fun t => M_X11_crew t 248 p) (fun _ hh => Z_crew (tzc h.cz) hh (tz4 _) p) (fun _ hC => (Q_crew hC p).co) hk
theorem N_inspector {σ : St} {l : List Int32} {u : Nat} {a b p : Int32} (h : Cy σ l u) (hk : badR (fun t => M_X11_inspector t 248 p) l a b = true) : ∃ σ1, M_X10_inspector σ 0 p = some (σ1, -3) ∧ Cy σ1 l u ∧ σ1 2 2 = Int32.ofNat 1 ∧ σ1 3 0 = a ∧ σ1 4 0 = b := h.bad1 (F := fun t => M_X11_inspector t 248 p) (fun _ hh => Z_inspector (tzc h.cz) hh (tz4 _) p) (fun _ hC => (Q_inspector hC p).co) hk
theorem N_build {σ : St} {l : List Int32} {u : Nat} {a b p q w : Int32} (h : Cy σ l u) (hk : badR (fun t => M_X11_build t 248 p q w) l a b = true) : ∃ σ1, M_X10_build σ 0 p q w = some (σ1, -3) ∧ Cy σ1 l u ∧ σ1 2 2 = Int32.ofNat 1 ∧ σ1 3 0 = a ∧ σ1 4 0 = b := h.bad1 (F := fun t => M_X11_build t 248 p q w) (fun _ hh => Z_build (tzc h.cz) hh (tz4 _) p q w) (fun _ hC => (Q_build hC p q w).co) hk
theorem N_up {σ : St} {l : List Int32} {u : Nat} {a b p q : Int32} (h : Cy σ l u) (hk : badR (fun t => M_X11_up t 248 p q) l a b = true) : ∃ σ1, M_X10_up σ 0 p q = some (σ1, -3) ∧ Cy σ1 l u ∧ σ1 2 2 = Int32.ofNat 1 ∧ σ1 3 0 = a ∧ σ1 4 0 = b := h.bad1 (F := fun t => M_X11_up t 248 p q) (fun _ hh => Z_up (tzc h.cz) hh (tz4 _) p q) (fun _ hC => (Q_up hC p q).co) hk
theorem N2_up {σ : St} {l : List Int32} {u : Nat} {a b c d p q : Int32} (h : Cy σ l u) (hk : badR2 (fun t => M_X11_up t 248 p q) l a b c d = true) : ∃ σ1, M_X10_up σ 0 p q = some (σ1, -3) ∧ Cy σ1 l u ∧ σ1 2 2 = Int32.ofNat 2 ∧ σ1 3 0 = a ∧ σ1 4 0 = b ∧ σ1 3 1 = c ∧ σ1 4 1 = d := h.bad2 (F := fun t => M_X11_up t 248 p q) (fun _ hh => Z_up (tzc h.cz) hh (tz4 _) p q) (fun _ hC => (Q_up hC p q).co) hk
theorem N_lift {σ : St} {l : List Int32} {u : Nat} {a b p q : Int32} (h : Cy σ l u) (hk : badR (fun t => M_X11_lift t 248 p q) l a b = true) : ∃ σ1, M_X10_lift σ 0 p q = some (σ1, -3) ∧ Cy σ1 l u ∧ σ1 2 2 = Int32.ofNat 1 ∧ σ1 3 0 = a ∧ σ1 4 0 = b := h.bad1 (F := fun t => M_X11_lift t 248 p q) (fun _ hh => Z_lift (tzc h.cz) hh (tz4 _) p q) (fun _ hC => (Q_lift hC p q).co) hk
theorem N_down {σ : St} {l : List Int32} {u : Nat} {a b p : Int32} (h : Cy σ l u) (hk : badR (fun t => M_X11_down t 248 p) l a b = true) : ∃ σ1, M_X10_down σ 0 p = some (σ1, -3) ∧ Cy σ1 l u ∧ σ1 2 2 = Int32.ofNat 1 ∧ σ1 3 0 = a ∧ σ1 4 0 = b := h.bad1 (F := fun t => M_X11_down t 248 p) (fun _ hh => Z_down (tzc h.cz) hh (tz4 _) p) (fun _ hC => (Q_down hC p).co) hk
theorem G_account {σ : St} {l : List Int32} {u : Nat} {p v : Int32} (h : Cy σ l u) (hp : p ≠ Int32.ofNat 17 ∧ p ≠ Int32.ofNat 18) (hk : askOK (fun t => M_X11_account t 248 p) l v = true) : ∃ σ1, M_X10_account σ 0 p = some (σ1, v) ∧ Cy σ1 l u := h.ask (F := fun t => M_X11_account t 248 p) (Z_account (tzc h.cz) p hp.1 hp.2) (fun _ hC => (Q_account hC p).co) hk
theorem G_strength {σ : St} {l : List Int32} {u : Nat} {p z v : Int32} (h : Cy σ l u) (hp : okZ z = true) (hk : askOK (fun t => M_X11_strength t 248 p z) l v = true) : ∃ σ1, M_X10_strength σ 0 p z = some (σ1, v) ∧ Cy σ1 l u := h.ask (F := fun t => M_X11_strength t 248 p z) (Z_strength (tzc h.cz) p hp) (fun _ hC => (Q_strength hC p hp).co) hk
theorem G_oldest {σ : St} {l : List Int32} {u : Nat} {p v : Int32} (h : Cy σ l u) (hk : askOK (fun t => M_X11_oldest t 248 p) l v = true) : ∃ σ1, M_X10_oldest σ 0 p = some (σ1, v) ∧ Cy σ1 l u := h.ask (F := fun t => M_X11_oldest t 248 p) (Z_oldest (tzc h.cz) p) (fun _ hC => (Q_oldest hC p).co) hk
theorem G_crewOf {σ : St} {l : List Int32} {u : Nat} {p z v : Int32} (h : Cy σ l u) (hk : askOK (fun t => M_X11_crewOf t 248 p z) l v = true) : ∃ σ1, M_X10_crewOf σ 0 p z = some (σ1, v) ∧ Cy σ1 l u := h.ask (F := fun t => M_X11_crewOf t 248 p z) (Z_crewOf (tzc h.cz) p z) (fun _ hC => (Q_crewOf hC p z).co) hk
theorem G_storeyOf {σ : St} {l : List Int32} {u : Nat} {p z v : Int32} (h : Cy σ l u) (hk : askOK (fun t => M_X11_storeyOf t 248 p z) l v = true) : ∃ σ1, M_X10_storeyOf σ 0 p z = some (σ1, v) ∧ Cy σ1 l u := h.ask (F := fun t => M_X11_storeyOf t 248 p z) (Z_storeyOf (tzc h.cz) p z) (fun _ hC => (Q_storeyOf hC p z).co) hk
theorem G_inspectorOf {σ : St} {l : List Int32} {u : Nat} {p z v : Int32} (h : Cy σ l u) (hk : askOK (fun t => M_X11_inspectorOf t 248 p z) l v = true) : ∃ σ1, M_X10_inspectorOf σ 0 p z = some (σ1, v) ∧ Cy σ1 l u := h.ask (F := fun t => M_X11_inspectorOf t 248 p z) (Z_inspectorOf (tzc h.cz) p z) (fun _ hC => (Q_inspectorOf hC p z).co) hk
theorem G_wouldFall {σ : St} {l : List Int32} {u : Nat} {p v : Int32} (h : Cy σ l u) (hk : askOK (fun t => M_X11_wouldFall t 248 p) l v = true) : ∃ σ1, M_X10_wouldFall σ 0 p = some (σ1, v) ∧ Cy σ1 l u := h.ask (F := fun t => M_X11_wouldFall t 248 p) (Z_wouldFall (tzc h.cz) p) (fun _ hC => (Q_wouldFall hC p).co) hk
theorem G_work {σ : St} {l : List Int32} {u : Nat} {z v : Int32} (h : Cy σ l u) (hp : okZ z = true) (hk : askOK (fun t => M_X11_work t 248 z) l v = true) : ∃ σ1, M_X10_work σ 0 z = some (σ1, v) ∧ Cy σ1 l u := h.ask (F := fun t => M_X11_work t 248 z) (Z_work (tzc h.cz) hp) (fun _ hC => (Q_work hC hp).co) hk
theorem G_weakest {σ : St} {l : List Int32} {u : Nat} {v : Int32} (h : Cy σ l u) (hk : askOK (fun t => M_X11_weakest t 248) l v = true) : ∃ σ1, M_X10_weakest σ 0 = some (σ1, v) ∧ Cy σ1 l u := h.ask (F := fun t => M_X11_weakest t 248) (Z_weakest (tzc h.cz)) (fun _ hC => (Q_weakest hC).co) hk
theorem G_doneShare {σ : St} {l : List Int32} {u : Nat} {v : UInt64} (h : Cy σ l u) (hk : askOK (fun t => M_X11_doneShare t 248) l v = true) : ∃ σ1, M_X10_doneShare σ 0 = some (σ1, v) ∧ Cy σ1 l u := h.ask (F := fun t => M_X11_doneShare t 248) (Z_doneShare (tzc h.cz)) (fun _ hC => (Q_doneShare hC).co) hk
theorem len_x (σ : St) {z : Nat} (h : lnS z ≤ 100) : M_J0_length_8abf5 σ z = some (σ, Int32.ofNat (lnS z)) := by
  have e : ∀ k, k < 101 → Int32.ofNat k >>> ((0 : Int32) &&& 31) = Int32.ofNat k := by decide +kernel
  show some (σ, Int32.ofNat (lnS z) >>> ((0 : Int32) &&& 31)) = _
  rw [e _ (by omega)]
def lineOK (l : List Int32) (z : Nat) : Bool := match M_X11_describe (tz (rw l)) 248 with
  | some (τ, v) => decide (v = Int32.ofNat (lnS z)) && (List.range (lnS z)).all (fun j => decide (τ 254 j = (byS z).getD j 0))
  | none => false
theorem Cy.line {σ : St} {l : List Int32} {u : Nat} (h : Cy σ l u) {z : Nat} (hl : lnS z ≤ 100) (hb : ∀ j, j < lnS z → (byS z).getD j 0 = Int32.ofNat ((byS z).getD j 0).toNatClampNeg ∧ ((byS z).getD j 0).toNatClampNeg < 128) (hk : lineOK l z = true) : ∃ σ1, M_L_isLine σ 0 z = some (σ1, 1) ∧ Cy σ1 l u := by
  obtain ⟨σ1, τ1, v1, f1, f2, f3, f4, f5, f6⟩ := Z_describe (tzc h.cz)
  obtain ⟨τ, hC⟩ := h.cz.1
  obtain ⟨σ2, v2, τ2, g1, hC2⟩ := (Q_describe hC).co
  rw [f1] at g1
  obtain ⟨rfl, rfl⟩ := Prod.mk.injEq _ _ _ _ ▸ Option.some.inj g1
  unfold lineOK at hk
  rw [f2] at hk
  simp only [Bool.and_eq_true, decide_eq_true_iff, List.all_eq_true] at hk
  obtain ⟨rfl, k2⟩ := hk
  have kp : Kp σ σ1 := ⟨f6, τ2, hC2⟩
  have W : M_X10_written σ1 0 (Int32.ofNat (lnS z)) = some (σ1, -1) := by
    unfold M_X10_written
    simp only [Nat.zero_add]
    rw [f4, if_neg (fun q => (oN_nn (a := lnS z) (by omega)).mp q), if_neg (fun q => by have := (onl (by omega) (by omega)).mp q; omega)]
  have loop : ∀ (d j n : Nat), j + d = lnS z → d < n → B_L_isLine_15 n σ1 0 z (Int32.ofNat j) = some (σ1, 1) := by
    intro d
    induction d with
    | zero =>
      intro j n hj hn
      obtain ⟨n, rfl⟩ : ∃ k, n = k + 1 := ⟨n - 1, by omega⟩
      obtain rfl : j = lnS z := by omega
      simp only [B_L_isLine_15, len_x σ1 hl, bcall_some]
      rw [if_pos (Int32.le_refl _), W, bcall_some, if_pos rfl]
    | succ d ih =>
      intro j n hj hn
      obtain ⟨n, rfl⟩ : ∃ k, n = k + 1 := ⟨n - 1, by omega⟩
      obtain ⟨b1, b2⟩ := hb j (by omega)
      have k3 : τ1 254 j = (byS z).getD j 0 := k2 j (List.mem_range.mpr (by omega))
      simp only [B_L_isLine_15, len_x σ1 hl, bcall_some]
      rw [if_neg (fun q => by have := (ol (by omega) (by omega)).mp q; omega), wr_at f3 f5 (by omega) (by omega), bcall_some, ch_at σ1 (by omega) (by omega) b1 b2, bcall_some, if_pos (k3.trans b1), blet_eq, oN_al]
      exact ih (j + 1) n (by omega) (by omega)
  obtain ⟨nx, L, hc⟩ := h
  refine ⟨σ1, ?_, nx, L, kp.cs hc⟩
  unfold M_L_isLine
  rw [bcall_of f1, bcall_of (len_x σ1 hl), if_pos rfl]
  exact loop (lnS z) 0 FU (by omega) (FU_lt (by omega))
theorem Cy.undo0 {σ : St} {l : List Int32} (h : Cy σ l 0) : M_X10_undo σ 0 = some (σ, -4) := by
  obtain ⟨nx, L, hc⟩ := h
  exact hc.undo0
theorem Cy.restore {σ : St} {l : List Int32} {u : Nat} (h : Cy σ l u) : ∃ σ1, M_X10_restore σ 0 = some (σ1, 0) ∧ Cy σ1 w0 0 := by
  obtain ⟨nx, L, hc⟩ := h
  obtain ⟨σ1, e, h1⟩ := hc.restore
  exact ⟨σ1, e, nx, L, h1⟩
theorem bare_w0 : ∀ q, q < 111 → rw w0 q = bareR q := by decide +kernel
theorem Cy.clear {σ : St} {l : List Int32} {u : Nat} (h : Cy σ l u) {v : Int32} (hv : rw l 0 = v) : ∃ σ1, M_X10_clear σ 0 = some (σ1, v) ∧ Cy σ1 w0 0 := by
  obtain ⟨nx, L, hc⟩ := h
  obtain ⟨σ1, e, h1⟩ := hc.clear
  exact ⟨σ1, by rw [e, hv], nx, L, h1.row bare_w0⟩
theorem Cy.ac18 {σ : St} {l : List Int32} (h : Cy σ l 8) : M_X10_account σ 0 18 = some (σ, 8) := by
  obtain ⟨nx, L, hc⟩ := h
  rw [ac_18, hc.hh.2.2.1]
  rfl
theorem rs_g {σ : St} {d i : Nat} (h : σ 2 2 = Int32.ofNat d) (hd : d ≤ 2) (hi : i < d) (z : Int32) : M_X10_reason σ 0 (Int32.ofNat i) z = some (σ, if z = 0 then σ 3 i else σ 4 i) := by
  have l3 : ln (2 + 1) = 3 := by decide +kernel
  have l4 : ln (2 + 2) = 3 := by decide +kernel
  have a3 := at_nat (σ := σ) (k := 2 + 1) (i := i) (by rw [l3]; omega)
  have a4 := at_nat (σ := σ) (k := 2 + 2) (i := i) (by rw [l4]; omega)
  unfold M_X10_reason M_X6_tell
  simp only [Nat.zero_add, Nat.reduceAdd]
  rw [h, if_pos (show (0 : Int32) ≤ Int32.ofNat i from of_eq_true (oN_nn2 (by omega))), if_pos (show Int32.ofNat i < Int32.ofNat d from (onl (by omega) (by omega)).mpr hi)]
  by_cases c : z = 0
  · rw [if_pos c, if_pos c, bcall_of a3, bcall_some]
  · rw [if_neg c, if_neg c, bcall_of a4, bcall_some]
theorem are_2 {σ : St} {a b c d : Int32} (h : σ 2 2 = Int32.ofNat 2) (h3 : σ 3 0 = a) (h4 : σ 4 0 = b) (h5 : σ 3 1 = c) (h6 : σ 4 1 = d) : M_L_are σ 0 (4, (upd (upd (upd (upd (fun _ => 0) ((0 : Int32)).toNatClampNeg a) ((1 : Int32)).toNatClampNeg b) ((2 : Int32)).toNatClampNeg c) ((3 : Int32)).toNatClampNeg d)) = some (σ, 1) := by
  have q1 : Int32.ofNat 4 / 2 = 2 := by decide
  have r00 : M_X10_reason σ 0 0 0 = some (σ, a) := by
    have q := rs_g (i := 0) h (by decide) (by decide) 0
    rw [if_pos rfl, h3] at q
    exact q
  have r01 : M_X10_reason σ 0 0 1 = some (σ, b) := by
    have q := rs_g (i := 0) h (by decide) (by decide) 1
    rw [if_neg (by decide), h4] at q
    exact q
  have r10 : M_X10_reason σ 0 1 0 = some (σ, c) := by
    have q := rs_g (i := 1) h (by decide) (by decide) 0
    rw [if_pos rfl, h5] at q
    exact q
  have r11 : M_X10_reason σ 0 1 1 = some (σ, d) := by
    have q := rs_g (i := 1) h (by decide) (by decide) 1
    rw [if_neg (by decide), h6] at q
    exact q
  have r2 : M_X10_reason σ 0 2 0 = some (σ, -4) := by
    unfold M_X10_reason M_X6_tell
    simp only [Nat.zero_add, Nat.reduceAdd]
    rw [h, if_pos (show (0 : Int32) ≤ 2 from by decide), if_neg (show ¬ (2 : Int32) < Int32.ofNat 2 from by decide), bcall_some]
  unfold M_L_are
  rw [FU_s, are2]
  show (if Int32.ofNat 4 / 2 ≤ 0 then _ else _) = _
  rw [q1, if_neg (show ¬ (2 : Int32) ≤ 0 from by decide), bcall_of r00]
  show (if a = a then _ else _) = _
  rw [if_pos rfl, bcall_of r01]
  show (if b = b then _ else _) = _
  rw [if_pos rfl, blet_eq, show (0 : Int32) + 1 = 1 from by decide, show (999 : Nat) = 998 + 1 from rfl, are2]
  show (if Int32.ofNat 4 / 2 ≤ 1 then _ else _) = _
  rw [q1, if_neg (show ¬ (2 : Int32) ≤ 1 from by decide), bcall_of r10]
  show (if c = c then _ else _) = _
  rw [if_pos rfl, bcall_of r11]
  show (if d = d then _ else _) = _
  rw [if_pos rfl, blet_eq, show (1 : Int32) + 1 = 2 from by decide, show (998 : Nat) = 997 + 1 from rfl, are2]
  show (if Int32.ofNat 4 / 2 ≤ 2 then _ else _) = _
  rw [q1, if_pos (show (2 : Int32) ≤ 2 from by decide)]
  show (bcall (M_X10_reason σ 0 (Int32.ofNat 4 / 2) 0) _) = _
  rw [q1, bcall_of r2, if_pos rfl, bcall_of (rs_m σ 1), if_pos rfl]
theorem app_full {σ : St} {r : Nat → Int32} {u nx : Nat} {L : Nat → Nat → Int32} {sv : Option (Nat → Int32)} {ft : Int32} (h : Cs σ r u nx L sv 60 ft) : M_X10_append σ 0 110 = some (σ, -2) := by
  unfold M_X10_append
  simp only [Nat.zero_add]
  rcases in_pair (σ := σ) (τ := σ) (110 : Int32) 32 126 with ⟨a1, a2, a3⟩ | ⟨a1, a2, l1, u1⟩
  · exact absurd (by decide) a3
  · rw [bcall_of a1, if_neg (show ¬ (1 : Int32) = 0 from by decide), h.inp, if_neg (show ¬ Int32.ofNat 60 < 60 from by decide)]
