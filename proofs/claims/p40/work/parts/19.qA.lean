/-! what is asked of the object is of its row alone -/
def Cz (r : Nat → Int32) (σ : St) : Prop := (∃ τ, Co σ τ) ∧ Sc σ 5 r
def Kp (σ σ1 : St) : Prop := Fz σ σ1 ∧ ∃ τ, Co σ1 τ
theorem Kp.cz {r : Nat → Int32} {σ σ1 : St} (h : Kp σ σ1) (hc : Cz r σ) : Cz r σ1 := ⟨h.2, h.1.sc hc.2⟩
theorem Kp.rf {r : Nat → Int32} {σ : St} (hc : Cz r σ) : Kp σ σ := ⟨Fz.rfl, hc.1⟩
theorem Kp.tr {σ σ1 σ2 : St} (h : Kp σ σ1) (h2 : Kp σ1 σ2) : Kp σ σ2 := ⟨h.1.trans h2.1, h2.2⟩
theorem Kp.cs {σ σ1 : St} (h : Kp σ σ1) {r : Nat → Int32} {u nx n : Nat} {L : Nat → Nat → Int32} {sv : Option (Nat → Int32)} {ft : Int32} (hs : Cs σ r u nx L sv n ft) : Cs σ1 r u nx L sv n ft := by
  obtain ⟨f, τ, hC⟩ := h
  exact ⟨⟨τ, hC⟩, f.sc hs.sc, ⟨hs.hh.1, hs.hh.2.1, by rw [f 59 (by omega)]; exact hs.hh.2.2.1, by rw [f 59 (by omega)]; exact hs.hh.2.2.2⟩, hs.rg.cg (fun k h1 h2 => f k (by omega)), hs.sv.cg (by rw [f 0 (by omega)]) (fun k h1 h2 => f k (by omega)), by rw [f 241 (by omega)]; exact hs.inp, by rw [f 0 (by omega)]; exact hs.flt⟩
theorem Cs.cz {σ : St} {r : Nat → Int32} {u nx n : Nat} {L : Nat → Nat → Int32} {sv : Option (Nat → Int32)} {ft : Int32} (hs : Cs σ r u nx L sv n ft) : Cz r σ := ⟨hs.co, hs.sc⟩
def Ans {β : Type} (r : Nat → Int32) (F : St → Option (St × β)) : Prop := ∃ v, ∀ σ, Cz r σ → ∃ σ1, F σ = some (σ1, v) ∧ Kp σ σ1
theorem Ans.pure {β : Type} {r : Nat → Int32} (v : β) : Ans r (fun σ => some (σ, v)) := ⟨v, fun σ h => ⟨σ, rfl, Kp.rf h⟩⟩
theorem Ans.bind {β γ : Type} {r : Nat → Int32} {F : St → Option (St × β)} {K : St → β → Option (St × γ)} (h : Ans r F) (hK : ∀ v, Ans r (fun σ => K σ v)) : Ans r (fun σ => bcall (F σ) K) := by
  obtain ⟨v, hv⟩ := h
  obtain ⟨w, hw⟩ := hK v
  refine ⟨w, fun σ hc => ?_⟩
  obtain ⟨σ1, e1, k1⟩ := hv σ hc
  obtain ⟨σ2, e2, k2⟩ := hw σ1 (k1.cz hc)
  exact ⟨σ2, by show bcall (F σ) K = _; rw [e1, bcall_some]; exact e2, k1.tr k2⟩
theorem Ans.bindv {β γ : Type} {r : Nat → Int32} {F : St → Option (St × β)} {K : St → β → Option (St × γ)} (v : β) (hv : ∀ σ, Cz r σ → F σ = some (σ, v)) (hK : Ans r (fun σ => K σ v)) : Ans r (fun σ => bcall (F σ) K) := by
  obtain ⟨w, hw⟩ := hK
  refine ⟨w, fun σ hc => ?_⟩
  obtain ⟨σ2, e2, k2⟩ := hw σ hc
  exact ⟨σ2, by show bcall (F σ) K = _; rw [hv σ hc, bcall_some]; exact e2, k2⟩
theorem Ans.ite {β : Type} {r : Nat → Int32} {c : Prop} [Decidable c] {A B : St → Option (St × β)} (h1 : c → Ans r A) (h2 : ¬ c → Ans r B) : Ans r (fun σ => if c then A σ else B σ) := by
  by_cases h : c
  · simp only [h, ↓reduceIte]; exact h1 h
  · simp only [h, ↓reduceIte]; exact h2 h
theorem Ans.of {β : Type} {r : Nat → Int32} {F : St → Option (St × β)} (y : Option (St × β)) (b0 : β) (hz : ∀ σ, Cz r σ → PZ σ (tz r) (F σ) y (fun v w => v = w)) (hq : ∀ σ τ, Co σ τ → ∃ σ1 v τ1, F σ = some (σ1, v) ∧ Co σ1 τ1) : Ans r F := by
  refine ⟨(y.map Prod.snd).getD b0, fun σ hc => ?_⟩
  obtain ⟨σ1, τ1, v, w, e1, e2, rfl, f⟩ := hz σ hc
  obtain ⟨τ, hC⟩ := hc.1
  obtain ⟨σ2, v2, τ2, e3, hC2⟩ := hq σ τ hC
  rw [e1] at e3
  obtain ⟨rfl, rfl⟩ := Prod.mk.injEq _ _ _ _ ▸ Option.some.inj e3
  exact ⟨σ1, by rw [e1, e2]; rfl, f, τ2, hC2⟩
theorem tzc {r : Nat → Int32} {σ : St} (h : Cz r σ) : Sc σ 5 (tz r 249) := by rw [tz_now]; exact h.2
theorem A_doneShare (r : Nat → Int32) : Ans r (fun σ => M_X10_doneShare σ 0) := Ans.of (M_X11_doneShare (tz r) 248) 0 (fun σ h => Z_doneShare (tzc h)) (fun σ τ h => (Q_doneShare h).co)
theorem A_meanStrength (r : Nat → Int32) : Ans r (fun σ => M_X10_meanStrength σ 0) := Ans.of (M_X11_meanStrength (tz r) 248) 0 (fun σ h => Z_meanStrength (tzc h)) (fun σ τ h => (Q_meanStrength h).co)
theorem A_weakest (r : Nat → Int32) : Ans r (fun σ => M_X10_weakest σ 0) := Ans.of (M_X11_weakest (tz r) 248) 0 (fun σ h => Z_weakest (tzc h)) (fun σ τ h => (Q_weakest h).co)
theorem A_highest (r : Nat → Int32) : Ans r (fun σ => M_X10_highest σ 0) := Ans.of (M_X11_highest (tz r) 248) 0 (fun σ h => Z_highest (tzc h)) (fun σ τ h => (Q_highest h).co)
theorem A_work (r : Nat → Int32) {z : Int32} (hz : okZ z = true) : Ans r (fun σ => M_X10_work σ 0 z) := Ans.of (M_X11_work (tz r) 248 z) 0 (fun σ h => Z_work (tzc h) hz) (fun σ τ h => (Q_work h hz).co)
theorem A_wouldFall (r : Nat → Int32) (p : Int32) : Ans r (fun σ => M_X10_wouldFall σ 0 p) := Ans.of (M_X11_wouldFall (tz r) 248 p) 0 (fun σ h => Z_wouldFall (tzc h) p) (fun σ τ h => (Q_wouldFall h p).co)
theorem A_oldest (r : Nat → Int32) (p : Int32) : Ans r (fun σ => M_X10_oldest σ 0 p) := Ans.of (M_X11_oldest (tz r) 248 p) 0 (fun σ h => Z_oldest (tzc h) p) (fun σ τ h => (Q_oldest h p).co)
theorem A_oldIn (r : Nat → Int32) (p : Int32) : Ans r (fun σ => M_X10_oldIn σ 0 p) := Ans.of (M_X11_oldIn (tz r) 248 p) 0 (fun σ h => Z_oldIn (tzc h) p) (fun σ τ h => (Q_oldIn h p).co)
theorem A_doneIn (r : Nat → Int32) (p : Int32) : Ans r (fun σ => M_X10_doneIn σ 0 p) := Ans.of (M_X11_doneIn (tz r) 248 p) 0 (fun σ h => Z_doneIn (tzc h) p) (fun σ τ h => (Q_doneIn h p).co)
theorem A_strength (r : Nat → Int32) (p : Int32) {z : Int32} (hz : okZ z = true) : Ans r (fun σ => M_X10_strength σ 0 p z) := Ans.of (M_X11_strength (tz r) 248 p z) 0 (fun σ h => Z_strength (tzc h) p hz) (fun σ τ h => (Q_strength h p hz).co)
theorem A_bundleOf (r : Nat → Int32) (p : Int32) {z : Int32} (hz : okZ z = true) : Ans r (fun σ => M_X10_bundleOf σ 0 p z) := Ans.of (M_X11_bundleOf (tz r) 248 p z) 0 (fun σ h => Z_bundleOf (tzc h) p hz) (fun σ τ h => (Q_bundleOf h p hz).co)
theorem A_storeyOf (r : Nat → Int32) (p z : Int32) : Ans r (fun σ => M_X10_storeyOf σ 0 p z) := Ans.of (M_X11_storeyOf (tz r) 248 p z) 0 (fun σ h => Z_storeyOf (tzc h) p z) (fun σ τ h => (Q_storeyOf h p z).co)
theorem A_crewOf (r : Nat → Int32) (p z : Int32) : Ans r (fun σ => M_X10_crewOf σ 0 p z) := Ans.of (M_X11_crewOf (tz r) 248 p z) 0 (fun σ h => Z_crewOf (tzc h) p z) (fun σ τ h => (Q_crewOf h p z).co)
theorem A_inspectorOf (r : Nat → Int32) (p z : Int32) : Ans r (fun σ => M_X10_inspectorOf σ 0 p z) := Ans.of (M_X11_inspectorOf (tz r) 248 p z) 0 (fun σ h => Z_inspectorOf (tzc h) p z) (fun σ τ h => (Q_inspectorOf h p z).co)
theorem A_account (r : Nat → Int32) (p : Int32) (h1 : p ≠ Int32.ofNat 17) (h2 : p ≠ Int32.ofNat 18) : Ans r (fun σ => M_X10_account σ 0 p) := Ans.of (M_X11_account (tz r) 248 p) 0 (fun σ h => Z_account (tzc h) p h1 h2) (fun σ τ h => (Q_account h p).co)
/-- counts -/
theorem ac_2 (σ : St) : M_X10_account σ 0 2 = some (σ, σ 6 2) := rfl
theorem ac_4 (σ : St) : M_X10_account σ 0 4 = some (σ, σ 9 6) := rfl
theorem ac_7 (σ : St) : M_X10_account σ 0 7 = some (σ, σ 16 3) := rfl
theorem ac_12 (σ : St) : M_X10_account σ 0 12 = some (σ, σ 20 2) := rfl
theorem ac_0 (σ : St) : M_X10_account σ 0 0 = some (σ, σ 5 4) := rfl
theorem ac_17 (σ : St) : M_X10_account σ 0 17 = some (σ, σ 241 1) := rfl
theorem ac_18 (σ : St) : M_X10_account σ 0 18 = some (σ, σ 59 3) := rfl
/-- the row's counts are the object's -/
theorem Sc.at {σ : St} {r : Nat → Int32} {nb ns nc ni : Nat} (h : Sc σ 5 r) (i : Iv r nb ns nc ni) : RS σ 5 r nb ns nc ni := by
  obtain ⟨b2, s2, c2, i2, rs, iv⟩ := h
  have hb := iv.hb; have hs := iv.hs; have hc := iv.hc; have hi := iv.hi
  have gb := i.hb; have gs := i.hs; have gc := i.hc; have gi := i.hi
  have e1 : b2 = nb := (oN_eq (by omega) (by omega)).mp (iv.cb.symm.trans i.cb)
  have e2 : s2 = ns := (oN_eq (by omega) (by omega)).mp (iv.cs.symm.trans i.cs)
  have e3 : c2 = nc := (oN_eq (by omega) (by omega)).mp (iv.cc.symm.trans i.cc)
  have e4 : i2 = ni := (oN_eq (by omega) (by omega)).mp (iv.ci.symm.trans i.ci)
  subst e1; subst e2; subst e3; subst e4
  exact rs
theorem ia_2 {σ : St} {r : Nat → Int32} {nb ns nc ni : Nat} (i : Iv r nb ns nc ni) (h : Cz r σ) : M_X10_account σ 0 2 = some (σ, Int32.ofNat nb) := by rw [ac_2, (h.2.at i).cb]
theorem ia_4 {σ : St} {r : Nat → Int32} {nb ns nc ni : Nat} (i : Iv r nb ns nc ni) (h : Cz r σ) : M_X10_account σ 0 4 = some (σ, Int32.ofNat ns) := by rw [ac_4, (h.2.at i).cs]
theorem ia_7 {σ : St} {r : Nat → Int32} {nb ns nc ni : Nat} (i : Iv r nb ns nc ni) (h : Cz r σ) : M_X10_account σ 0 7 = some (σ, Int32.ofNat nc) := by rw [ac_7, (h.2.at i).cc]
theorem ia_12 {σ : St} {r : Nat → Int32} {nb ns nc ni : Nat} (i : Iv r nb ns nc ni) (h : Cz r σ) : M_X10_account σ 0 12 = some (σ, Int32.ofNat ni) := by rw [ac_12, (h.2.at i).ci]
theorem ol {a j : Nat} (ha : a < 1000) (hj : j < 1000) : Int32.ofNat a ≤ Int32.ofNat j ↔ a ≤ j := by
  rw [Int32.le_iff_toInt_le, oN_toInt (by omega), oN_toInt (by omega)]
  omega
theorem L_332 (r : Nat → Int32) : ∀ (d j n : Nat) (x1 : Int64), j + d = 11 → d < n → Ans r (fun σ => B_L_asks_332 n σ 0 x1 (Int32.ofNat j)) := by
  intro d
  induction d with
  | zero =>
    intro j n x1 hj hn
    obtain ⟨n, rfl⟩ : ∃ k, n = k + 1 := ⟨n - 1, by omega⟩
    simp only [B_L_asks_332]
    refine Ans.ite (fun _ => ?_) (fun c => absurd ((ol (a := 11) (by omega) (by omega)).mpr (by omega)) c)
    exact (A_weakest r).bind fun _ => (A_highest r).bind fun _ => (A_work r rfl).bind fun _ => (A_work r rfl).bind fun _ => Ans.pure _
  | succ d ih =>
    intro j n x1 hj hn
    obtain ⟨n, rfl⟩ : ∃ k, n = k + 1 := ⟨n - 1, by omega⟩
    simp only [B_L_asks_332]
    refine Ans.ite (fun c => absurd ((ol (a := 11) (by omega) (by omega)).mp c) (by omega)) (fun _ => ?_)
    refine (A_wouldFall r _).bind fun v => ?_
    have h := ih (j + 1) n ((31 : Int64) * x1 + v.toInt64) (by omega) (by omega)
    rw [← oN_al] at h
    exact h
/-- the line, sign by sign -/
theorem wr_at {σ τ : St} {n : Nat} (h : Pli σ τ) (hn : τ 248 8 = Int32.ofNat n) (hn8 : n ≤ 180) {j : Nat} (hj : j < n) : M_X10_written σ 0 (Int32.ofNat j) = some (σ, τ 254 j) := by
  obtain ⟨n2, hn2, e1, e2, e3⟩ := h
  obtain rfl : n2 = n := (oN_eq (by omega) (by omega)).mp (e2.symm.trans hn)
  obtain ⟨g, hg, e4, e5⟩ := e3 j hj
  have l244 : ln 244 = 200 := by decide +kernel
  have hk : okC (Int32.ofNat g) = true := by
    unfold okC
    rw [decide_eq_true (by rw [oN_nn2 (by omega)]; trivial), decide_eq_true (by rw [oN_leTl (by decide) (by show g ≤ 65535; omega)]; trivial)]; rfl
  have c : ¬ Int32.ofNat j < 0 := fun q => (oN_nn (a := j) (by omega)).mp q
  have c2 : ¬ Int32.ofNat n2 ≤ Int32.ofNat j := fun q => by have := (oN_le (by omega) (by omega)).mp q; omega
  unfold M_X10_written M_X4_signAt
  simp only [Nat.zero_add]
  rw [e1, if_neg c, if_pos (Int32.not_le.mp c2)]
  simp only [bcall_some, i10, ↓reduceIte, Nat.reduceAdd]
  rw [if_neg c, if_neg c2, if_neg (oN_nle (by rw [l244]; omega) (by omega) (by rw [l244]; omega)), bald_nat (by omega), e4]
  simp only [bchk, hk, ↓reduceIte, bcall_some, i10]
  rw [e5]
theorem L_302 (r : Nat → Int32) {τ : St} {m : Nat} (hm : τ 248 8 = Int32.ofNat m) (hm8 : m ≤ 180) : ∀ (d j n : Nat) (x1 : Int64), j + d = m → d < n → ∃ v, ∀ σ, Cz r σ → Pli σ τ → ∃ σ1, B_L_asks_302 n σ 0 x1 (Int32.ofNat m) (Int32.ofNat j) = some (σ1, v) ∧ Kp σ σ1 := by
  intro d
  induction d with
  | zero =>
    intro j n x1 hj hn
    obtain ⟨n, rfl⟩ : ∃ k, n = k + 1 := ⟨n - 1, by omega⟩
    obtain ⟨v, hv⟩ := L_332 r 3 8 FU x1 rfl (FU_lt (by decide))
    refine ⟨v, fun σ hc _ => ?_⟩
    obtain ⟨σ1, e, k⟩ := hv σ hc
    refine ⟨σ1, ?_, k⟩
    simp only [B_L_asks_302]
    rw [if_pos ((ol (by omega) (by omega)).mpr (by omega))]
    exact e
  | succ d ih =>
    intro j n x1 hj hn
    obtain ⟨n, rfl⟩ : ∃ k, n = k + 1 := ⟨n - 1, by omega⟩
    obtain ⟨v, hv⟩ := ih (j + 1) n ((31 : Int64) * x1 + (τ 254 j).toInt64) (by omega) (by omega)
    refine ⟨v, fun σ hc hp => ?_⟩
    obtain ⟨σ1, e, k⟩ := hv σ hc hp
    refine ⟨σ1, ?_, k⟩
    simp only [B_L_asks_302]
    rw [if_neg (fun q => by have := (ol (by omega) (by omega)).mp q; omega), wr_at hp hm hm8 (by omega), bcall_some]
    rw [← oN_al] at e
    exact e
theorem A_desc (r : Nat → Int32) (x1 : Int64) : Ans r (fun σ => bcall (M_X10_describe σ 0) fun σ1 v => B_L_asks_302 FU σ1 0 x1 v 0) := by
  by_cases hex : ∃ σ, Cz r σ
  · obtain ⟨σ0, hc0⟩ := hex
    obtain ⟨s1, τD, v, -, e2, ⟨m, hm8, -, hm, -⟩, -, -, -⟩ := Z_describe (tzc hc0)
    obtain ⟨w, hw⟩ := L_302 r hm hm8 m 0 FU x1 (by omega) (FU_lt (by omega))
    refine ⟨w, fun σ hc => ?_⟩
    obtain ⟨σ1, τ1, v1, f1, f2, f3, f4, f5, f6⟩ := Z_describe (tzc hc)
    obtain ⟨τ, hC⟩ := hc.1
    obtain ⟨σ2, v2, τ2, g1, hC2⟩ := (Q_describe hC).co
    rw [f1] at g1
    obtain ⟨rfl, rfl⟩ := Prod.mk.injEq _ _ _ _ ▸ Option.some.inj g1
    rw [e2] at f2
    obtain ⟨rfl, rfl⟩ := Prod.mk.injEq _ _ _ _ ▸ Option.some.inj f2
    have k1 : Kp σ σ1 := ⟨f6, τ2, hC2⟩
    obtain ⟨σ3, h1, k3⟩ := hw σ1 (k1.cz hc) f3
    refine ⟨σ3, ?_, k1.tr k3⟩
    show (bcall (M_X10_describe σ 0) fun σ1 v => B_L_asks_302 FU σ1 0 x1 v 0) = _
    rw [f1, bcall_some, ← f5, hm]
    exact h1
  · exact ⟨0, fun σ hc => absurd ⟨σ, hc⟩ hex⟩
theorem L_261 (r : Nat → Int32) {K : St → Int64 → Int32 → Option (St × Int64)} {q : Nat} (hK : ∀ y, Ans r (fun σ => K σ y (Int32.ofNat (q + 1)))) : ∀ (d j n : Nat) (x1 : Int64), j + d = 3 → d < n → Ans r (fun σ => B_L_asks_261 K n σ 0 x1 (Int32.ofNat q) (Int32.ofNat j)) := by
  intro d
  induction d with
  | zero =>
    intro j n x1 hj hn
    obtain ⟨n, rfl⟩ : ∃ k, n = k + 1 := ⟨n - 1, by omega⟩
    simp only [B_L_asks_261]
    refine Ans.ite (fun _ => ?_) (fun c => absurd ((ol (a := 3) (by omega) (by omega)).mpr (by omega)) c)
    have h := hK x1
    rw [← oN_al] at h
    exact h
  | succ d ih =>
    intro j n x1 hj hn
    obtain ⟨n, rfl⟩ : ∃ k, n = k + 1 := ⟨n - 1, by omega⟩
    simp only [B_L_asks_261]
    refine Ans.ite (fun c => absurd ((ol (a := 3) (by omega) (by omega)).mp c) (by omega)) (fun _ => ?_)
    refine (A_inspectorOf r _ _).bind fun v => ?_
    have h := ih (j + 1) n ((31 : Int64) * x1 + v.toInt64) (by omega) (by omega)
    rw [← oN_al] at h
    exact h
theorem L_248 {r : Nat → Int32} {nb ns nc ni : Nat} (i : Iv r nb ns nc ni) : ∀ (d j n : Nat) (x1 : Int64), j + d = ni → d < n → Ans r (fun σ => B_L_asks_248 n σ 0 x1 (Int32.ofNat j)) := by
  have h3 := i.hi
  intro d
  induction d with
  | zero =>
    intro j n x1 hj hn
    obtain ⟨n, rfl⟩ : ∃ k, n = k + 1 := ⟨n - 1, by omega⟩
    simp only [B_L_asks_248]
    refine Ans.bindv (Int32.ofNat ni) (fun σ h => ia_12 i h) ?_
    exact Ans.ite (fun _ => A_desc r x1) (fun c => absurd ((ol (by omega) (by omega)).mpr (by omega)) c)
  | succ d ih =>
    intro j n x1 hj hn
    obtain ⟨n, rfl⟩ : ∃ k, n = k + 1 := ⟨n - 1, by omega⟩
    simp only [B_L_asks_248]
    refine Ans.bindv (Int32.ofNat ni) (fun σ h => ia_12 i h) ?_
    refine Ans.ite (fun c => absurd ((ol (by omega) (by omega)).mp c) (by omega)) (fun _ => ?_)
    exact L_261 r (q := j) (fun y => ih (j + 1) n y (by omega) (by omega)) 3 0 FU x1 rfl (FU_lt (by decide))
theorem L_213 (r : Nat → Int32) {K : St → Int64 → Int32 → Option (St × Int64)} {q : Nat} (hK : ∀ y, Ans r (fun σ => K σ y (Int32.ofNat (q + 1)))) : ∀ (d j n : Nat) (x1 : Int64), j + d = 4 → d < n → Ans r (fun σ => B_L_asks_213 K n σ 0 x1 (Int32.ofNat q) (Int32.ofNat j)) := by
  intro d
  induction d with
  | zero =>
    intro j n x1 hj hn
    obtain ⟨n, rfl⟩ : ∃ k, n = k + 1 := ⟨n - 1, by omega⟩
    simp only [B_L_asks_213]
    refine Ans.ite (fun _ => ?_) (fun c => absurd ((ol (a := 4) (by omega) (by omega)).mpr (by omega)) c)
    have h := hK x1
    rw [← oN_al] at h
    exact h
  | succ d ih =>
    intro j n x1 hj hn
    obtain ⟨n, rfl⟩ : ∃ k, n = k + 1 := ⟨n - 1, by omega⟩
    simp only [B_L_asks_213]
    refine Ans.ite (fun c => absurd ((ol (a := 4) (by omega) (by omega)).mp c) (by omega)) (fun _ => ?_)
    refine (A_crewOf r _ _).bind fun v => ?_
    have h := ih (j + 1) n ((31 : Int64) * x1 + v.toInt64) (by omega) (by omega)
    rw [← oN_al] at h
    exact h
theorem L_200 {r : Nat → Int32} {nb ns nc ni : Nat} (i : Iv r nb ns nc ni) : ∀ (d j n : Nat) (x1 : Int64), j + d = nc → d < n → Ans r (fun σ => B_L_asks_200 n σ 0 x1 (Int32.ofNat j)) := by
  have h3 := i.hc
  have h4 := i.hi
  intro d
  induction d with
  | zero =>
    intro j n x1 hj hn
    obtain ⟨n, rfl⟩ : ∃ k, n = k + 1 := ⟨n - 1, by omega⟩
    simp only [B_L_asks_200]
    refine Ans.bindv (Int32.ofNat nc) (fun σ h => ia_7 i h) ?_
    exact Ans.ite (fun _ => L_248 i ni 0 FU x1 (by omega) (FU_lt (by omega))) (fun c => absurd ((ol (by omega) (by omega)).mpr (by omega)) c)
  | succ d ih =>
    intro j n x1 hj hn
    obtain ⟨n, rfl⟩ : ∃ k, n = k + 1 := ⟨n - 1, by omega⟩
    simp only [B_L_asks_200]
    refine Ans.bindv (Int32.ofNat nc) (fun σ h => ia_7 i h) ?_
    refine Ans.ite (fun c => absurd ((ol (by omega) (by omega)).mp c) (by omega)) (fun _ => ?_)
    exact L_213 r (q := j) (fun y => ih (j + 1) n y (by omega) (by omega)) 4 0 FU x1 rfl (FU_lt (by decide))
theorem L_105 (r : Nat → Int32) {K : St → Int64 → Int32 → Option (St × Int64)} {q : Nat} (hK : ∀ y, Ans r (fun σ => K σ y (Int32.ofNat (q + 1)))) : ∀ (d j n : Nat) (x1 : Int64), j + d = 7 → d < n → Ans r (fun σ => B_L_asks_105 K n σ 0 x1 (Int32.ofNat q) (Int32.ofNat j)) := by
  intro d
  induction d with
  | zero =>
    intro j n x1 hj hn
    obtain ⟨n, rfl⟩ : ∃ k, n = k + 1 := ⟨n - 1, by omega⟩
    simp only [B_L_asks_105]
    refine Ans.ite (fun _ => ?_) (fun c => absurd ((ol (a := 7) (by omega) (by omega)).mpr (by omega)) c)
    refine (A_strength r _ rfl).bind fun v1 => (A_strength r _ rfl).bind fun v2 => (A_oldest r _).bind fun v3 => (A_oldIn r _).bind fun v4 => (A_doneIn r _).bind fun v5 => ?_
    have h := hK ((31 : Int64) * ((31 : Int64) * ((31 : Int64) * ((31 : Int64) * ((31 : Int64) * x1 + v1.toInt64) + v2.toInt64) + v3.toInt64) + v4.toInt64) + v5.toInt64)
    rw [← oN_al] at h
    exact h
  | succ d ih =>
    intro j n x1 hj hn
    obtain ⟨n, rfl⟩ : ∃ k, n = k + 1 := ⟨n - 1, by omega⟩
    simp only [B_L_asks_105]
    refine Ans.ite (fun c => absurd ((ol (a := 7) (by omega) (by omega)).mp c) (by omega)) (fun _ => ?_)
    refine (A_storeyOf r _ _).bind fun v => ?_
    have h := ih (j + 1) n ((31 : Int64) * x1 + v.toInt64) (by omega) (by omega)
    rw [← oN_al] at h
    exact h
theorem L_93 {r : Nat → Int32} {nb ns nc ni : Nat} (i : Iv r nb ns nc ni) : ∀ (d j n : Nat) (x1 : Int64), j + d = ns → d < n → Ans r (fun σ => B_L_asks_93 n σ 0 x1 (Int32.ofNat j)) := by
  have h3 := i.hs
  have h4 := i.hc
  intro d
  induction d with
  | zero =>
    intro j n x1 hj hn
    obtain ⟨n, rfl⟩ : ∃ k, n = k + 1 := ⟨n - 1, by omega⟩
    simp only [B_L_asks_93]
    refine Ans.bindv (Int32.ofNat ns) (fun σ h => ia_4 i h) ?_
    exact Ans.ite (fun _ => L_200 i nc 0 FU x1 (by omega) (FU_lt (by omega))) (fun c => absurd ((ol (by omega) (by omega)).mpr (by omega)) c)
  | succ d ih =>
    intro j n x1 hj hn
    obtain ⟨n, rfl⟩ : ∃ k, n = k + 1 := ⟨n - 1, by omega⟩
    simp only [B_L_asks_93]
    refine Ans.bindv (Int32.ofNat ns) (fun σ h => ia_4 i h) ?_
    refine Ans.ite (fun c => absurd ((ol (by omega) (by omega)).mp c) (by omega)) (fun _ => ?_)
    exact L_105 r (q := j) (fun y => ih (j + 1) n y (by omega) (by omega)) 7 0 FU x1 rfl (FU_lt (by decide))
theorem L_50 {r : Nat → Int32} {nb ns nc ni : Nat} (i : Iv r nb ns nc ni) : ∀ (d j n : Nat) (x1 : Int64), j + d = nb → d < n → Ans r (fun σ => B_L_asks_50 n σ 0 x1 (Int32.ofNat j)) := by
  have h3 := i.hb
  have h4 := i.hs
  intro d
  induction d with
  | zero =>
    intro j n x1 hj hn
    obtain ⟨n, rfl⟩ : ∃ k, n = k + 1 := ⟨n - 1, by omega⟩
    simp only [B_L_asks_50]
    refine Ans.bindv (Int32.ofNat nb) (fun σ h => ia_2 i h) ?_
    exact Ans.ite (fun _ => L_93 i ns 0 FU x1 (by omega) (FU_lt (by omega))) (fun c => absurd ((ol (by omega) (by omega)).mpr (by omega)) c)
  | succ d ih =>
    intro j n x1 hj hn
    obtain ⟨n, rfl⟩ : ∃ k, n = k + 1 := ⟨n - 1, by omega⟩
    simp only [B_L_asks_50]
    refine Ans.bindv (Int32.ofNat nb) (fun σ h => ia_2 i h) ?_
    refine Ans.ite (fun c => absurd ((ol (by omega) (by omega)).mp c) (by omega)) (fun _ => ?_)
    refine (A_bundleOf r _ rfl).bind fun v1 => (A_bundleOf r _ rfl).bind fun v2 => ?_
    have h := ih (j + 1) n ((31 : Int64) * ((31 : Int64) * x1 + v1.toInt64) + v2.toInt64) (by omega) (by omega)
    rw [← oN_al] at h
    exact h
theorem L_23 {r : Nat → Int32} {nb ns nc ni : Nat} (i : Iv r nb ns nc ni) : ∀ (d j n : Nat) (x1 : Int64), j + d = 17 → d < n → Ans r (fun σ => B_L_asks_23 n σ 0 x1 (Int32.ofNat j)) := by
  have h3 := i.hb
  intro d
  induction d with
  | zero =>
    intro j n x1 hj hn
    obtain ⟨n, rfl⟩ : ∃ k, n = k + 1 := ⟨n - 1, by omega⟩
    simp only [B_L_asks_23]
    exact Ans.ite (fun _ => L_50 i nb 0 FU x1 (by omega) (FU_lt (by omega))) (fun c => absurd ((ol (a := 17) (by omega) (by omega)).mpr (by omega)) c)
  | succ d ih =>
    intro j n x1 hj hn
    obtain ⟨n, rfl⟩ : ∃ k, n = k + 1 := ⟨n - 1, by omega⟩
    simp only [B_L_asks_23]
    refine Ans.ite (fun c => absurd ((ol (a := 17) (by omega) (by omega)).mp c) (by omega)) (fun _ => ?_)
    refine (A_account r _ (fun q => by have := (oN_eq (by omega) (by omega)).mp q; omega) (fun q => by have := (oN_eq (by omega) (by omega)).mp q; omega)).bind fun v => ?_
    have h := ih (j + 1) n ((31 : Int64) * x1 + v.toInt64) (by omega) (by omega)
    rw [← oN_al] at h
    exact h
/-- all that is asked: one number of the row alone -/
theorem asks_ans {r : Nat → Int32} {nb ns nc ni : Nat} (i : Iv r nb ns nc ni) : Ans r (fun σ => M_L_asks σ 0) := by
  unfold M_L_asks
  exact (A_doneShare r).bind fun v1 => (A_meanStrength r).bind fun v2 => L_23 i 17 0 FU _ (by omega) (FU_lt (by decide))
