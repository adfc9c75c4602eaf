theorem imax_nat0 {a : Nat} (ha : a < 2147483648) : imax (Int32.ofNat a) 0 = Int32.ofNat a := by
  unfold imax
  rw [if_neg (fun q => (oN_nn ha).mp q)]
def Fl (σ τ σ1 τ1 : St) (b f : Nat) : Prop := (∀ k, k ≠ b → σ1 k = σ k) ∧ (∀ q, q ≠ 11 → q ≠ 12 → q ≠ 13 → σ1 b q = σ b q) ∧ (σ1 b 12 = σ b 12 + Int32.ofNat f) ∧ (σ1 b 13 = τ1 249 11) ∧ (σ1 b 11 = τ1 249 13) ∧ (∀ k, k ≠ 249 → τ1 k = τ k) ∧ (∀ q, q ≠ 11 → q ≠ 13 → τ1 249 q = τ 249 q)
theorem Fl.s1 {σ τ σ1 τ1 : St} {b f : Nat} (h : Fl σ τ σ1 τ1 b f) : ∀ k, k ≠ b → σ1 k = σ k := h.1
theorem Fl.s2 {σ τ σ1 τ1 : St} {b f : Nat} (h : Fl σ τ σ1 τ1 b f) : ∀ q, q ≠ 11 → q ≠ 12 → q ≠ 13 → σ1 b q = σ b q := h.2.1
theorem Fl.s12 {σ τ σ1 τ1 : St} {b f : Nat} (h : Fl σ τ σ1 τ1 b f) : σ1 b 12 = σ b 12 + Int32.ofNat f := h.2.2.1
theorem Fl.s13 {σ τ σ1 τ1 : St} {b f : Nat} (h : Fl σ τ σ1 τ1 b f) : σ1 b 13 = τ1 249 11 := h.2.2.2.1
theorem Fl.s11 {σ τ σ1 τ1 : St} {b f : Nat} (h : Fl σ τ σ1 τ1 b f) : σ1 b 11 = τ1 249 13 := h.2.2.2.2.1
theorem Fl.t1 {σ τ σ1 τ1 : St} {b f : Nat} (h : Fl σ τ σ1 τ1 b f) : ∀ k, k ≠ 249 → τ1 k = τ k := h.2.2.2.2.2.1
theorem Fl.t2 {σ τ σ1 τ1 : St} {b f : Nat} (h : Fl σ τ σ1 τ1 b f) : ∀ q, q ≠ 11 → q ≠ 13 → τ1 249 q = τ 249 q := h.2.2.2.2.2.2
theorem Fl.mk {σ τ σ1 τ1 : St} {b f : Nat} (s1 : ∀ k, k ≠ b → σ1 k = σ k) (s2 : ∀ q, q ≠ 11 → q ≠ 12 → q ≠ 13 → σ1 b q = σ b q) (s12 : σ1 b 12 = σ b 12 + Int32.ofNat f) (s13 : σ1 b 13 = τ1 249 11) (s11 : σ1 b 11 = τ1 249 13) (t1 : ∀ k, k ≠ 249 → τ1 k = τ k) (t2 : ∀ q, q ≠ 11 → q ≠ 13 → τ1 249 q = τ 249 q) : Fl σ τ σ1 τ1 b f := ⟨s1, s2, s12, s13, s11, t1, t2⟩
theorem st2 {σ τ : St} {b nb ns nc ni : Nat} (h : RS σ b (τ 249) nb ns nc ni) (hI : Iv (τ 249) nb ns nc ni) (hg : (3 : Int32) ≤ τ 249 1) {j : Nat} (hj : j < ns) : ∃ σ2 τ2, B_X7_letFallFrom_9 FU σ b (Int32.ofNat j) (Int32.ofNat j) = some (σ2, 0) ∧ B_X11_passes_203 FU τ 248 (Int32.ofNat j) 0 (Int32.ofNat j) = B_X11_passes_275 τ2 248 (Int32.ofNat (ns - j)) ∧ RS σ2 b (τ2 249) nb j nc ni ∧ Iv (τ2 249) nb j nc ni ∧ (∀ k, (k < b ∨ b + 18 ≤ k) → σ2 k = σ k) ∧ (∀ k, k ≠ 249 → τ2 k = τ k) ∧ σ2 b 12 = σ b 12 + Int32.ofNat (ns - j) ∧ (∀ i, i < 10 → τ2 249 (30 + 6 * i + 2) = τ 249 (30 + 6 * i + 2)) := by
  have hs10 := hI.hs
  have hb8 := hI.hb; have hc5 := hI.hc; have hi3 := hI.hi
  refine two (F := fun n a x => B_X7_letFallFrom_9 n a b (Int32.ofNat j) x) (G := fun n (a : St × Int32) x => B_X11_passes_203 n a.1 248 (Int32.ofNat j) a.2 x) (I := fun i σ1 a => j ≤ i ∧ Fl σ τ σ1 a.1 b (i - j) ∧ a.2 = Int32.ofNat (i - j)) (P := fun x y => ∃ σ2 τ2, x = some (σ2, 0) ∧ y = B_X11_passes_275 τ2 248 (Int32.ofNat (ns - j)) ∧ RS σ2 b (τ2 249) nb j nc ni ∧ Iv (τ2 249) nb j nc ni ∧ (∀ k, (k < b ∨ b + 18 ≤ k) → σ2 k = σ k) ∧ (∀ k, k ≠ 249 → τ2 k = τ k) ∧ σ2 b 12 = σ b 12 + Int32.ofNat (ns - j) ∧ (∀ i, i < 10 → τ2 249 (30 + 6 * i + 2) = τ 249 (30 + 6 * i + 2))) (N := ns) ?_ ?_ (ns - j) j FU FU σ (τ, 0) (by omega) (FU_lt (by omega)) (FU_lt (by omega)) ⟨Nat.le_refl _, ⟨fun _ _ => rfl, fun _ _ _ _ => rfl, by rw [Nat.sub_self]; exact (add0 _).symm, h.f13, h.f11, fun _ _ => rfl, fun _ _ _ => rfl⟩, by rw [Nat.sub_self]; rfl⟩
  · rintro n m σ1 ⟨τ1, a⟩ ⟨_, hF, ha⟩
    simp only at hF ha
    subst ha
    have e4 := hF.s1 (b + 4) (by omega)
    simp only [B_X7_letFallFrom_9, B_X11_passes_203, M_X9_cutTo]
    simp (disch := omega) only [e4, hF.t2, imin_nat, imax_nat0, Nat.min_eq_right, bcall_some, blet_eq, bput_eq, at_2 (RS.B h), at_3 (RS.B h), at_5 (RS.B h), at_6 (RS.B h), at_7 (RS.B h), at_8 (RS.B h), at_9 (RS.B h), at_10 (RS.B h), at_12 (RS.B h), at_13 (RS.B h), at_14 (RS.B h), at_16 (RS.B h), at_17 (RS.B h), put_2 (RS.B h), put_3 (RS.B h), put_5 (RS.B h), put_6 (RS.B h), put_7 (RS.B h), put_8 (RS.B h), put_9 (RS.B h), put_10 (RS.B h), put_12 (RS.B h), put_13 (RS.B h), put_14 (RS.B h), put_16 (RS.B h), put_17 (RS.B h), x_ofl, x_of, x_setsl, x_sets, x_ld, x_ldl, x_stt, x_stl, x_where, oN_al, oN_la, oN_lm, u2_ne, u2_same, u2_self, (RS.cb h), (RS.cs h), (RS.cc h), (RS.ci h), (Iv.cb hI), (Iv.cs hI), (Iv.cc hI), (Iv.ci hI), (RS.a2 h), (RS.a3 h), (RS.a5 h), (RS.a6 h), (RS.a7 h), (RS.a8 h), (RS.a9 h), (RS.a10 h), (RS.a12 h), (RS.a13 h), (RS.a14 h), (RS.a16 h), (RS.a17 h), (RS.f4 h), (RS.f5 h), (RS.f6 h), (RS.f7 h), (RS.f8 h), (RS.f9 h), (RS.f10 h), (RS.f11 h), (RS.f12 h), (RS.f13 h), oN_leT, oN_leF, oN_ltT, oN_ltF, oN_leTl, oN_leFl, oN_ltTl, oN_ltFl, oN_lleT, oN_lleF, oN_lltT, oN_lltF, oN_m4, oN_nn, oN_nn2, mm_0, mm_s, oN_s1, oN_z1, m1_neg, m1_nn, m4_neg, i10, ↓reduceIte, if_true, if_false]
    refine ⟨_, _, rfl, rfl, ?_, ?_, ?_, ?_, ?_, ?_⟩
    · have f12 := h.f12; have f4 := h.f4; have f5 := h.f5; have f6 := h.f6; have f7 := h.f7; have f8 := h.f8; have f9 := h.f9; have f10 := h.f10
      have s12 := hF.s12; have s13 := hF.s13; have s11 := hF.s11
      apply RS.mk
      exact h.B
      all_goals first
        | (simp (disch := omega) only [u2_ne, u2_same, u2_self, hF.s2, hF.t2, s12, s13, s11, f12, f4, f5, f6, f7, f8, f9, f10]; done)
        | (simp (disch := omega) only [u2_ne, u2_same, u2_self, hF.s1, h.cb, h.cs, h.cc, h.ci]; done)
        | (intro q hq; simp (disch := omega) only [u2_ne, u2_same, u2_self, hF.s1, hF.t2, h.a2, h.a3, h.a5, h.a6, h.a7, h.a8, h.a9, h.a10, h.a12, h.a13, h.a14, h.a16, h.a17]; done)
    · have key : ∀ q, q ≠ 3 → q ≠ 10 → q ≠ 11 → q ≠ 13 → u2 (u2 τ1 249 3 (Int32.ofNat j)) 249 10 (τ 249 10 + Int32.ofNat (ns - j)) 249 q = τ 249 q := fun q q1 q2 q3 q4 => by
        rw [u2_same q2, u2_same q1, hF.t2 q q3 q4]
      refine ⟨hb8, by omega, hc5, hi3, ?_, ?_, ?_, ?_, ?_, ?_, ?_, ?_, ?_, ?_, ?_, ?_, ?_, ?_, ?_, ?_, ?_, ?_, ?_⟩
      · rw [key _ (by omega) (by omega) (by omega) (by omega)]; exact hI.cb
      · rw [u2_same (by omega), u2_self]
      · rw [key _ (by omega) (by omega) (by omega) (by omega)]; exact hI.cc
      · rw [key _ (by omega) (by omega) (by omega) (by omega)]; exact hI.ci
      · rw [key _ (by omega) (by omega) (by omega) (by omega)]; exact hI.sg
      · rw [key _ (by omega) (by omega) (by omega) (by omega)]; exact hI.st
      · rw [key _ (by omega) (by omega) (by omega) (by omega)]; exact hI.tu
      · intro i hi; rw [key _ (by omega) (by omega) (by omega) (by omega)]; exact hI.ba i hi
      · intro i hi; rw [key _ (by omega) (by omega) (by omega) (by omega)]; exact hI.sp i (by omega)
      · intro i hi; rw [key _ (by omega) (by omega) (by omega) (by omega)]; exact hI.sw i (by omega)
      · intro i hi; rw [key _ (by omega) (by omega) (by omega) (by omega)]; exact hI.tt i (by omega)
      · intro i hi; rw [key _ (by omega) (by omega) (by omega) (by omega)]; exact hI.sh i (by omega)
      · intro i hi; rw [key _ (by omega) (by omega) (by omega) (by omega)]; exact hI.sl i (by omega)
      · intro i hi; rw [key _ (by omega) (by omega) (by omega) (by omega)]; exact hI.su i (by omega)
      · intro i hi; rw [key _ (by omega) (by omega) (by omega) (by omega)]; exact hI.ck i hi
      · intro i hi; rw [key _ (by omega) (by omega) (by omega) (by omega), hI.gr hg i hi]; exact ⟨0, by omega, rfl⟩
      · intro i hi; rw [key _ (by omega) (by omega) (by omega) (by omega)]; exact hI.nn i hi
      · intro _ i hi; rw [key _ (by omega) (by omega) (by omega) (by omega)]; exact hI.gr hg i hi
      · intro i c hi hc g; rw [key _ (by omega) (by omega) (by omega) (by omega)] at g ⊢; exact hI.nc0 i c (by omega) hc g
    · intro k hk; rw [u2_ne (by omega)]; exact hF.s1 k (by omega)
    · intro k hk; rw [u2_ne hk, u2_ne hk]; exact hF.t1 k hk
    · rw [u2_ne (by omega), ← h.f12]; exact hF.s12
    · intro i hi; rw [u2_same (by omega), u2_same (by omega)]; exact hF.t2 _ (by omega) (by omega)
  · rintro n m i σ1 ⟨τ1, a⟩ hi ⟨hji, hF, ha⟩
    simp only at hF ha
    subst ha
    have e4 := hF.s1 (b + 4) (by omega)
    have e5 := hF.s1 (b + 5) (by omega)
    have e8 := hF.s1 (b + 8) (by omega)
    refine Or.inr ⟨u2 (u2 (u2 σ1 b 12 (σ1 b 12 + 1)) b 13 (σ1 b 13 + τ 249 (30 + 6 * i + 0))) b 11 (σ1 b 11 + τ 249 (30 + 6 * i + 3)), (u2 (u2 τ1 249 11 (τ1 249 11 + τ 249 (30 + 6 * i + 0))) 249 13 (τ1 249 13 + τ 249 (30 + 6 * i + 3)), Int32.ofNat (i + 1 - j)), ?_, ?_, by omega, ?_, rfl⟩
    · simp only [B_X7_letFallFrom_9, M_X9_polesOf, M_X9_hoursOf]
      simp (disch := omega) only [e4, e5, e8, bcall_some, blet_eq, bput_eq, at_2 (RS.B h), at_3 (RS.B h), at_5 (RS.B h), at_6 (RS.B h), at_7 (RS.B h), at_8 (RS.B h), at_9 (RS.B h), at_10 (RS.B h), at_12 (RS.B h), at_13 (RS.B h), at_14 (RS.B h), at_16 (RS.B h), at_17 (RS.B h), put_2 (RS.B h), put_3 (RS.B h), put_5 (RS.B h), put_6 (RS.B h), put_7 (RS.B h), put_8 (RS.B h), put_9 (RS.B h), put_10 (RS.B h), put_12 (RS.B h), put_13 (RS.B h), put_14 (RS.B h), put_16 (RS.B h), put_17 (RS.B h), x_ofl, x_of, x_setsl, x_sets, x_ld, x_ldl, x_stt, x_stl, x_where, oN_al, oN_la, oN_lm, u2_ne, u2_same, u2_self, (RS.cb h), (RS.cs h), (RS.cc h), (RS.ci h), (Iv.cb hI), (Iv.cs hI), (Iv.cc hI), (Iv.ci hI), (RS.a2 h), (RS.a3 h), (RS.a5 h), (RS.a6 h), (RS.a7 h), (RS.a8 h), (RS.a9 h), (RS.a10 h), (RS.a12 h), (RS.a13 h), (RS.a14 h), (RS.a16 h), (RS.a17 h), (RS.f4 h), (RS.f5 h), (RS.f6 h), (RS.f7 h), (RS.f8 h), (RS.f9 h), (RS.f10 h), (RS.f11 h), (RS.f12 h), (RS.f13 h), oN_leT, oN_leF, oN_ltT, oN_ltF, oN_leTl, oN_leFl, oN_ltTl, oN_ltFl, oN_lleT, oN_lleF, oN_lltT, oN_lltF, oN_m4, oN_nn, oN_nn2, mm_0, mm_s, oN_s1, oN_z1, m1_neg, m1_nn, m4_neg, i10, ↓reduceIte, if_true, if_false]
    · simp only [B_X11_passes_203]
      simp (disch := omega) only [hF.t2, bcall_some, blet_eq, bput_eq, at_2 (RS.B h), at_3 (RS.B h), at_5 (RS.B h), at_6 (RS.B h), at_7 (RS.B h), at_8 (RS.B h), at_9 (RS.B h), at_10 (RS.B h), at_12 (RS.B h), at_13 (RS.B h), at_14 (RS.B h), at_16 (RS.B h), at_17 (RS.B h), put_2 (RS.B h), put_3 (RS.B h), put_5 (RS.B h), put_6 (RS.B h), put_7 (RS.B h), put_8 (RS.B h), put_9 (RS.B h), put_10 (RS.B h), put_12 (RS.B h), put_13 (RS.B h), put_14 (RS.B h), put_16 (RS.B h), put_17 (RS.B h), x_ofl, x_of, x_setsl, x_sets, x_ld, x_ldl, x_stt, x_stl, x_where, oN_al, oN_la, oN_lm, u2_ne, u2_same, u2_self, (RS.cb h), (RS.cs h), (RS.cc h), (RS.ci h), (Iv.cb hI), (Iv.cs hI), (Iv.cc hI), (Iv.ci hI), (RS.a2 h), (RS.a3 h), (RS.a5 h), (RS.a6 h), (RS.a7 h), (RS.a8 h), (RS.a9 h), (RS.a10 h), (RS.a12 h), (RS.a13 h), (RS.a14 h), (RS.a16 h), (RS.a17 h), (RS.f4 h), (RS.f5 h), (RS.f6 h), (RS.f7 h), (RS.f8 h), (RS.f9 h), (RS.f10 h), (RS.f11 h), (RS.f12 h), (RS.f13 h), oN_leT, oN_leF, oN_ltT, oN_ltF, oN_leTl, oN_leFl, oN_ltTl, oN_ltFl, oN_lleT, oN_lleF, oN_lltT, oN_lltF, oN_m4, oN_nn, oN_nn2, mm_0, mm_s, oN_s1, oN_z1, m1_neg, m1_nn, m4_neg, i10, ↓reduceIte, if_true, if_false]
      rw [show i - j + 1 = i + 1 - j by omega]
    · refine ⟨fun k hk => ?_, fun q h1 h2 h3 => ?_, ?_, ?_, ?_, fun k hk => ?_, fun q h1 h2 => ?_⟩
      · rw [u2_ne hk, u2_ne hk, u2_ne hk]; exact hF.s1 k hk
      · rw [u2_same h1, u2_same h3, u2_same h2]; exact hF.s2 q h1 h2 h3
      · rw [u2_same (by omega), u2_same (by omega), u2_self, hF.s12, add_step, show i - j + 1 = i + 1 - j by omega]
      · simp only
        rw [u2_same (by omega), u2_self, u2_same (by omega), u2_self, hF.s13]
      · simp only
        rw [u2_self, u2_self, hF.s11]
      · simp only
        rw [u2_ne hk, u2_ne hk]; exact hF.t1 k hk
      · simp only
        rw [u2_same h2, u2_same h1]; exact hF.t2 q h1 h2
