theorem imin_nat {a b : Nat} (ha : a < 2147483648) (hb : b < 2147483648) : imin (Int32.ofNat a) (Int32.ofNat b) = Int32.ofNat (min a b) := by
  unfold imin
  by_cases c : b < a
  · rw [if_pos ((oN_lt hb ha).mpr c), Nat.min_eq_right (by omega)]
  · rw [if_neg (fun q => c ((oN_lt hb ha).mp q)), Nat.min_eq_left (by omega)]
/-- what a day's stage leaves -/
def Mw (σ τ σ1 τ1 : St) (b : Nat) : Prop := (∀ k, (k < b ∨ b + 18 ≤ k) → σ1 k = σ k) ∧ (∀ k, k ≠ 249 → τ1 k = τ k) ∧ (σ1 b 12 = σ b 12)
theorem Mw.fr {σ τ σ1 τ1 : St} {b : Nat} (h : Mw σ τ σ1 τ1 b) : ∀ k, (k < b ∨ b + 18 ≤ k) → σ1 k = σ k := h.1
theorem Mw.fx {σ τ σ1 τ1 : St} {b : Nat} (h : Mw σ τ σ1 τ1 b) : ∀ k, k ≠ 249 → τ1 k = τ k := h.2.1
theorem Mw.e12 {σ τ σ1 τ1 : St} {b : Nat} (h : Mw σ τ σ1 τ1 b) : σ1 b 12 = σ b 12 := h.2.2
theorem Mw.mk {σ τ σ1 τ1 : St} {b : Nat} (fr : ∀ k, (k < b ∨ b + 18 ≤ k) → σ1 k = σ k) (fx : ∀ k, k ≠ 249 → τ1 k = τ k) (e12 : σ1 b 12 = σ b 12) : Mw σ τ σ1 τ1 b := ⟨fr, fx, e12⟩
def Mvx (σ τ σ1 τ1 : St) (b : Nat) : Prop := (Mw σ τ σ1 τ1 b) ∧ (∀ i, i < 10 → τ1 249 (30 + 6 * i + 2) = τ 249 (30 + 6 * i + 2))
theorem Mvx.toMw {σ τ σ1 τ1 : St} {b : Nat} (h : Mvx σ τ σ1 τ1 b) : Mw σ τ σ1 τ1 b := h.1
theorem Mvx.ti {σ τ σ1 τ1 : St} {b : Nat} (h : Mvx σ τ σ1 τ1 b) : ∀ i, i < 10 → τ1 249 (30 + 6 * i + 2) = τ 249 (30 + 6 * i + 2) := h.2
theorem Mvx.mk {σ τ σ1 τ1 : St} {b : Nat} (toMw : Mw σ τ σ1 τ1 b) (ti : ∀ i, i < 10 → τ1 249 (30 + 6 * i + 2) = τ 249 (30 + 6 * i + 2)) : Mvx σ τ σ1 τ1 b := ⟨toMw, ti⟩
theorem Mvx.fr {σ τ σ1 τ1 : St} {b : Nat} (h : Mvx σ τ σ1 τ1 b) : ∀ k, (k < b ∨ b + 18 ≤ k) → σ1 k = σ k := Mw.fr h.toMw
theorem Mvx.fx {σ τ σ1 τ1 : St} {b : Nat} (h : Mvx σ τ σ1 τ1 b) : ∀ k, k ≠ 249 → τ1 k = τ k := Mw.fx h.toMw
theorem Mvx.e12 {σ τ σ1 τ1 : St} {b : Nat} (h : Mvx σ τ σ1 τ1 b) : σ1 b 12 = σ b 12 := Mw.e12 h.toMw
theorem Mw.refl (σ τ : St) (b : Nat) : Mw σ τ σ τ b := ⟨fun _ _ => rfl, fun _ _ => rfl, rfl⟩
theorem Mvx.refl (σ τ : St) (b : Nat) : Mvx σ τ σ τ b := ⟨Mw.refl _ _ _, fun _ _ => rfl⟩
theorem Mw.u {σ τ σ1 τ1 : St} {b : Nat} (h : Mw σ τ σ1 τ1 b) {k j j2 : Nat} {v v2 : Int32} (hk : b ≤ k ∧ k < b + 18) (h12 : k ≠ b ∨ j ≠ 12) : Mw σ τ (u2 σ1 k j v) (u2 τ1 249 j2 v2) b :=
  ⟨fun q hq => by rw [u2_ne (by omega)]; exact h.fr q hq, fun q hq => by rw [u2_ne hq]; exact h.fx q hq, by
    by_cases c : k = b
    · subst c; rw [u2_same (by omega)]; exact h.e12
    · rw [u2_ne (by omega)]; exact h.e12⟩
theorem Mvx.u {σ τ σ1 τ1 : St} {b : Nat} (h : Mvx σ τ σ1 τ1 b) {k j j2 : Nat} {v v2 : Int32} (hk : b ≤ k ∧ k < b + 18) (h12 : k ≠ b ∨ j ≠ 12) (hj : ∀ i, i < 10 → 30 + 6 * i + 2 ≠ j2) : Mvx σ τ (u2 σ1 k j v) (u2 τ1 249 j2 v2) b :=
  ⟨h.toMw.u hk h12, fun i hi => by rw [u2_same (hj i hi)]; exact h.ti i hi⟩
theorem Mw.trans {σ τ σ1 τ1 σ2 τ2 : St} {b : Nat} (h : Mw σ τ σ1 τ1 b) (g : Mw σ1 τ1 σ2 τ2 b) : Mw σ τ σ2 τ2 b :=
  ⟨fun q hq => by rw [g.fr q hq, h.fr q hq], fun q hq => by rw [g.fx q hq, h.fx q hq], by rw [g.e12, h.e12]⟩
theorem Mvx.trans {σ τ σ1 τ1 σ2 τ2 : St} {b : Nat} (h : Mvx σ τ σ1 τ1 b) (g : Mvx σ1 τ1 σ2 τ2 b) : Mvx σ τ σ2 τ2 b :=
  ⟨h.toMw.trans g.toMw, fun i hi => by rw [g.ti i hi, h.ti i hi]⟩
def lwS (σ : St) (b s c : Nat) (hh l hc d0 d : Int32) : St := u2 (u2 (u2 (u2 σ (b + 8) s (hh - d)) (b + 9) s (l - 1)) (b + 14) c (hc + d)) b 10 (d0 + d)
def lwT (τ : St) (s c : Nat) (hh l hc d0 d : Int32) : St := u2 (u2 (u2 (u2 τ 249 (30 + 6 * s + 3) (hh - d)) 249 (30 + 6 * s + 4) (l - 1)) 249 (90 + 3 * c + 2) (hc + d)) 249 9 (d0 + d)
theorem lw_pair {σ τ : St} {b nb ns nc ni : Nat} (h : RS σ b (τ 249) nb ns nc ni) (hI : Iv (τ 249) nb ns nc ni) {c s : Nat} (hc : c < nc) (hs : s < ns) (hp : τ 249 (90 + 3 * c + 1) = Int32.ofNat (s + 1)) (h1 : ¬ τ 249 (30 + 6 * s + 3) ≤ 0) (h2 : ¬ τ 249 (30 + 6 * s + 4) ≤ 0) :
    ∃ σ1 τ1 d, M_X7_letWork σ b (Int32.ofNat c) = some (σ1, 0) ∧ d = imin (τ 249 (30 + 6 * s + 3)) (τ 249 (90 + 3 * c)) ∧ τ1 = lwT τ s c (τ 249 (30 + 6 * s + 3)) (τ 249 (30 + 6 * s + 4)) (τ 249 (90 + 3 * c + 2)) (τ 249 9) d ∧ RS σ1 b (τ1 249) nb ns nc ni ∧ Iv (τ1 249) nb ns nc ni ∧ Mvx σ τ σ1 τ1 b := by
  have hs10 := hI.hs
  have hc5 := hI.hc
  refine ⟨lwS σ b s c (τ 249 (30 + 6 * s + 3)) (τ 249 (30 + 6 * s + 4)) (τ 249 (90 + 3 * c + 2)) (τ 249 9) (imin (τ 249 (30 + 6 * s + 3)) (τ 249 (90 + 3 * c))), _, _, ?_, rfl, rfl, ?_, ?_, ?_⟩
  · unfold M_X7_letWork M_X1_placeOf M_X1_skillOf M_X9_hoursOf M_X9_workOff M_X1_addHours
    simp (disch := omega) only [hp, bcall_some, blet_eq, bput_eq, at_2 (RS.B h), at_3 (RS.B h), at_5 (RS.B h), at_6 (RS.B h), at_7 (RS.B h), at_8 (RS.B h), at_9 (RS.B h), at_10 (RS.B h), at_12 (RS.B h), at_13 (RS.B h), at_14 (RS.B h), at_16 (RS.B h), at_17 (RS.B h), put_2 (RS.B h), put_3 (RS.B h), put_5 (RS.B h), put_6 (RS.B h), put_7 (RS.B h), put_8 (RS.B h), put_9 (RS.B h), put_10 (RS.B h), put_12 (RS.B h), put_13 (RS.B h), put_14 (RS.B h), put_16 (RS.B h), put_17 (RS.B h), x_ofl, x_of, x_setsl, x_sets, x_ld, x_ldl, x_stt, x_stl, x_where, oN_al, oN_la, oN_lm, u2_ne, u2_same, u2_self, (RS.cb h), (RS.cs h), (RS.cc h), (RS.ci h), (Iv.cb hI), (Iv.cs hI), (Iv.cc hI), (Iv.ci hI), (RS.a2 h), (RS.a3 h), (RS.a5 h), (RS.a6 h), (RS.a7 h), (RS.a8 h), (RS.a9 h), (RS.a10 h), (RS.a12 h), (RS.a13 h), (RS.a14 h), (RS.a16 h), (RS.a17 h), (RS.f4 h), (RS.f5 h), (RS.f6 h), (RS.f7 h), (RS.f8 h), (RS.f9 h), (RS.f10 h), (RS.f11 h), (RS.f12 h), (RS.f13 h), oN_leT, oN_leF, oN_ltT, oN_ltF, oN_leTl, oN_leFl, oN_ltTl, oN_ltFl, oN_lleT, oN_lleF, oN_lltT, oN_lltF, oN_m4, oN_nn, oN_nn2, mm_0, mm_s, oN_s1, oN_z1, m1_neg, m1_nn, m4_neg, i10, ↓reduceIte, if_true, if_false]
    rw [imin_comm]; rfl
  · have hI1 : Iv (upd (τ 249) (30 + 6 * s + 3) _) nb ns nc ni := iv_sh hI hs (v := τ 249 (30 + 6 * s + 3) - imin (τ 249 (30 + 6 * s + 3)) (τ 249 (90 + 3 * c))) (by
      obtain ⟨g, hg, e⟩ := hI.sh s hs
      obtain ⟨k, _, hk, e2⟩ := hI.ck c hc
      rw [e, e2, imin_nat (by omega) (by omega), oN_sub (Nat.min_le_left _ _)]
      exact ⟨g - min g k, by omega, rfl⟩)
    have r1 := rs_a8 h hI hs (τ 249 (30 + 6 * s + 3) - imin (τ 249 (30 + 6 * s + 3)) (τ 249 (90 + 3 * c)))
    have hI2 := iv_sl hI1 hs (v := τ 249 (30 + 6 * s + 4) - 1) (by
      obtain ⟨g, hg, e⟩ := hI.sl s hs
      rw [e] at h2 ⊢
      rcases g with _ | g
      · exact absurd (show Int32.ofNat 0 ≤ 0 by decide) h2
      · rw [oN_s1]; exact ⟨g, by omega, rfl⟩)
    have r2 := rs_a9 r1 hI1 hs (τ 249 (30 + 6 * s + 4) - 1)
    have r3 := rs_a14 r2 hI2 hc (τ 249 (90 + 3 * c + 2) + imin (τ 249 (30 + 6 * s + 3)) (τ 249 (90 + 3 * c)))
    have hI3 := iv_irr (r1 := upd (upd (upd (τ 249) (30 + 6 * s + 3) (τ 249 (30 + 6 * s + 3) - imin (τ 249 (30 + 6 * s + 3)) (τ 249 (90 + 3 * c)))) (30 + 6 * s + 4) (τ 249 (30 + 6 * s + 4) - 1)) (90 + 3 * c + 2) (τ 249 (90 + 3 * c + 2) + imin (τ 249 (30 + 6 * s + 3)) (τ 249 (90 + 3 * c)))) hI2 (fun j hj hj2 => by rw [upd_ne (by omega)])
    exact rs_f10 r3 hI3 (τ 249 9 + imin (τ 249 (30 + 6 * s + 3)) (τ 249 (90 + 3 * c)))
  · have hI1 : Iv (upd (τ 249) (30 + 6 * s + 3) _) nb ns nc ni := iv_sh hI hs (v := τ 249 (30 + 6 * s + 3) - imin (τ 249 (30 + 6 * s + 3)) (τ 249 (90 + 3 * c))) (by
      obtain ⟨g, hg, e⟩ := hI.sh s hs
      obtain ⟨k, _, hk, e2⟩ := hI.ck c hc
      rw [e, e2, imin_nat (by omega) (by omega), oN_sub (Nat.min_le_left _ _)]
      exact ⟨g - min g k, by omega, rfl⟩)
    have hI2 := iv_sl hI1 hs (v := τ 249 (30 + 6 * s + 4) - 1) (by
      obtain ⟨g, hg, e⟩ := hI.sl s hs
      rw [e] at h2 ⊢
      rcases g with _ | g
      · exact absurd (show Int32.ofNat 0 ≤ 0 by decide) h2
      · rw [oN_s1]; exact ⟨g, by omega, rfl⟩)
    exact iv_irr (r1 := upd (upd (upd (upd (τ 249) (30 + 6 * s + 3) _) (30 + 6 * s + 4) _) (90 + 3 * c + 2) (τ 249 (90 + 3 * c + 2) + imin (τ 249 (30 + 6 * s + 3)) (τ 249 (90 + 3 * c)))) 9 (τ 249 9 + imin (τ 249 (30 + 6 * s + 3)) (τ 249 (90 + 3 * c)))) hI2 (fun j hj hj2 => by rw [upd_ne (by omega), upd_ne (by omega)])
  · exact (((((Mvx.refl σ τ b).u (by omega) (by omega) (by omega)).u (by omega) (by omega) (by omega)).u (by omega) (by omega) (by omega)).u (by omega) (by omega) (by omega))
theorem mo_weeks {σ τ : St} {b nb ns nc ni : Nat} (h : RS σ b (τ 249) nb ns nc ni) (hI : Iv (τ 249) nb ns nc ni) (x3 : Int32) : ∃ σ1 τ1, B_X10_makeOlder_3 FU σ (b + 4 + 2) (Int32.ofNat ns) 1 60 0 = some (σ1, 0) ∧ B_X11_passes_364 FU τ 248 x3 0 = some (τ1, x3) ∧ RS σ1 b (τ1 249) nb ns nc ni ∧ Iv (τ1 249) nb ns nc ni ∧ Mvx σ τ σ1 τ1 b := by
  have hs10 := hI.hs
  exact two (F := fun n a x => B_X10_makeOlder_3 n a (b + 4 + 2) (Int32.ofNat ns) 1 60 x) (G := fun n a x => B_X11_passes_364 n a 248 x3 x) (I := fun _ σ1 τ1 => RS σ1 b (τ1 249) nb ns nc ni ∧ Iv (τ1 249) nb ns nc ni ∧ Mvx σ τ σ1 τ1 b) (P := fun x y => ∃ σ1 τ1, x = some (σ1, 0) ∧ y = some (τ1, x3) ∧ RS σ1 b (τ1 249) nb ns nc ni ∧ Iv (τ1 249) nb ns nc ni ∧ Mvx σ τ σ1 τ1 b) (N := ns) (by
    rintro n m σ1 τ1 ⟨h1, hI1, hM⟩
    simp only [B_X10_makeOlder_3, B_X11_passes_364]
    simp (disch := omega) only [i10, bcall_some, blet_eq, bput_eq, at_2 (RS.B h1), at_3 (RS.B h1), at_5 (RS.B h1), at_6 (RS.B h1), at_7 (RS.B h1), at_8 (RS.B h1), at_9 (RS.B h1), at_10 (RS.B h1), at_12 (RS.B h1), at_13 (RS.B h1), at_14 (RS.B h1), at_16 (RS.B h1), at_17 (RS.B h1), put_2 (RS.B h1), put_3 (RS.B h1), put_5 (RS.B h1), put_6 (RS.B h1), put_7 (RS.B h1), put_8 (RS.B h1), put_9 (RS.B h1), put_10 (RS.B h1), put_12 (RS.B h1), put_13 (RS.B h1), put_14 (RS.B h1), put_16 (RS.B h1), put_17 (RS.B h1), x_ofl, x_of, x_setsl, x_sets, x_ld, x_ldl, x_stt, x_stl, x_where, oN_al, oN_la, oN_lm, u2_ne, u2_same, u2_self, (RS.cb h1), (RS.cs h1), (RS.cc h1), (RS.ci h1), (Iv.cb hI1), (Iv.cs hI1), (Iv.cc hI1), (Iv.ci hI1), (RS.a2 h1), (RS.a3 h1), (RS.a5 h1), (RS.a6 h1), (RS.a7 h1), (RS.a8 h1), (RS.a9 h1), (RS.a10 h1), (RS.a12 h1), (RS.a13 h1), (RS.a14 h1), (RS.a16 h1), (RS.a17 h1), (RS.f4 h1), (RS.f5 h1), (RS.f6 h1), (RS.f7 h1), (RS.f8 h1), (RS.f9 h1), (RS.f10 h1), (RS.f11 h1), (RS.f12 h1), (RS.f13 h1), oN_leT, oN_leF, oN_ltT, oN_ltF, oN_leTl, oN_leFl, oN_ltTl, oN_ltFl, oN_lleT, oN_lleF, oN_lltT, oN_lltF, oN_m4, oN_nn, oN_nn2, mm_0, mm_s, oN_s1, oN_z1, m1_neg, m1_nn, m4_neg, i10, ↓reduceIte, if_true, if_false]
    exact ⟨_, _, (by first | rfl | trivial), (by first | rfl | trivial), h1, hI1, hM⟩) (by
    rintro n m i σ1 τ1 hi ⟨h1, hI1, hM⟩
    simp only [B_X10_makeOlder_3, B_X11_passes_364]
    simp (disch := omega) only [imin_comm, bcall_some, blet_eq, bput_eq, at_2 (RS.B h1), at_3 (RS.B h1), at_5 (RS.B h1), at_6 (RS.B h1), at_7 (RS.B h1), at_8 (RS.B h1), at_9 (RS.B h1), at_10 (RS.B h1), at_12 (RS.B h1), at_13 (RS.B h1), at_14 (RS.B h1), at_16 (RS.B h1), at_17 (RS.B h1), put_2 (RS.B h1), put_3 (RS.B h1), put_5 (RS.B h1), put_6 (RS.B h1), put_7 (RS.B h1), put_8 (RS.B h1), put_9 (RS.B h1), put_10 (RS.B h1), put_12 (RS.B h1), put_13 (RS.B h1), put_14 (RS.B h1), put_16 (RS.B h1), put_17 (RS.B h1), x_ofl, x_of, x_setsl, x_sets, x_ld, x_ldl, x_stt, x_stl, x_where, oN_al, oN_la, oN_lm, u2_ne, u2_same, u2_self, (RS.cb h1), (RS.cs h1), (RS.cc h1), (RS.ci h1), (Iv.cb hI1), (Iv.cs hI1), (Iv.cc hI1), (Iv.ci hI1), (RS.a2 h1), (RS.a3 h1), (RS.a5 h1), (RS.a6 h1), (RS.a7 h1), (RS.a8 h1), (RS.a9 h1), (RS.a10 h1), (RS.a12 h1), (RS.a13 h1), (RS.a14 h1), (RS.a16 h1), (RS.a17 h1), (RS.f4 h1), (RS.f5 h1), (RS.f6 h1), (RS.f7 h1), (RS.f8 h1), (RS.f9 h1), (RS.f10 h1), (RS.f11 h1), (RS.f12 h1), (RS.f13 h1), oN_leT, oN_leF, oN_ltT, oN_ltF, oN_leTl, oN_leFl, oN_ltTl, oN_ltFl, oN_lleT, oN_lleF, oN_lltT, oN_lltF, oN_m4, oN_nn, oN_nn2, mm_0, mm_s, oN_s1, oN_z1, m1_neg, m1_nn, m4_neg, i10, ↓reduceIte, if_true, if_false]
    refine Or.inr ⟨_, _, rfl, rfl, rs_a6 h1 hI1 hi _, iv_sw hI1 hi ?_, hM.u (by omega) (by omega) (by omega)⟩
    obtain ⟨g, hg, e⟩ := hI1.sw i hi
    rw [e, oN_al, show (60 : Int32) = Int32.ofNat 60 from rfl, imin_nat (by omega) (by omega)]
    exact ⟨_, by omega, rfl⟩) ns 0 FU FU σ τ (by omega) (FU_lt (by omega)) (FU_lt (by omega)) ⟨h, hI, Mvx.refl _ _ _⟩
theorem mo_ages {σ τ : St} {b nb ns nc ni : Nat} (h : RS σ b (τ 249) nb ns nc ni) (hI : Iv (τ 249) nb ns nc ni) {α : Type} (K : St → Option α) (G : Nat → St → Int32 → Option α) (hG : ∀ n τ1 x, G (n + 1) τ1 x = bald τ1 (248 + 1) (2 : Int32) fun q8 => if q8 ≤ x then K τ1 else (bald τ1 (248 + 1) (((14 : Int32) + ((2 : Int32) * x)) + (1 : Int32)) fun q17 => blet (imin (60 : Int32) (q17 + (1 : Int32))) fun v18 => bast τ1 (248 + 1) (((14 : Int32) + ((2 : Int32) * x)) + (1 : Int32)) v18 fun σ19 => blet (x + (1 : Int32)) fun v20 => G n σ19 v20)) : ∃ σ1 τ1, B_X10_makeOlder_3 FU σ (b + 1 + 2) (Int32.ofNat nb) 1 60 0 = some (σ1, 0) ∧ G FU τ 0 = K τ1 ∧ RS σ1 b (τ1 249) nb ns nc ni ∧ Iv (τ1 249) nb ns nc ni ∧ Mvx σ τ σ1 τ1 b := by
  have hs10 := hI.hb
  exact two (F := fun n a x => B_X10_makeOlder_3 n a (b + 1 + 2) (Int32.ofNat nb) 1 60 x) (G := fun n a x => G n a x) (I := fun _ σ1 τ1 => RS σ1 b (τ1 249) nb ns nc ni ∧ Iv (τ1 249) nb ns nc ni ∧ Mvx σ τ σ1 τ1 b) (P := fun x y => ∃ σ1 τ1, x = some (σ1, 0) ∧ y = K τ1 ∧ RS σ1 b (τ1 249) nb ns nc ni ∧ Iv (τ1 249) nb ns nc ni ∧ Mvx σ τ σ1 τ1 b) (N := nb) (by
    rintro n m σ1 τ1 ⟨h1, hI1, hM⟩
    simp only [B_X10_makeOlder_3, hG]
    simp (disch := omega) only [i10, bcall_some, blet_eq, bput_eq, at_2 (RS.B h1), at_3 (RS.B h1), at_5 (RS.B h1), at_6 (RS.B h1), at_7 (RS.B h1), at_8 (RS.B h1), at_9 (RS.B h1), at_10 (RS.B h1), at_12 (RS.B h1), at_13 (RS.B h1), at_14 (RS.B h1), at_16 (RS.B h1), at_17 (RS.B h1), put_2 (RS.B h1), put_3 (RS.B h1), put_5 (RS.B h1), put_6 (RS.B h1), put_7 (RS.B h1), put_8 (RS.B h1), put_9 (RS.B h1), put_10 (RS.B h1), put_12 (RS.B h1), put_13 (RS.B h1), put_14 (RS.B h1), put_16 (RS.B h1), put_17 (RS.B h1), x_ofl, x_of, x_setsl, x_sets, x_ld, x_ldl, x_stt, x_stl, x_where, oN_al, oN_la, oN_lm, u2_ne, u2_same, u2_self, (RS.cb h1), (RS.cs h1), (RS.cc h1), (RS.ci h1), (Iv.cb hI1), (Iv.cs hI1), (Iv.cc hI1), (Iv.ci hI1), (RS.a2 h1), (RS.a3 h1), (RS.a5 h1), (RS.a6 h1), (RS.a7 h1), (RS.a8 h1), (RS.a9 h1), (RS.a10 h1), (RS.a12 h1), (RS.a13 h1), (RS.a14 h1), (RS.a16 h1), (RS.a17 h1), (RS.f4 h1), (RS.f5 h1), (RS.f6 h1), (RS.f7 h1), (RS.f8 h1), (RS.f9 h1), (RS.f10 h1), (RS.f11 h1), (RS.f12 h1), (RS.f13 h1), oN_leT, oN_leF, oN_ltT, oN_ltF, oN_leTl, oN_leFl, oN_ltTl, oN_ltFl, oN_lleT, oN_lleF, oN_lltT, oN_lltF, oN_m4, oN_nn, oN_nn2, mm_0, mm_s, oN_s1, oN_z1, m1_neg, m1_nn, m4_neg, i10, ↓reduceIte, if_true, if_false]
    exact ⟨_, _, (by first | rfl | trivial), (by first | rfl | trivial), h1, hI1, hM⟩) (by
    rintro n m i σ1 τ1 hi ⟨h1, hI1, hM⟩
    simp only [B_X10_makeOlder_3, hG]
    simp (disch := omega) only [imin_comm, bcall_some, blet_eq, bput_eq, at_2 (RS.B h1), at_3 (RS.B h1), at_5 (RS.B h1), at_6 (RS.B h1), at_7 (RS.B h1), at_8 (RS.B h1), at_9 (RS.B h1), at_10 (RS.B h1), at_12 (RS.B h1), at_13 (RS.B h1), at_14 (RS.B h1), at_16 (RS.B h1), at_17 (RS.B h1), put_2 (RS.B h1), put_3 (RS.B h1), put_5 (RS.B h1), put_6 (RS.B h1), put_7 (RS.B h1), put_8 (RS.B h1), put_9 (RS.B h1), put_10 (RS.B h1), put_12 (RS.B h1), put_13 (RS.B h1), put_14 (RS.B h1), put_16 (RS.B h1), put_17 (RS.B h1), x_ofl, x_of, x_setsl, x_sets, x_ld, x_ldl, x_stt, x_stl, x_where, oN_al, oN_la, oN_lm, u2_ne, u2_same, u2_self, (RS.cb h1), (RS.cs h1), (RS.cc h1), (RS.ci h1), (Iv.cb hI1), (Iv.cs hI1), (Iv.cc hI1), (Iv.ci hI1), (RS.a2 h1), (RS.a3 h1), (RS.a5 h1), (RS.a6 h1), (RS.a7 h1), (RS.a8 h1), (RS.a9 h1), (RS.a10 h1), (RS.a12 h1), (RS.a13 h1), (RS.a14 h1), (RS.a16 h1), (RS.a17 h1), (RS.f4 h1), (RS.f5 h1), (RS.f6 h1), (RS.f7 h1), (RS.f8 h1), (RS.f9 h1), (RS.f10 h1), (RS.f11 h1), (RS.f12 h1), (RS.f13 h1), oN_leT, oN_leF, oN_ltT, oN_ltF, oN_leTl, oN_leFl, oN_ltTl, oN_ltFl, oN_lleT, oN_lleF, oN_lltT, oN_lltF, oN_m4, oN_nn, oN_nn2, mm_0, mm_s, oN_s1, oN_z1, m1_neg, m1_nn, m4_neg, i10, ↓reduceIte, if_true, if_false]
    refine Or.inr ⟨_, _, rfl, rfl, rs_a3 h1 hI1 hi _, iv_ba hI1 hi ?_, hM.u (by omega) (by omega) (by omega)⟩
    obtain ⟨g, hg, e⟩ := hI1.ba i hi
    rw [e, oN_al, show (60 : Int32) = Int32.ofNat 60 from rfl, imin_nat (by omega) (by omega)]
    exact ⟨_, by omega, rfl⟩) nb 0 FU FU σ τ (by omega) (FU_lt (by omega)) (FU_lt (by omega)) ⟨h, hI, Mvx.refl _ _ _⟩
theorem st3 {σ τ : St} {b nb ns nc ni : Nat} (h : RS σ b (τ 249) nb ns nc ni) (hI : Iv (τ 249) nb ns nc ni) (x3 : Int32) : ∃ σ1 τ1, B_X7_passDay_82 σ b = some (σ1, 0) ∧ B_X11_passes_275 τ 248 x3 = some (τ1, x3) ∧ RS σ1 b (τ1 249) nb ns nc ni ∧ Iv (τ1 249) nb ns nc ni ∧ Mvx σ τ σ1 τ1 b := by
  have r1 := rs_f4 h hI (τ 249 0 + 1)
  have hI1 := iv_irr (r1 := upd (τ 249) 0 (τ 249 0 + 1)) hI (fun j hj hj2 => by rw [upd_ne (by omega)])
  have r2 := rs_f7 r1 hI1 20
  have hI2 := iv_tu hI1 (v := 20) ⟨20, by omega, rfl⟩
  have hM : Mvx σ τ (u2 (u2 σ b 4 (τ 249 0 + 1)) b 7 20) (u2 (u2 τ 249 0 (τ 249 0 + 1)) 249 7 20) b := ((Mvx.refl σ τ b).u (by omega) (by omega) (by omega)).u (by omega) (by omega) (by omega)
  unfold B_X7_passDay_82 B_X11_passes_275
  simp (disch := omega) only [i10, bcall_some, blet_eq, bput_eq, at_2 (RS.B h), at_3 (RS.B h), at_5 (RS.B h), at_6 (RS.B h), at_7 (RS.B h), at_8 (RS.B h), at_9 (RS.B h), at_10 (RS.B h), at_12 (RS.B h), at_13 (RS.B h), at_14 (RS.B h), at_16 (RS.B h), at_17 (RS.B h), put_2 (RS.B h), put_3 (RS.B h), put_5 (RS.B h), put_6 (RS.B h), put_7 (RS.B h), put_8 (RS.B h), put_9 (RS.B h), put_10 (RS.B h), put_12 (RS.B h), put_13 (RS.B h), put_14 (RS.B h), put_16 (RS.B h), put_17 (RS.B h), x_ofl, x_of, x_setsl, x_sets, x_ld, x_ldl, x_stt, x_stl, x_where, oN_al, oN_la, oN_lm, u2_ne, u2_same, u2_self, (RS.cb h), (RS.cs h), (RS.cc h), (RS.ci h), (Iv.cb hI), (Iv.cs hI), (Iv.cc hI), (Iv.ci hI), (RS.a2 h), (RS.a3 h), (RS.a5 h), (RS.a6 h), (RS.a7 h), (RS.a8 h), (RS.a9 h), (RS.a10 h), (RS.a12 h), (RS.a13 h), (RS.a14 h), (RS.a16 h), (RS.a17 h), (RS.f4 h), (RS.f5 h), (RS.f6 h), (RS.f7 h), (RS.f8 h), (RS.f9 h), (RS.f10 h), (RS.f11 h), (RS.f12 h), (RS.f13 h), oN_leT, oN_leF, oN_ltT, oN_ltF, oN_leTl, oN_leFl, oN_ltTl, oN_ltFl, oN_lleT, oN_lleF, oN_lltT, oN_lltF, oN_m4, oN_nn, oN_nn2, mm_0, mm_s, oN_s1, oN_z1, m1_neg, m1_nn, m4_neg, i10, ↓reduceIte, if_true, if_false]
  generalize hA : u2 (u2 σ b 4 (τ 249 0 + 1)) b 7 20 = A at *
  generalize hB : u2 (u2 τ 249 0 (τ 249 0 + 1)) 249 7 20 = B at *
  have r2 : RS A b (B 249) nb ns nc ni := by rw [← hB]; exact r2
  have hI2 : Iv (B 249) nb ns nc ni := by rw [← hB]; exact hI2
  by_cases c : τ 249 0 + 1 - (τ 249 0 + 1) / 7 * 7 = 0
  · rw [if_pos c, if_pos c]
    obtain ⟨σ3, τ3, e1, e2, r3, hI3, hM3⟩ := mo_ages r2 hI2 (fun τ1 => B_X11_passes_364 FU τ1 248 x3 0) (fun n τ1 x => B_X11_passes_309 n τ1 248 x3 x) (fun n τ1 x => by simp only [B_X11_passes_309])
    obtain ⟨σ4, τ4, e3, e4, r4, hI4, hM4⟩ := mo_weeks r3 hI3 x3
    refine ⟨σ4, τ4, ?_, ?_, r4, hI4, (hM.trans hM3).trans hM4⟩
    · unfold M_X0_getOlder M_X9_makePolesOlder M_X10_makeOlder
      rw [r2.cb, e1]
      simp only [bcall_some]
      rw [r3.cs, e3]
      simp only [bcall_some]
    · exact e2.trans e4
  · rw [if_neg c, if_neg c]
    exact ⟨A, B, rfl, rfl, r2, hI2, hM⟩
