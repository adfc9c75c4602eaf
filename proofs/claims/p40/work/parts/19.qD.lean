theorem tie_at (σ : St) {t : Nat} (h : t < 10) : M_X9_tieOf σ 9 (Int32.ofNat t) = some (σ, σ 12 t) := by
  unfold M_X9_tieOf
  rw [at_nat (show t < ln (9 + 3) by rw [show ln (9 + 3) = 10 from by decide +kernel]; exact h), bcall_some]
theorem pbt {σ : St} {ns s : Nat} (hs : σ 9 6 = Int32.ofNat ns) (h10 : ns ≤ 10) (h : s < ns) : ∀ (d j cnt n : Nat), j + d = ns → d < n → cnt + (if s < j then 1 else 0) ≤ j → ∃ v, B_X9_placeByTieOf_4 n σ 9 (Int32.ofNat s) (Int32.ofNat cnt) (Int32.ofNat j) = some (σ, Int32.ofNat v) ∧ v < ns := by
  intro d
  induction d with
  | zero =>
    intro j cnt n hj hn hi
    obtain ⟨n, rfl⟩ : ∃ k, n = k + 1 := ⟨n - 1, by omega⟩
    simp only [B_X9_placeByTieOf_4]
    rw [hs, if_pos ((ol (by omega) (by omega)).mpr (by omega))]
    rw [if_pos (by omega)] at hi
    exact ⟨cnt, rfl, by omega⟩
  | succ d ih =>
    intro j cnt n hj hn hi
    obtain ⟨n, rfl⟩ : ∃ k, n = k + 1 := ⟨n - 1, by omega⟩
    have e0 : Int32.ofNat cnt + 0 = Int32.ofNat cnt := Int32.add_zero _
    have e1 : Int32.ofNat cnt + 1 = Int32.ofNat (cnt + 1) := oN_al cnt 1
    have e2 : Int32.ofNat j + 1 = Int32.ofNat (j + 1) := oN_al j 1
    have t1 := tie_at σ (t := j) (by omega)
    have t2 := tie_at σ (t := s) (by omega)
    simp only [B_X9_placeByTieOf_4, blet, t1, t2, bcall_some]
    rw [hs, if_neg (fun q => by have := (ol (by omega) (by omega)).mp q; omega)]
    by_cases c1 : σ 12 j = σ 12 s
    · rw [if_pos c1]
      by_cases c2 : j ≤ s
      · rw [if_pos ((ol (by omega) (by omega)).mpr c2), if_neg (by rw [c1]; exact Int32.lt_irrefl), if_pos trivial, e0, e2]
        refine ih (j + 1) cnt n (by omega) (by omega) ?_
        rw [if_neg (by omega)] at hi
        split <;> omega
      · rw [if_neg (fun q => c2 ((ol (by omega) (by omega)).mp q)), if_neg (by rw [c1]; exact Int32.lt_irrefl), if_neg (by decide), e1, e2]
        refine ih (j + 1) (cnt + 1) n (by omega) (by omega) ?_
        rw [if_pos (by omega)] at hi
        rw [if_pos (by omega)]
        omega
    · have hjs : j ≠ s := fun q => c1 (by rw [q])
      rw [if_neg c1]
      by_cases c3 : σ 12 s < σ 12 j
      · rw [if_pos c3, e1, e2]
        refine ih (j + 1) (cnt + 1) n (by omega) (by omega) ?_
        by_cases c4 : s < j
        · rw [if_pos c4] at hi
          rw [if_pos (by omega)]
          omega
        · rw [if_neg c4] at hi
          rw [if_neg (by omega)]
          omega
      · rw [if_neg c3, if_pos trivial, e0, e2]
        refine ih (j + 1) cnt n (by omega) (by omega) ?_
        by_cases c4 : s < j
        · rw [if_pos c4] at hi
          rw [if_pos (by omega)]
          omega
        · rw [if_neg c4] at hi
          rw [if_neg (by omega)]
          omega
theorem old_at {σ : St} {r : Nat → Int32} {nb ns nc ni : Nat} (h : Cz r σ) (i : Iv r nb ns nc ni) {p : Int32} (hp : p = Int32.ofNat ns ∨ p = -1) : M_X10_oldest σ 0 p = some (σ, -1) := by
  have hs : σ 9 6 = Int32.ofNat ns := (h.2.at i).cs
  have h10 := i.hs
  have key : ∀ (d j n : Nat), j + d = ns → d < n → B_X9_atPlaceByTie_2 n σ 9 p (Int32.ofNat j) = some (σ, -1) := by
    intro d
    induction d with
    | zero =>
      intro j n hj hn
      obtain ⟨n, rfl⟩ : ∃ k, n = k + 1 := ⟨n - 1, by omega⟩
      simp only [B_X9_atPlaceByTie_2]
      rw [hs, if_pos ((ol (by omega) (by omega)).mpr (by omega))]
    | succ d ih =>
      intro j n hj hn
      obtain ⟨n, rfl⟩ : ∃ k, n = k + 1 := ⟨n - 1, by omega⟩
      obtain ⟨v, e, hv⟩ := pbt (s := j) hs h10 (by omega) ns 0 0 FU (by omega) (FU_lt (by omega)) (by rw [if_neg (by omega)]; exact Nat.le_refl _)
      have e3 : M_X9_placeByTieOf σ 9 (Int32.ofNat j) = some (σ, Int32.ofNat v) := e
      have ne : ¬ Int32.ofNat v = p := fun q => by
        rcases hp with rfl | rfl
        · have := (oN_eq (by omega) (by omega)).mp q
          omega
        · have q2 := q.symm
          rw [m1_ne (a := v) (by omega)] at q2
          exact q2.elim
      simp only [B_X9_atPlaceByTie_2, blet]
      rw [hs, if_neg (fun q => by have := (ol (by omega) (by omega)).mp q; omega), e3, bcall_some, if_neg ne, oN_al]
      exact ih (j + 1) n (by omega) (by omega)
  unfold M_X10_oldest M_X9_atPlaceByTie
  simp only [Nat.zero_add, Nat.reduceAdd]
  rw [show (0 : Int32) = Int32.ofNat 0 from rfl, key ns 0 FU (by omega) (FU_lt (by omega)), bcall_some]
theorem FU_s : FU = 999 + 1 := rfl
theorem Jq.kp {σ0 σ σ1 : St} {r : Nat → Int32} {u nx n : Nat} {L : Nat → Nat → Int32} {sv : Option (Nat → Int32)} {ft : Int32} (h : Jq σ0 r u nx L sv n ft σ) (k : Kp σ σ1) : Jq σ0 r u nx L sv n ft σ1 := ⟨k.cs h.1, fun q h1 h2 => by rw [k.1 q (by omega)]; exact h.2 q h1 h2⟩
theorem rfin {σ σ1 : St} {x v : Int32} (e : some (σ, x) = some (σ, v)) : some (σ1, x) = some (σ1, v) := by rw [(Prod.mk.inj (Option.some.inj e)).2]
theorem reason_cg {σ σ1 : St} {p z v : Int32} (e : M_X10_reason σ 0 p z = some (σ, v)) (h2 : σ1 2 = σ 2) (h3 : σ1 3 = σ 3) (h4 : σ1 4 = σ 4) : M_X10_reason σ1 0 p z = some (σ1, v) := by
  unfold M_X10_reason M_X6_tell M_X10_at bald at *
  simp only [Nat.zero_add, Nat.reduceAdd] at *
  rw [h2, h3, h4]
  by_cases c1 : 0 ≤ p
  · rw [if_pos c1] at e ⊢
    by_cases c2 : p < σ 2 2
    · rw [if_pos c2] at e ⊢
      by_cases c3 : z = 0
      · rw [if_pos c3] at e ⊢
        by_cases c4 : p < 0
        · rw [if_pos c4, bcall_some, bcall_some] at e ⊢
          exact rfin e
        · rw [if_neg c4] at e ⊢
          by_cases c5 : Int32.ofNat (ln 3) ≤ p
          · rw [if_pos c5, bcall_some, bcall_some] at e ⊢
            exact rfin e
          · rw [if_neg c5] at e ⊢
            by_cases c6 : 0 ≤ p.toInt ∧ p.toInt < ln 3
            · rw [if_pos c6, bcall_some, bcall_some] at e ⊢
              exact rfin e
            · rw [if_neg c6] at e
              cases e
      · rw [if_neg c3] at e ⊢
        by_cases c4 : p < 0
        · rw [if_pos c4, bcall_some, bcall_some] at e ⊢
          exact rfin e
        · rw [if_neg c4] at e ⊢
          by_cases c5 : Int32.ofNat (ln 4) ≤ p
          · rw [if_pos c5, bcall_some, bcall_some] at e ⊢
            exact rfin e
          · rw [if_neg c5] at e ⊢
            by_cases c6 : 0 ≤ p.toInt ∧ p.toInt < ln 4
            · rw [if_pos c6, bcall_some, bcall_some] at e ⊢
              exact rfin e
            · rw [if_neg c6] at e
              cases e
    · rw [if_neg c2, bcall_some] at e ⊢
      exact rfin e
  · rw [if_neg c1, bcall_some] at e ⊢
    exact rfin e
theorem reason_ex {σ τ : St} (h : Co σ τ) (p : Int32) {z : Int32} (hz : okZ z = true) : ∃ v, M_X10_reason σ 0 p z = some (σ, v) := by
  obtain ⟨d, hd, e1, e2, e3⟩ := h.re
  unfold M_X10_reason M_X6_tell
  simp only [Nat.zero_add, Nat.reduceAdd]
  rw [e1]
  by_cases c : 0 ≤ p
  · rw [if_pos c]
    by_cases c2 : Int32.ofNat d ≤ p
    · rw [if_neg (Int32.not_lt.mpr c2)]
      exact ⟨_, rfl⟩
    · rw [if_pos (Int32.not_le.mp c2)]
      obtain ⟨s, hs, rfl⟩ := oN_of_range (by omega) (Int32.not_lt.mpr c) c2
      have l3 : ln 3 = 3 := by decide +kernel
      have l4 : ln 4 = 3 := by decide +kernel
      rcases z_ok hz with rfl | rfl
      · rw [if_pos rfl, at_nat (by omega)]
        exact ⟨_, rfl⟩
      · rw [if_neg (by decide), at_nat (by omega)]
        exact ⟨_, rfl⟩
  · rw [if_neg c]
    exact ⟨_, rfl⟩
/-- a text whose first order is none -/
theorem x5s (n : Nat) (σ : St) (k a0 : Nat) (x2 : Int32) : B_X5_read_12 (n + 1) σ k a0 x2 = if (20 : Int32) ≤ x2 then some (σ, σ k 3) else (bcall (M_X5_readOrder σ k a0) fun σ3 r4 => if r4 = 0 then some (σ3, σ3 k 3) else (bput σ3 k 2 ((σ3 k 2) + (1 : Int32)) fun σ5 => if (σ5 k 3) < (σ5 a0 1) then (bcall (M_X5_readSign σ5 k a0 (59 : Int32)) fun σ6 r7 => if r7 = 0 then some (σ6, σ6 k 3) else (blet (x2 + (1 : Int32)) fun v8 => B_X5_read_12 n σ6 k a0 v8)) else some (σ5, (-4 : Int32)))) := rfl
theorem Cs.bad {σ : St} {r : Nat → Int32} {u nx n : Nat} {L : Nat → Nat → Int32} {sv : Option (Nat → Int32)} {ft : Int32} (h : Cs σ r u nx L sv n ft) (hn : n ≤ 60) {c : Nat → Nat} (ht : ∀ j, j < n → σ 242 j = Int32.ofNat (c j)) (hc : ∀ j, j < n → 32 ≤ c j ∧ c j ≤ 126) (h0 : odR c n 0 = 0) (hp : odP c n 0 ≤ n) : ∃ σ1, M_X10_script σ 0 = some (σ1, -2) ∧ Cs σ1 r u nx L sv 0 (Int32.ofNat (odP c n 0)) ∧ ∀ k, 2 ≤ k → k < 5 → σ1 k = σ k := by
  obtain ⟨σ1, v, ft1, e, hh⟩ := h.script
  have T : Tc c n (u2 (u2 σ 245 2 0) 245 3 0) := ⟨by rw [u2_ne (by decide), u2_ne (by decide)]; exact h.inp, hn, hc, fun j hj => by rw [u2_ne (by decide), u2_ne (by decide)]; exact ht j hj⟩
  obtain ⟨σ3, o1, o2, o3, -, -, -, o7⟩ := order_c (k := 0) (p := 0) (by decide) T (Nat.zero_le _) u2_self (by rw [u2_same (by decide), u2_self]; rfl)
  have ev : ∃ σ9, M_X10_script σ 0 = some (σ9, -2) ∧ σ9 0 9 = Int32.ofNat (odP c n 0) := by
    refine ⟨u2 (u2 σ3 241 1 0) 0 9 (Int32.ofNat (odP c n 0)), ?_, u2_self⟩
    unfold M_X10_script M_X5_read M_X4_makeEmpty
    simp only [Nat.zero_add]
    rw [bput_eq, bput_eq, FU_s, x5s]
    rw [if_neg (show ¬ (20 : Int32) ≤ 0 from by decide), bcall_of o1, h0, if_pos (show Int32.ofNat 0 = 0 from rfl), bcall_some, bput_eq, bcall_some, o2, if_neg (fun q => (oN_m4 (a := odP c n 0) (by omega)).mp q), bput_eq]
  obtain ⟨σ9, e9, f9⟩ := ev
  rw [e] at e9
  obtain ⟨rfl, rfl⟩ := Prod.mk.injEq _ _ _ _ ▸ Option.some.inj e9
  rcases hh with ⟨-, hc1, hr⟩ | ⟨hx, -⟩
  · have hf := hc1.flt
    rw [f9] at hf
    exact ⟨σ1, e, by rw [hf]; exact hc1, hr rfl⟩
  · exact absurd hx (by decide)
theorem rd_13 {σ : St} {r : Nat → Int32} {u nx : Nat} {L : Nat → Nat → Int32} {sv : Option (Nat → Int32)} {ft : Int32} (h : Cs σ r u nx L sv 0 ft) : ∃ σ1, M_L_reads σ 0 13 = some (σ1, -2) ∧ Cs σ1 r u nx L sv 0 0 ∧ ∀ k, 2 ≤ k → k < 5 → σ1 k = σ k := by
  unfold M_L_reads
  refine rd_ok (z := 13) (c := fun _ => 122) (by decide) (by decide +kernel) σ (P := fun x => ∃ σ1, x = some (σ1, -2) ∧ Cs σ1 r u nx L sv 0 0 ∧ ∀ k, 2 ≤ k → k < 5 → σ1 k = σ k) (fun σ1 h1 t1 f1 => ?_) 1 0 FU σ (by decide) (FU_lt (by decide)) h (fun i hi => by omega) (fun _ _ _ => rfl)
  have l1 : lnS 13 = 1 := by decide
  rw [l1] at h1 t1
  obtain ⟨σ2, e, hc, hr⟩ := h1.bad (by decide) t1 (fun j _ => by decide) (by decide +kernel) (by decide +kernel)
  exact ⟨σ2, e, hc, fun k h2 h3 => by rw [hr k h2 h3, f1 k (by omega) (by omega)]⟩
theorem old_no {σ0 σ : St} {r : Nat → Int32} {u nx n : Nat} {L : Nat → Nat → Int32} {sv : Option (Nat → Int32)} {ft : Int32} {nb ns nc ni : Nat} (h : Jq σ0 r u nx L sv n ft σ) (i : Iv r nb ns nc ni) {p : Int32} (hp : p = Int32.ofNat ns ∨ p = -1) : ∃ σ1, M_X10_oldest σ 0 p = some (σ1, -1) ∧ Jq σ0 r u nx L sv n ft σ1 := ⟨σ, old_at h.1.cz i hp, h⟩
theorem wr_no {σ0 σ : St} {r : Nat → Int32} {u nx n : Nat} {L : Nat → Nat → Int32} {sv : Option (Nat → Int32)} {ft : Int32} (h : Jq σ0 r u nx L sv n ft σ) {p : Int32} (hp : p = -1 ∨ p = 180) : ∃ σ1, M_X10_written σ 0 p = some (σ1, -1) ∧ Jq σ0 r u nx L sv n ft σ1 := by
  refine ⟨σ, ?_, h⟩
  obtain ⟨τ, hC⟩ := h.1.co
  obtain ⟨m, hm, e1, -, -⟩ := hC.lin
  unfold M_X10_written
  simp only [Nat.zero_add]
  rw [e1]
  rcases hp with rfl | rfl
  · rw [if_pos (by decide)]
  · rw [if_neg (by decide), if_neg (show ¬ (180 : Int32) < Int32.ofNat m from fun q => absurd q (Int32.not_lt.mpr ((ol (j := 180) (by omega) (by omega)).mpr hm)))]
theorem ap_no {σ0 σ : St} {r : Nat → Int32} {u nx n : Nat} {L : Nat → Nat → Int32} {sv : Option (Nat → Int32)} {ft : Int32} (h : Jq σ0 r u nx L sv n ft σ) {p : Int32} (hp : ¬ ((32 : Int32) ≤ p ∧ p ≤ 126)) : ∃ σ1, M_X10_append σ 0 p = some (σ1, -2) ∧ Jq σ0 r u nx L sv n ft σ1 := by
  refine ⟨σ, ?_, h⟩
  unfold M_X10_append
  rcases in_pair (σ := σ) (τ := σ) p 32 126 with ⟨a1, -, -⟩ | ⟨-, -, a3⟩
  · rw [bcall_of a1, if_pos rfl]
  · exact absurd a3 hp
set_option maxHeartbeats 4000000 in
theorem refused_to {σ : St} {r : Nat → Int32} {u nx n : Nat} {L : Nat → Nat → Int32} {sv : Option (Nat → Int32)} {ft : Int32} {nb ns nc ni : Nat} (i : Iv r nb ns nc ni) (hb : 0 < nb) (hs : 0 < ns) (hc : 0 < nc) (hi : 0 < ni) (h : Cs σ r u nx L sv n ft) : ∃ v had σ1, (∀ σ2, Cz r σ2 → ∃ σ3, M_L_asks σ2 0 = some (σ3, v) ∧ Kp σ2 σ3) ∧ M_X10_reason σ 0 0 0 = some (σ, had) ∧ Jq σ r u nx L sv n ft σ1 ∧ M_L_refused σ 0 = B_L_refused_677 σ1 0 v had 1 := by
  have h0 : Jq σ r u nx L sv n ft σ := ⟨h, fun _ _ _ => rfl⟩
  obtain ⟨v, hv⟩ := asks_ans i
  obtain ⟨s1, e1, k1⟩ := hv σ h.cz
  have h1 := h0.kp k1
  obtain ⟨τ, hC⟩ := h.co
  obtain ⟨had, hd⟩ := reason_ex hC 0 (z := 0) rfl
  have hd1 := reason_cg hd (h1.2 2 (by decide) (by decide)) (h1.2 3 (by decide) (by decide)) (h1.2 4 (by decide) (by decide))
  obtain ⟨s2, e2, h2⟩ := h1.c (Z_bundle (tzc h1.1.cz) h1.1.hh (tz4 r) (0 : Int32) (0 : Int32)) (fun τ hC => (Q_bundle hC (0 : Int32) (0 : Int32)).co) (by decide) (V_bundle_0_0 i hb hs hc hi)
  obtain ⟨s3, e3, h3⟩ := h2.c (Z_bundle (tzc h2.1.cz) h2.1.hh (tz4 r) (31 : Int32) (0 : Int32)) (fun τ hC => (Q_bundle hC (31 : Int32) (0 : Int32)).co) (by decide) (V_bundle_31_0 i hb hs hc hi)
  obtain ⟨s4, e4, h4⟩ := h3.c (Z_bundle (tzc h3.1.cz) h3.1.hh (tz4 r) (1 : Int32) (-1 : Int32)) (fun τ hC => (Q_bundle hC (1 : Int32) (-1 : Int32)).co) (by decide) (V_bundle_1_m1 i hb hs hc hi)
  obtain ⟨s5, e5, h5⟩ := h4.c (Z_bundle (tzc h4.1.cz) h4.1.hh (tz4 r) (1 : Int32) (61 : Int32)) (fun τ hC => (Q_bundle hC (1 : Int32) (61 : Int32)).co) (by decide) (V_bundle_1_61 i hb hs hc hi)
  obtain ⟨s6, e6, h6⟩ := h5.c (Z_strips (tzc h5.1.cz) h5.1.hh (tz4 r) (0 : Int32)) (fun τ hC => (Q_strips hC (0 : Int32)).co) (by decide) (V_strips_0 i hb hs hc hi)
  obtain ⟨s7, e7, h7⟩ := h6.c (Z_strips (tzc h6.1.cz) h6.1.hh (tz4 r) (100 : Int32)) (fun τ hC => (Q_strips hC (100 : Int32)).co) (by decide) (V_strips_100 i hb hs hc hi)
  obtain ⟨s8, e8, h8⟩ := h7.c (Z_build (tzc h7.1.cz) h7.1.hh (tz4 r) (Int32.ofNat nb) (0 : Int32) (99 : Int32)) (fun τ hC => (Q_build hC (Int32.ofNat nb) (0 : Int32) (99 : Int32)).co) (by decide) (V_build_nb_0_99 i hb hs hc hi)
  obtain ⟨s9, e9, h9⟩ := h8.c (Z_build (tzc h8.1.cz) h8.1.hh (tz4 r) (-1 : Int32) (4 : Int32) (1 : Int32)) (fun τ hC => (Q_build hC (-1 : Int32) (4 : Int32) (1 : Int32)).co) (by decide) (V_build_m1_4_1 i hb hs hc hi)
  obtain ⟨s10, e10, h10⟩ := h9.c (Z_build (tzc h9.1.cz) h9.1.hh (tz4 r) (0 : Int32) (3 : Int32) (1 : Int32)) (fun τ hC => (Q_build hC (0 : Int32) (3 : Int32) (1 : Int32)).co) (by decide) (V_build_0_3_1 i hb hs hc hi)
  obtain ⟨s11, e11, h11⟩ := h10.c (Z_build (tzc h10.1.cz) h10.1.hh (tz4 r) (0 : Int32) (9 : Int32) (1 : Int32)) (fun τ hC => (Q_build hC (0 : Int32) (9 : Int32) (1 : Int32)).co) (by decide) (V_build_0_9_1 i hb hs hc hi)
  obtain ⟨s12, e12, h12⟩ := h11.c (Z_build (tzc h11.1.cz) h11.1.hh (tz4 r) (0 : Int32) (4 : Int32) (-1 : Int32)) (fun τ hC => (Q_build hC (0 : Int32) (4 : Int32) (-1 : Int32)).co) (by decide) (V_build_0_4_m1 i hb hs hc hi)
  obtain ⟨s13, e13, h13⟩ := h12.c (Z_build (tzc h12.1.cz) h12.1.hh (tz4 r) (0 : Int32) (4 : Int32) (41 : Int32)) (fun τ hC => (Q_build hC (0 : Int32) (4 : Int32) (41 : Int32)).co) (by decide) (V_build_0_4_41 i hb hs hc hi)
  obtain ⟨s14, e14, h14⟩ := h13.c (Z_tie (tzc h13.1.cz) h13.1.hh (tz4 r) (Int32.ofNat ns)) (fun τ hC => (Q_tie hC (Int32.ofNat ns)).co) (by decide) (V_tie_ns i hb hs hc hi)
  obtain ⟨s15, e15, h15⟩ := h14.c (Z_tie (tzc h14.1.cz) h14.1.hh (tz4 r) (-1 : Int32)) (fun τ hC => (Q_tie hC (-1 : Int32)).co) (by decide) (V_tie_m1 i hb hs hc hi)
  obtain ⟨s16, e16, h16⟩ := h15.c (Z_crew (tzc h15.1.cz) h15.1.hh (tz4 r) (0 : Int32)) (fun τ hC => (Q_crew hC (0 : Int32)).co) (by decide) (V_crew_0 i hb hs hc hi)
  obtain ⟨s17, e17, h17⟩ := h16.c (Z_crew (tzc h16.1.cz) h16.1.hh (tz4 r) (5 : Int32)) (fun τ hC => (Q_crew hC (5 : Int32)).co) (by decide) (V_crew_5 i hb hs hc hi)
  obtain ⟨s18, e18, h18⟩ := h17.c (Z_up (tzc h17.1.cz) h17.1.hh (tz4 r) (Int32.ofNat nc) (0 : Int32)) (fun τ hC => (Q_up hC (Int32.ofNat nc) (0 : Int32)).co) (by decide) (V_up_nc_0 i hb hs hc hi)
  obtain ⟨s19, e19, h19⟩ := h18.c (Z_up (tzc h18.1.cz) h18.1.hh (tz4 r) (0 : Int32) (Int32.ofNat ns)) (fun τ hC => (Q_up hC (0 : Int32) (Int32.ofNat ns)).co) (by decide) (V_up_0_ns i hb hs hc hi)
  obtain ⟨s20, e20, h20⟩ := h19.c (Z_up (tzc h19.1.cz) h19.1.hh (tz4 r) (-1 : Int32) (-1 : Int32)) (fun τ hC => (Q_up hC (-1 : Int32) (-1 : Int32)).co) (by decide) (V_up_m1_m1 i hb hs hc hi)
  obtain ⟨s21, e21, h21⟩ := h20.c (Z_down (tzc h20.1.cz) h20.1.hh (tz4 r) (Int32.ofNat nc)) (fun τ hC => (Q_down hC (Int32.ofNat nc)).co) (by decide) (V_down_nc i hb hs hc hi)
  obtain ⟨s22, e22, h22⟩ := h21.c (Z_lift (tzc h21.1.cz) h21.1.hh (tz4 r) (Int32.ofNat ns) (0 : Int32)) (fun τ hC => (Q_lift hC (Int32.ofNat ns) (0 : Int32)).co) (by decide) (V_lift_ns_0 i hb hs hc hi)
  obtain ⟨s23, e23, h23⟩ := h22.c (Z_lift (tzc h22.1.cz) h22.1.hh (tz4 r) (0 : Int32) (0 : Int32)) (fun τ hC => (Q_lift hC (0 : Int32) (0 : Int32)).co) (by decide) (V_lift_0_0 i hb hs hc hi)
  obtain ⟨s24, e24, h24⟩ := h23.c (Z_lift (tzc h23.1.cz) h23.1.hh (tz4 r) (0 : Int32) (10 : Int32)) (fun τ hC => (Q_lift hC (0 : Int32) (10 : Int32)).co) (by decide) (V_lift_0_10 i hb hs hc hi)
  obtain ⟨s25, e25, h25⟩ := h24.c (Z_signal (tzc h24.1.cz) h24.1.hh (tz4 r) (-1 : Int32)) (fun τ hC => (Q_signal hC (-1 : Int32)).co) (by decide) (V_signal_m1 i hb hs hc hi)
  obtain ⟨s26, e26, h26⟩ := h25.c (Z_signal (tzc h25.1.cz) h25.1.hh (tz4 r) (11 : Int32)) (fun τ hC => (Q_signal hC (11 : Int32)).co) (by decide) (V_signal_11 i hb hs hc hi)
  obtain ⟨s27, e27, h27⟩ := h26.c (Z_inspector (tzc h26.1.cz) h26.1.hh (tz4 r) (0 : Int32)) (fun τ hC => (Q_inspector hC (0 : Int32)).co) (by decide) (V_inspector_0 i hb hs hc hi)
  obtain ⟨s28, e28, h28⟩ := h27.c (Z_inspector (tzc h27.1.cz) h27.1.hh (tz4 r) (10 : Int32)) (fun τ hC => (Q_inspector hC (10 : Int32)).co) (by decide) (V_inspector_10 i hb hs hc hi)
  obtain ⟨s29, e29, h29⟩ := h28.c (Z_inspect (tzc h28.1.cz) h28.1.hh (tz4 r) (Int32.ofNat ni) (0 : Int32)) (fun τ hC => (Q_inspect hC (Int32.ofNat ni) (0 : Int32)).co) (by decide) (V_inspect_ni_0 i hb hs hc hi)
  obtain ⟨s30, e30, h30⟩ := h29.c (Z_inspect (tzc h29.1.cz) h29.1.hh (tz4 r) (0 : Int32) (Int32.ofNat ns)) (fun τ hC => (Q_inspect hC (0 : Int32) (Int32.ofNat ns)).co) (by decide) (V_inspect_0_ns i hb hs hc hi)
  obtain ⟨s31, e31, h31⟩ := h30.c (Z_day (tzc h30.1.cz) h30.1.hh (tz4 r) (0 : Int32)) (fun τ hC => (Q_day hC (0 : Int32)).co) (by decide) (V_day_0 i hb hs hc hi)
  obtain ⟨s32, e32, h32⟩ := h31.c (Z_day (tzc h31.1.cz) h31.1.hh (tz4 r) (31 : Int32)) (fun τ hC => (Q_day hC (31 : Int32)).co) (by decide) (V_day_31 i hb hs hc hi)
  obtain ⟨s33, e33, h33⟩ := h32.q (Z_bundleOf (tzc h32.1.cz) (Int32.ofNat nb) (z := (1 : Int32)) (by decide)) (fun τ hC => (Q_bundleOf hC (Int32.ofNat nb) (z := (1 : Int32)) (by decide)).co) (V_bundleOf_nb_1 i hb hs hc hi)
  obtain ⟨s34, e34, h34⟩ := h33.q (Z_bundleOf (tzc h33.1.cz) (-1 : Int32) (z := (0 : Int32)) (by decide)) (fun τ hC => (Q_bundleOf hC (-1 : Int32) (z := (0 : Int32)) (by decide)).co) (V_bundleOf_m1_0 i hb hs hc hi)
  obtain ⟨s35, e35, h35⟩ := h34.q (Z_storeyOf (tzc h34.1.cz) (Int32.ofNat ns) (9 : Int32)) (fun τ hC => (Q_storeyOf hC (Int32.ofNat ns) (9 : Int32)).co) (V_storeyOf_ns_9 i hb hs hc hi)
  obtain ⟨s36, e36, h36⟩ := h35.q (Z_storeyOf (tzc h35.1.cz) (0 : Int32) (7 : Int32)) (fun τ hC => (Q_storeyOf hC (0 : Int32) (7 : Int32)).co) (V_storeyOf_0_7 i hb hs hc hi)
  obtain ⟨s37, e37, h37⟩ := h36.q (Z_storeyOf (tzc h36.1.cz) (0 : Int32) (-1 : Int32)) (fun τ hC => (Q_storeyOf hC (0 : Int32) (-1 : Int32)).co) (V_storeyOf_0_m1 i hb hs hc hi)
  obtain ⟨s38, e38, h38⟩ := h37.q (Z_strength (tzc h37.1.cz) (Int32.ofNat ns) (z := (1 : Int32)) (by decide)) (fun τ hC => (Q_strength hC (Int32.ofNat ns) (z := (1 : Int32)) (by decide)).co) (V_strength_ns_1 i hb hs hc hi)
  obtain ⟨s39, e39, h39⟩ := h38.q (Z_strength (tzc h38.1.cz) (-1 : Int32) (z := (0 : Int32)) (by decide)) (fun τ hC => (Q_strength hC (-1 : Int32) (z := (0 : Int32)) (by decide)).co) (V_strength_m1_0 i hb hs hc hi)
  obtain ⟨s40, e40, h40⟩ := old_no h39 i (Or.inl rfl)
  obtain ⟨s41, e41, h41⟩ := old_no h40 i (Or.inr rfl)
  obtain ⟨s42, e42, h42⟩ := h41.q (Z_crewOf (tzc h41.1.cz) (Int32.ofNat nc) (9 : Int32)) (fun τ hC => (Q_crewOf hC (Int32.ofNat nc) (9 : Int32)).co) (V_crewOf_nc_9 i hb hs hc hi)
  obtain ⟨s43, e43, h43⟩ := h42.q (Z_crewOf (tzc h42.1.cz) (0 : Int32) (4 : Int32)) (fun τ hC => (Q_crewOf hC (0 : Int32) (4 : Int32)).co) (V_crewOf_0_4 i hb hs hc hi)
  obtain ⟨s44, e44, h44⟩ := h43.q (Z_crewOf (tzc h43.1.cz) (0 : Int32) (-1 : Int32)) (fun τ hC => (Q_crewOf hC (0 : Int32) (-1 : Int32)).co) (V_crewOf_0_m1 i hb hs hc hi)
  obtain ⟨s45, e45, h45⟩ := h44.q (Z_inspectorOf (tzc h44.1.cz) (Int32.ofNat ni) (9 : Int32)) (fun τ hC => (Q_inspectorOf hC (Int32.ofNat ni) (9 : Int32)).co) (V_inspectorOf_ni_9 i hb hs hc hi)
  obtain ⟨s46, e46, h46⟩ := h45.q (Z_inspectorOf (tzc h45.1.cz) (0 : Int32) (3 : Int32)) (fun τ hC => (Q_inspectorOf hC (0 : Int32) (3 : Int32)).co) (V_inspectorOf_0_3 i hb hs hc hi)
  obtain ⟨s47, e47, h47⟩ := h46.q (Z_inspectorOf (tzc h46.1.cz) (0 : Int32) (-1 : Int32)) (fun τ hC => (Q_inspectorOf hC (0 : Int32) (-1 : Int32)).co) (V_inspectorOf_0_m1 i hb hs hc hi)
  obtain ⟨s48, e48, h48⟩ := h47.q (Z_wouldFall (tzc h47.1.cz) (7 : Int32)) (fun τ hC => (Q_wouldFall hC (7 : Int32)).co) (V_wouldFall_7 i hb hs hc hi)
  obtain ⟨s49, e49, h49⟩ := h48.q (Z_wouldFall (tzc h48.1.cz) (11 : Int32)) (fun τ hC => (Q_wouldFall hC (11 : Int32)).co) (V_wouldFall_11 i hb hs hc hi)
  obtain ⟨s50, e50, h50⟩ := h49.q (Z_oldIn (tzc h49.1.cz) (Int32.ofNat ns)) (fun τ hC => (Q_oldIn hC (Int32.ofNat ns)).co) (V_oldIn_ns i hb hs hc hi)
  obtain ⟨s51, e51, h51⟩ := h50.q (Z_doneIn (tzc h50.1.cz) (-1 : Int32)) (fun τ hC => (Q_doneIn hC (-1 : Int32)).co) (V_doneIn_m1 i hb hs hc hi)
  obtain ⟨s52, e52, h52⟩ := wr_no h51 (Or.inl rfl)
  obtain ⟨s53, e53, h53⟩ := wr_no h52 (Or.inr rfl)
  obtain ⟨s54, e54, h54⟩ := ap_no h53 (p := (31 : Int32)) (by decide)
  obtain ⟨s55, e55, h55⟩ := ap_no h54 (p := (127 : Int32)) (by decide)
  obtain ⟨s56, e56, h56⟩ := h55.q (Z_account (tzc h55.1.cz) (19 : Int32) (by decide) (by decide)) (fun τ hC => (Q_account hC (19 : Int32)).co) (V_account_19 i hb hs hc hi)
  obtain ⟨s57, e57, h57⟩ := h56.q (Z_account (tzc h56.1.cz) (-1 : Int32) (by decide) (by decide)) (fun τ hC => (Q_account hC (-1 : Int32)).co) (V_account_m1 i hb hs hc hi)
  refine ⟨v, had, s57, hv, hd, h57, ?_⟩
  have e1 : M_L_asks σ 0 = some (s1, v) := e1
  unfold M_L_refused
  rw [e1, bcall_some, ia_2 i h1.1.cz, bcall_some, ia_4 i h1.1.cz, bcall_some, ia_7 i h1.1.cz, bcall_some, ia_12 i h1.1.cz, bcall_some, hd1, bcall_some]
  rw [e2, bcall_some, if_pos rfl]
  rw [e3, bcall_some, if_pos rfl]
  rw [e4, bcall_some, if_pos rfl]
  rw [e5, bcall_some, if_pos rfl]
  rw [e6, bcall_some, if_pos rfl]
  rw [e7, bcall_some, if_pos rfl]
  rw [e8, bcall_some, if_pos rfl]
  rw [e9, bcall_some, if_pos rfl]
  unfold B_L_refused_132
  rw [e10, bcall_some, if_pos rfl]
  rw [e11, bcall_some, if_pos rfl]
  rw [e12, bcall_some, if_pos rfl]
  rw [e13, bcall_some, if_pos rfl]
  rw [e14, bcall_some, if_pos rfl]
  rw [e15, bcall_some, if_pos rfl]
  rw [e16, bcall_some, if_pos rfl]
  rw [e17, bcall_some, if_pos rfl]
  unfold B_L_refused_221
  rw [e18, bcall_some, if_pos rfl]
  rw [e19, bcall_some, if_pos rfl]
  rw [e20, bcall_some, if_pos rfl]
  rw [e21, bcall_some, if_pos rfl]
  rw [e22, bcall_some, if_pos rfl]
  rw [e23, bcall_some, if_pos rfl]
  rw [e24, bcall_some, if_pos rfl]
  rw [e25, bcall_some, if_pos rfl]
  unfold B_L_refused_307
  rw [e26, bcall_some, if_pos rfl]
  rw [e27, bcall_some, if_pos rfl]
  rw [e28, bcall_some, if_pos rfl]
  rw [e29, bcall_some, if_pos rfl]
  rw [e30, bcall_some, if_pos rfl]
  rw [e31, bcall_some, if_pos rfl]
  rw [e32, bcall_some, if_pos rfl]
  unfold B_L_refused_387
  rw [if_neg (show ¬ (1 : Int32) = 0 from by decide)]
  unfold B_L_refused_394
  rw [e33, bcall_some, if_pos rfl]
  rw [e34, bcall_some, if_pos rfl]
  rw [e35, bcall_some, if_pos rfl]
  rw [e36, bcall_some, if_pos rfl]
  rw [e37, bcall_some, if_pos rfl]
  rw [e38, bcall_some, if_pos rfl]
  rw [e39, bcall_some, if_pos rfl]
  rw [e40, bcall_some, if_pos rfl]
  unfold B_L_refused_480
  rw [e41, bcall_some, if_pos rfl]
  rw [e42, bcall_some, if_pos rfl]
  rw [e43, bcall_some, if_pos rfl]
  rw [e44, bcall_some, if_pos rfl]
  rw [e45, bcall_some, if_pos rfl]
  rw [e46, bcall_some, if_pos rfl]
  rw [e47, bcall_some, if_pos rfl]
  rw [e48, bcall_some, if_pos rfl]
  unfold B_L_refused_568
  rw [e49, bcall_some, if_pos rfl]
  rw [e50, bcall_some, if_pos rfl]
  rw [e51, bcall_some, if_pos rfl]
  rw [e52, bcall_some, if_pos rfl]
  rw [e53, bcall_some, if_pos rfl]
  rw [e54, bcall_some, if_pos rfl]
  rw [e55, bcall_some, if_pos rfl]
  rw [e56, bcall_some, if_pos rfl]
  unfold B_L_refused_651
  rw [e57, bcall_some, if_pos rfl]
  rw [reason_cg hd (h57.2 2 (by decide) (by decide)) (h57.2 3 (by decide) (by decide)) (h57.2 4 (by decide) (by decide)), bcall_some, if_pos rfl]
