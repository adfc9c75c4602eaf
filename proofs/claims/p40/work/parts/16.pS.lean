/-! who works today -/
theorem wk_lw {τ τ1 : St} {ns s c c0 : Nat} {hh l hc d0 d : Int32} (hs10 : ns ≤ 10) (hs : s < ns) (hc5 : c < 5) (e : τ1 = lwT τ s c hh l hc d0 d) (h1 : ¬ τ 249 (30 + 6 * s + 3) ≤ 0) (h2 : ¬ τ 249 (30 + 6 * s + 4) ≤ 0) (hW : Wk (τ1 249) ns c0) : Wk (τ 249) ns c0 := by
  subst e
  obtain ⟨s0, hs0, p, o, w, v⟩ := hW
  unfold lwT at p o w v
  refine ⟨s0, hs0, ?_, fun j hj => ?_, ?_, ?_⟩
  · simp (disch := omega) only [u2_same] at p; exact p
  · have z := o j hj
    simp (disch := omega) only [u2_same] at z; exact z
  · by_cases e : s0 = s
    · rw [e]; exact h1
    · simp (disch := omega) only [u2_same] at w; exact w
  · by_cases e : s0 = s
    · rw [e]; exact h2
    · simp (disch := omega) only [u2_same] at v; exact v
theorem sub_np {a b : Nat} (h : a ≤ b) (hb : b < 1000) : Int32.ofNat a - Int32.ofNat b ≤ 0 := by
  have e0 : (0 : Int32).toInt = 0 := rfl
  rw [Int32.le_iff_toInt_le, Int32.toInt_sub, oN_toInt (by omega), oN_toInt (by omega), Int.bmod_eq_of_le (by omega) (by omega)]
  omega
theorem decr (l : Nat) : Int32.ofNat (l + 1) + -1 = Int32.ofNat l := by
  rw [← oN_add l 1]
  have : Int32.ofNat 1 = 1 := rfl
  rw [this]
  generalize Int32.ofNat l = y
  grind
theorem okZ0 : okZ 0 = true := by decide
theorem okZ1 : okZ 1 = true := by decide
/-- what stands besides the work in a ghost of the row -/
def Gh (τ τg : St) : Prop := (∀ c, c < 5 → τg 249 (90 + 3 * c) = τ 249 (90 + 3 * c)) ∧ (∀ c, c < 5 → τg 249 (90 + 3 * c + 1) = τ 249 (90 + 3 * c + 1)) ∧ (∀ j, j < 10 → τg 249 (30 + 6 * j + 2) = τ 249 (30 + 6 * j + 2))
theorem Gh.k {τ τg : St} (h : Gh τ τg) : ∀ c, c < 5 → τg 249 (90 + 3 * c) = τ 249 (90 + 3 * c) := h.1
theorem Gh.p {τ τg : St} (h : Gh τ τg) : ∀ c, c < 5 → τg 249 (90 + 3 * c + 1) = τ 249 (90 + 3 * c + 1) := h.2.1
theorem Gh.t {τ τg : St} (h : Gh τ τg) : ∀ j, j < 10 → τg 249 (30 + 6 * j + 2) = τ 249 (30 + 6 * j + 2) := h.2.2
theorem Gh.mk {τ τg : St} (k : ∀ c, c < 5 → τg 249 (90 + 3 * c) = τ 249 (90 + 3 * c)) (p : ∀ c, c < 5 → τg 249 (90 + 3 * c + 1) = τ 249 (90 + 3 * c + 1)) (t : ∀ j, j < 10 → τg 249 (30 + 6 * j + 2) = τ 249 (30 + 6 * j + 2)) : Gh τ τg := ⟨k, p, t⟩
theorem Gh.lw {τ τg τ1 : St} {s c : Nat} {hh l hc d0 d : Int32} (G : Gh τ τg) (hs : s < 10) (e : τ1 = lwT τg s c hh l hc d0 d) : Gh τ τ1 := by
  subst e
  unfold lwT
  refine ⟨fun c hc => ?_, fun c hc => ?_, fun j hj => ?_⟩
  · simp (disch := omega) only [u2_same]; exact G.k c hc
  · simp (disch := omega) only [u2_same]; exact G.p c hc
  · simp (disch := omega) only [u2_same]; exact G.t j hj
theorem w_no {σ0 τ0 : St} {nb ns nc ni c0 : Nat} (r0 : RS σ0 23 (τ0 249) nb ns nc ni) (i0 : Iv (τ0 249) nb ns nc ni) (hc0 : c0 < nc) (hW : ¬ Wk (τ0 249) ns c0) : ∃ σ1, B_X10_worksToday_13 FU σ0 0 (Int32.ofNat c0) 0 = some (σ1, 0) ∧ ∀ q, (q < 23 ∨ 41 ≤ q) → σ1 q = σ0 q := by
  have hc5 := i0.hc
  have hs10 := i0.hs
  have ni1 : ¬ ((1 : Int32) = 0) := by decide
  refine one (F := fun n a x => B_X10_worksToday_13 n a 0 (Int32.ofNat c0) x) (I := fun _ a => ∃ τg, RS a 23 (τg 249) nb ns nc ni ∧ Iv (τg 249) nb ns nc ni ∧ ¬ Wk (τg 249) ns c0 ∧ ∀ q, (q < 23 ∨ 41 ≤ q) → a q = σ0 q) (P := fun x => ∃ σ1, x = some (σ1, 0) ∧ ∀ q, (q < 23 ∨ 41 ≤ q) → σ1 q = σ0 q) (N := c0) ?_ ?_ c0 0 FU σ0 (by omega) (FU_lt (by omega)) ⟨τ0, r0, i0, hW, fun _ _ => rfl⟩
  · rintro n a ⟨τg, r1, i1, w1, f1⟩
    simp only [B_X10_worksToday_13, Nat.zero_add]
    rw [if_pos (Int32.le_refl _)]
    rcases q_works r1 i1 hc0 with ⟨e1, _, _⟩ | ⟨_, _, e3⟩
    · rw [bcall_of e1]
      unfold bchk
      rw [if_pos okZ0]
      exact ⟨a, rfl, f1⟩
    · exact absurd e3 w1
  · rintro n j a hj ⟨τg, r1, i1, w1, f1⟩
    simp only [B_X10_worksToday_13, Nat.zero_add]
    rw [if_neg (oN_nle (by omega) (by omega) hj)]
    rcases q_works r1 i1 (show j < nc by omega) with ⟨e1, _, _⟩ | ⟨e1, _, s, hs, hp, ho, h1, h2⟩
    · rw [bcall_of e1, if_pos rfl, blet_eq, oN_al]
      exact Or.inr ⟨a, rfl, τg, r1, i1, w1, f1⟩
    · obtain ⟨σ2, τ2, d, e2, e3, e4, r2, i2, m2⟩ := lw_pair r1 i1 (show j < nc by omega) hs hp h1 h2
      rw [bcall_of e1, if_neg ni1, bcall_of e2, blet_eq, oN_al]
      exact Or.inr ⟨σ2, rfl, τ2, r2, i2, fun q => w1 (wk_lw hs10 hs (by omega) e4 h1 h2 q), fun q hq => by rw [m2.fr q (by omega), f1 q hq]⟩
theorem w_yes {σ0 τ : St} {nb ns nc ni c0 s : Nat} (r0 : RS σ0 23 (τ 249) nb ns nc ni) (i0 : Iv (τ 249) nb ns nc ni) (hc0 : c0 < nc) (hs : s < ns) (hp : τ 249 (90 + 3 * c0 + 1) = Int32.ofNat (s + 1)) (ho : ∀ j, j ≤ s → τ 249 (30 + 6 * j + 2) ≤ 20) : ∃ σ1 v, B_X10_worksToday_13 FU σ0 0 (Int32.ofNat c0) 0 = some (σ1, v) ∧ B_X11_wouldWork_34 FU τ 248 (Int32.ofNat c0) (Int32.ofNat s) (τ 249 (30 + 6 * s + 3)) (τ 249 (30 + 6 * s + 4)) 0 = some (τ, v) ∧ (v = 0 ∨ v = 1) ∧ ∀ q, (q < 23 ∨ 41 ≤ q) → σ1 q = σ0 q := by
  have hc5 := i0.hc
  have hs10 := i0.hs
  have ni1 : ¬ ((1 : Int32) = 0) := by decide
  obtain ⟨h0, hh0, eh0⟩ := i0.sh s hs
  obtain ⟨l0, hl0, el0⟩ := i0.sl s hs
  refine two (F := fun n a x => B_X10_worksToday_13 n a 0 (Int32.ofNat c0) x) (G := fun n (b : Int32 × Int32) x => B_X11_wouldWork_34 n τ 248 (Int32.ofNat c0) (Int32.ofNat s) b.1 b.2 x) (I := fun _ a b => ∃ τg hN lN, RS a 23 (τg 249) nb ns nc ni ∧ Iv (τg 249) nb ns nc ni ∧ Gh τ τg ∧ τg 249 (30 + 6 * s + 3) = Int32.ofNat hN ∧ hN ≤ 40 ∧ τg 249 (30 + 6 * s + 4) = Int32.ofNat lN ∧ lN ≤ 9 ∧ (b.1 = Int32.ofNat hN ∨ (b.1 ≤ 0 ∧ hN = 0)) ∧ b.2 = Int32.ofNat lN ∧ ∀ q, (q < 23 ∨ 41 ≤ q) → a q = σ0 q) (P := fun x y => ∃ σ1 v, x = some (σ1, v) ∧ y = some (τ, v) ∧ (v = 0 ∨ v = 1) ∧ ∀ q, (q < 23 ∨ 41 ≤ q) → σ1 q = σ0 q) (N := c0) ?_ ?_ c0 0 FU FU σ0 (τ 249 (30 + 6 * s + 3), τ 249 (30 + 6 * s + 4)) (by omega) (FU_lt (by omega)) (FU_lt (by omega)) ⟨τ, h0, l0, r0, i0, ⟨fun _ _ => rfl, fun _ _ => rfl, fun _ _ => rfl⟩, eh0, hh0, el0, hl0, Or.inl eh0, el0, fun _ _ => rfl⟩
  · rintro n m a ⟨x3, x4⟩ ⟨τg, hN, lN, r1, i1, G, eh, hh, el, hl, hx, hx4, f1⟩
    simp only at hx hx4
    subst hx4
    simp only [B_X10_worksToday_13, B_X11_wouldWork_34, Nat.zero_add]
    rw [if_pos (Int32.le_refl _), if_pos (Int32.le_refl _)]
    have wk : ∀ (b1 : hN ≠ 0) (b2 : lN ≠ 0), Wk (τg 249) ns c0 := fun b1 b2 => ⟨s, hs, by rw [G.p c0 (by omega)]; exact hp, fun j hj => by rw [G.t j (by omega)]; exact ho j hj, by rw [eh]; exact fun q => (oN_leFl (n := 0) (by omega) (by show 0 < hN; omega)).mp q, by rw [el]; exact fun q => (oN_leFl (n := 0) (by omega) (by show 0 < lN; omega)).mp q⟩
    have nwk : (hN = 0 ∨ lN = 0) → ¬ Wk (τg 249) ns c0 := fun b1 ⟨s2, hs2, p2, _, w2, v2⟩ => by
      rw [G.p c0 (by omega), hp, oN_eq (by omega) (by omega)] at p2
      have e2 : s2 = s := by omega
      rw [e2] at w2 v2
      rcases b1 with b1 | b1
      · rw [eh, b1] at w2; exact w2 (by decide)
      · rw [el, b1] at v2; exact v2 (by decide)
    by_cases b1 : hN = 0
    · have x0 : x3 ≤ 0 := by
        rcases hx with q | q
        · rw [q, b1]; decide
        · exact q.1
      rw [if_pos x0]
      rcases q_works r1 i1 hc0 with ⟨e1, _, _⟩ | ⟨_, _, e3⟩
      · rw [bcall_of e1]
        unfold bchk
        rw [if_pos okZ0]
        exact ⟨a, 0, rfl, rfl, Or.inl rfl, f1⟩
      · exact absurd e3 (nwk (Or.inl b1))
    · have x0 : ¬ x3 ≤ 0 := by
        rcases hx with q | q
        · rw [q]; exact fun z => (oN_leFl (n := 0) (by omega) (by show 0 < hN; omega)).mp z
        · exact absurd q.2 b1
      rw [if_neg x0]
      by_cases b2 : lN = 0
      · subst b2
        rw [if_pos (show Int32.ofNat 0 ≤ (0 : Int32) from by decide)]
        rcases q_works r1 i1 hc0 with ⟨e1, _, _⟩ | ⟨_, _, e3⟩
        · rw [bcall_of e1]
          unfold bchk
          rw [if_pos okZ0]
          exact ⟨a, 0, rfl, rfl, Or.inl rfl, f1⟩
        · exact absurd e3 (nwk (Or.inr rfl))
      · rw [if_neg (fun z => (oN_leFl (n := 0) (by omega) (by show 0 < lN; omega)).mp z)]
        rcases q_works r1 i1 hc0 with ⟨_, _, e3⟩ | ⟨e1, _, _⟩
        · exact absurd (wk b1 b2) e3
        · rw [bcall_of e1]
          unfold bchk
          rw [if_pos okZ1]
          exact ⟨a, 1, rfl, rfl, Or.inr rfl, f1⟩
  · rintro n m j a ⟨x3, x4⟩ hj ⟨τg, hN, lN, r1, i1, G, eh, hh, el, hl, hx, hx4, f1⟩
    simp only at hx hx4
    subst hx4
    have hjc : j < nc := by omega
    simp only [B_X10_worksToday_13, B_X11_wouldWork_34, Nat.zero_add]
    rw [if_neg (oN_nle (by omega) (by omega) hj), if_neg (oN_nle (by omega) (by omega) hj), bcall_of (x_where (τ := τ) (c := j) (by omega))]
    obtain ⟨g, hg, eg⟩ := i0.cp j hjc
    by_cases cg : g = s + 1
    · subst cg
      rw [eg, oN_s1, if_pos rfl]
      have wk : ∀ (b1 : hN ≠ 0) (b2 : lN ≠ 0), Wk (τg 249) ns j := fun b1 b2 => ⟨s, hs, by rw [G.p j (by omega)]; exact eg, fun j2 hj2 => by rw [G.t j2 (by omega)]; exact ho j2 hj2, by rw [eh]; exact fun q => (oN_leFl (n := 0) (by omega) (by show 0 < hN; omega)).mp q, by rw [el]; exact fun q => (oN_leFl (n := 0) (by omega) (by show 0 < lN; omega)).mp q⟩
      have nwk : (hN = 0 ∨ lN = 0) → ¬ Wk (τg 249) ns j := fun b1 ⟨s2, hs2, p2, _, w2, v2⟩ => by
        rw [G.p j (by omega), eg, oN_eq (by omega) (by omega)] at p2
        have e2 : s2 = s := by omega
        rw [e2] at w2 v2
        rcases b1 with b1 | b1
        · rw [eh, b1] at w2; exact w2 (by decide)
        · rw [el, b1] at v2; exact v2 (by decide)
      by_cases b1 : hN = 0
      · have x0 : x3 ≤ 0 := by
          rcases hx with q | q
          · rw [q, b1]; decide
          · exact q.1
        rw [if_pos x0]
        rcases q_works r1 i1 hjc with ⟨e1, _, _⟩ | ⟨_, _, e3⟩
        · rw [bcall_of e1, if_pos rfl, blet_eq, blet_eq, oN_al]
          exact Or.inr ⟨a, (x3, Int32.ofNat lN), rfl, rfl, τg, hN, lN, r1, i1, G, eh, hh, el, hl, hx, rfl, f1⟩
        · exact absurd e3 (nwk (Or.inl b1))
      · have x3e : x3 = Int32.ofNat hN := by
          rcases hx with q | q
          · exact q
          · exact absurd q.2 b1
        subst x3e
        rw [if_neg (fun z => (oN_leFl (n := 0) (by omega) (by show 0 < hN; omega)).mp z)]
        rcases lN with _ | lN
        · rw [if_pos (show Int32.ofNat 0 = (0 : Int32) from rfl)]
          rcases q_works r1 i1 hjc with ⟨e1, _, _⟩ | ⟨_, _, e3⟩
          · rw [bcall_of e1, if_pos rfl, blet_eq, blet_eq, oN_al]
            exact Or.inr ⟨a, (Int32.ofNat hN, Int32.ofNat 0), rfl, rfl, τg, hN, 0, r1, i1, G, eh, hh, el, hl, Or.inl rfl, rfl, f1⟩
          · exact absurd e3 (nwk (Or.inr rfl))
        · rw [if_neg (fun z => (oN_eqFl (n := 0) (by omega) (by decide) (by show lN + 1 ≠ 0; omega)).mp z)]
          rcases q_works r1 i1 hjc with ⟨_, _, e3⟩ | ⟨e1, _, s2, hs2, p2, o2, w2, v2⟩
          · exact absurd (wk b1 (by omega)) e3
          · have es : s2 = s := by
              rw [G.p j (by omega), eg, oN_eq (by omega) (by omega)] at p2; omega
            subst es
            obtain ⟨k, hk1, hk4, ek⟩ := i0.ck j hjc
            obtain ⟨σ2, τ2, d, e2, e3, e4, r2, i2, m2⟩ := lw_pair r1 i1 hjc hs2 p2 w2 v2
            rw [G.k j (by omega), eh, ek, imin_nat (by omega) (by omega)] at e3
            rw [eh, el, e3] at e4
            rw [bcall_of e1, if_neg ni1, bcall_of e2, blet_eq, oN_al, oN_lm, oN_la, x_ld (by omega), ek, blet_eq, blet_eq, blet_eq, decr]
            refine Or.inr ⟨σ2, (Int32.ofNat hN - Int32.ofNat k, Int32.ofNat lN), rfl, rfl, τ2, hN - min hN k, lN, r2, i2, G.lw (by omega) e4, ?_, by omega, ?_, by omega, ?_, rfl, fun q hq => by rw [m2.fr q (by omega), f1 q hq]⟩
            · rw [e4]
              unfold lwT
              simp (disch := omega) only [u2_same, u2_self]
              exact oN_sub (Nat.min_le_left _ _)
            · rw [e4]
              unfold lwT
              simp (disch := omega) only [u2_same, u2_self]
              exact oN_s1 lN
            · by_cases ck : k ≤ hN
              · refine Or.inl ?_
                show Int32.ofNat hN - Int32.ofNat k = _
                rw [oN_sub ck, Nat.min_eq_right ck]
              · exact Or.inr ⟨sub_np (by omega) (by omega), by rw [Nat.min_eq_left (by omega)]; omega⟩
    · have k2 : ¬ (Int32.ofNat g - 1 = Int32.ofNat s) := by
        rcases g with _ | g
        · rw [oN_z1]; exact of_eq_false (m1_ne (by omega))
        · rw [oN_s1]; exact of_eq_false (oN_eqF (by omega) (by omega) (by omega))
      rw [eg, if_neg k2, blet_eq, oN_al]
      rcases q_works r1 i1 hjc with ⟨e1, _, _⟩ | ⟨e1, _, s2, hs2, p2, o2, w2, v2⟩
      · rw [bcall_of e1, if_pos rfl, blet_eq]
        exact Or.inr ⟨a, (x3, Int32.ofNat lN), rfl, rfl, τg, hN, lN, r1, i1, G, eh, hh, el, hl, hx, rfl, f1⟩
      · have es : s2 ≠ s := by
          rw [G.p j (by omega), eg, oN_eq (by omega) (by omega)] at p2; omega
        obtain ⟨σ2, τ2, d, e2, e3, e4, r2, i2, m2⟩ := lw_pair r1 i1 hjc hs2 p2 w2 v2
        rw [bcall_of e1, if_neg ni1, bcall_of e2, blet_eq]
        refine Or.inr ⟨σ2, (x3, Int32.ofNat lN), rfl, rfl, τ2, hN, lN, r2, i2, G.lw (by omega) e4, ?_, hh, ?_, hl, hx, rfl, fun q hq => by rw [m2.fr q (by omega), f1 q hq]⟩
        · rw [e4]
          unfold lwT
          simp (disch := omega) only [u2_same]
          exact eh
        · rw [e4]
          unfold lwT
          simp (disch := omega) only [u2_same]
          exact el
theorem w_today {σ τ : St} {nb ns nc ni c0 : Nat} (h : Co σ τ) (r : RS σ 5 (τ 249) nb ns nc ni) (i : Iv (τ 249) nb ns nc ni) (hc0 : c0 < nc) : ∃ σ1 v, M_X10_worksToday σ 0 (Int32.ofNat c0) = some (σ1, v) ∧ M_X11_wouldWork τ 248 (Int32.ofNat c0) = some (τ, v) ∧ (v = 0 ∨ v = 1) ∧ ∀ q, (q < 23 ∨ 41 ≤ q) → σ1 q = σ q := by
  have hc5 := i.hc
  have hs10 := i.hs
  have ni1 : ¬ ((1 : Int32) = 0) := by decide
  obtain ⟨σ0, t1, t2, t3⟩ := take_ok σ (k := 23) (a := 5) B23 B5 (by omega)
  have r0 := t2 _ nb ns nc ni i.hb i.hs i.hc i.hi r
  unfold M_X10_worksToday M_X11_wouldWork
  simp only [Nat.zero_add]
  rw [bcall_of t1]
  rcases q_works r i hc0 with ⟨_, e2, e3⟩ | ⟨_, e2, s, hs, hp, ho, w, v⟩
  · obtain ⟨σ1, f1, f2⟩ := w_no r0 i hc0 e3
    rw [bcall_of e2, if_pos rfl]
    exact ⟨σ1, 0, f1, rfl, Or.inl rfl, fun q hq => by rw [f2 q hq, t3 q (by omega)]⟩
  · obtain ⟨σ1, v, f1, f2, f3, f4⟩ := w_yes r0 i hc0 hs hp ho
    have a3 : M_X11_of τ 248 (Int32.ofNat s) 3 = some (τ, τ 249 (30 + 6 * s + 3)) := x_ofl (n := 3) (by show 30 + 6 * s + 3 < 111; omega)
    have a4 : M_X11_of τ 248 (Int32.ofNat s) 4 = some (τ, τ 249 (30 + 6 * s + 4)) := x_ofl (n := 4) (by show 30 + 6 * s + 4 < 111; omega)
    rw [bcall_of e2, if_neg ni1, bcall_of (x_where (τ := τ) (c := c0) (by omega)), hp, oN_s1, bcall_of a3, bcall_of a4]
    exact ⟨σ1, v, f1, f2, f3, fun q hq => by rw [f4 q hq, t3 q (by omega)]⟩
theorem Q_crewOf {σ τ : St} (h : Co σ τ) (p z : Int32) : Pair σ τ (M_X10_crewOf σ 0 p z) (M_X11_crewOf τ 248 p z) (fun v w => v = w) := by
  obtain ⟨nb, ns, nc, ni, r, i⟩ := h.now
  have hc5 := i.hc
  have hs10 := i.hs
  have ni1 : ¬ ((1 : Int32) = 0) := by decide
  unfold M_X10_crewOf M_X11_crewOf
  simp only [Nat.zero_add]
  rcases h_crw r i p with ⟨e1, e2⟩ | ⟨j, hj, rfl, e1, e2⟩
  · simp only [e1, e2, bcall_some, ↓reduceIte]
    exact Pair.q h rfl rfl rfl
  rw [bcall_of e1, bcall_of e2, if_neg ni1, if_neg ni1]
  by_cases c : z.toInt < 0 ∨ 3 < z.toInt
  · rw [if_pos c, if_pos c]
    exact Pair.q h rfl rfl rfl
  rw [if_neg c, if_neg c]
  obtain ⟨k, hk, rfl⟩ := sw_of (n := 3) (by decide) c
  have hk2 : k = 0 ∨ k = 1 ∨ k = 2 ∨ k = 3 := by omega
  rcases hk2 with rfl | rfl | rfl | rfl
  · rw [show (Int32.ofNat 0).toInt = 0 from rfl]
    simp only [show ((0 : Int) = 0) = True from eq_true rfl, ↓reduceIte]
    simp (disch := omega) only [M_X1_skillOf, bcall_some, blet_eq, bput_eq, at_2 (RS.B r), at_3 (RS.B r), at_5 (RS.B r), at_6 (RS.B r), at_7 (RS.B r), at_8 (RS.B r), at_9 (RS.B r), at_10 (RS.B r), at_12 (RS.B r), at_13 (RS.B r), at_14 (RS.B r), at_16 (RS.B r), at_17 (RS.B r), put_2 (RS.B r), put_3 (RS.B r), put_5 (RS.B r), put_6 (RS.B r), put_7 (RS.B r), put_8 (RS.B r), put_9 (RS.B r), put_10 (RS.B r), put_12 (RS.B r), put_13 (RS.B r), put_14 (RS.B r), put_16 (RS.B r), put_17 (RS.B r), x_ofl, x_of, x_setsl, x_sets, x_ld, x_ldl, x_stt, x_stl, x_where, oN_al, oN_la, oN_lm, u2_ne, u2_same, u2_self, (RS.cb r), (RS.cs r), (RS.cc r), (RS.ci r), (Iv.cb i), (Iv.cs i), (Iv.cc i), (Iv.ci i), (RS.a2 r), (RS.a3 r), (RS.a5 r), (RS.a6 r), (RS.a7 r), (RS.a8 r), (RS.a9 r), (RS.a10 r), (RS.a12 r), (RS.a13 r), (RS.a14 r), (RS.a16 r), (RS.a17 r), (RS.f4 r), (RS.f5 r), (RS.f6 r), (RS.f7 r), (RS.f8 r), (RS.f9 r), (RS.f10 r), (RS.f11 r), (RS.f12 r), (RS.f13 r), oN_leT, oN_leF, oN_ltT, oN_ltF, oN_leTl, oN_leFl, oN_ltTl, oN_ltFl, oN_lleT, oN_lleF, oN_lltT, oN_lltF, oN_m4, oN_nn, oN_nn2, mm_0, mm_s, oN_s1, oN_z1, m1_neg, m1_nn, m4_neg, i10, ↓reduceIte, if_true, if_false]
    exact Pair.q h rfl rfl rfl
  · rw [show (Int32.ofNat 1).toInt = 1 from rfl]
    simp only [show ((1 : Int) = 0) = False from by decide, show ((1 : Int) = 1) = True from eq_true rfl, ↓reduceIte]
    obtain ⟨g, hg, eg⟩ := i.cp j hj
    rcases g with _ | g
    · simp (disch := omega) only [M_X1_placeOf, eg, bcall_some, blet_eq, bput_eq, at_2 (RS.B r), at_3 (RS.B r), at_5 (RS.B r), at_6 (RS.B r), at_7 (RS.B r), at_8 (RS.B r), at_9 (RS.B r), at_10 (RS.B r), at_12 (RS.B r), at_13 (RS.B r), at_14 (RS.B r), at_16 (RS.B r), at_17 (RS.B r), put_2 (RS.B r), put_3 (RS.B r), put_5 (RS.B r), put_6 (RS.B r), put_7 (RS.B r), put_8 (RS.B r), put_9 (RS.B r), put_10 (RS.B r), put_12 (RS.B r), put_13 (RS.B r), put_14 (RS.B r), put_16 (RS.B r), put_17 (RS.B r), x_ofl, x_of, x_setsl, x_sets, x_ld, x_ldl, x_stt, x_stl, x_where, oN_al, oN_la, oN_lm, u2_ne, u2_same, u2_self, (RS.cb r), (RS.cs r), (RS.cc r), (RS.ci r), (Iv.cb i), (Iv.cs i), (Iv.cc i), (Iv.ci i), (RS.a2 r), (RS.a3 r), (RS.a5 r), (RS.a6 r), (RS.a7 r), (RS.a8 r), (RS.a9 r), (RS.a10 r), (RS.a12 r), (RS.a13 r), (RS.a14 r), (RS.a16 r), (RS.a17 r), (RS.f4 r), (RS.f5 r), (RS.f6 r), (RS.f7 r), (RS.f8 r), (RS.f9 r), (RS.f10 r), (RS.f11 r), (RS.f12 r), (RS.f13 r), oN_leT, oN_leF, oN_ltT, oN_ltF, oN_leTl, oN_leFl, oN_ltTl, oN_ltFl, oN_lleT, oN_lleF, oN_lltT, oN_lltF, oN_m4, oN_nn, oN_nn2, mm_0, mm_s, oN_s1, oN_z1, m1_neg, m1_nn, m4_neg, i10, ↓reduceIte, if_true, if_false]
      exact Pair.q h rfl rfl rfl
    · simp (disch := omega) only [M_X1_placeOf, eg, bcall_some, blet_eq, bput_eq, at_2 (RS.B r), at_3 (RS.B r), at_5 (RS.B r), at_6 (RS.B r), at_7 (RS.B r), at_8 (RS.B r), at_9 (RS.B r), at_10 (RS.B r), at_12 (RS.B r), at_13 (RS.B r), at_14 (RS.B r), at_16 (RS.B r), at_17 (RS.B r), put_2 (RS.B r), put_3 (RS.B r), put_5 (RS.B r), put_6 (RS.B r), put_7 (RS.B r), put_8 (RS.B r), put_9 (RS.B r), put_10 (RS.B r), put_12 (RS.B r), put_13 (RS.B r), put_14 (RS.B r), put_16 (RS.B r), put_17 (RS.B r), x_ofl, x_of, x_setsl, x_sets, x_ld, x_ldl, x_stt, x_stl, x_where, oN_al, oN_la, oN_lm, u2_ne, u2_same, u2_self, (RS.cb r), (RS.cs r), (RS.cc r), (RS.ci r), (Iv.cb i), (Iv.cs i), (Iv.cc i), (Iv.ci i), (RS.a2 r), (RS.a3 r), (RS.a5 r), (RS.a6 r), (RS.a7 r), (RS.a8 r), (RS.a9 r), (RS.a10 r), (RS.a12 r), (RS.a13 r), (RS.a14 r), (RS.a16 r), (RS.a17 r), (RS.f4 r), (RS.f5 r), (RS.f6 r), (RS.f7 r), (RS.f8 r), (RS.f9 r), (RS.f10 r), (RS.f11 r), (RS.f12 r), (RS.f13 r), oN_leT, oN_leF, oN_ltT, oN_ltF, oN_leTl, oN_leFl, oN_ltTl, oN_ltFl, oN_lleT, oN_lleF, oN_lltT, oN_lltF, oN_m4, oN_nn, oN_nn2, mm_0, mm_s, oN_s1, oN_z1, m1_neg, m1_nn, m4_neg, i10, ↓reduceIte, if_true, if_false]
      exact Pair.q h rfl rfl rfl
  · obtain ⟨σ1, v, f1, f2, f3, f4⟩ := w_today h r i hj
    rw [show (Int32.ofNat 2).toInt = 2 from rfl]
    simp only [show ((2 : Int) = 0) = False from by decide, show ((2 : Int) = 1) = False from by decide, show ((2 : Int) = 2) = True from eq_true rfl, ↓reduceIte]
    rw [bcall_of f1, bcall_of f2]
    have hC : Co σ1 τ := h.cg2 (fun k hk => f4 k (by omega)) (fun _ _ => rfl) (fun _ _ => rfl)
    rcases f3 with rfl | rfl
    · rw [if_pos rfl, if_pos rfl]
      exact ⟨σ1, τ, 0, 0, rfl, rfl, rfl, hC, fun k hk => f4 k (by omega), fun _ _ => rfl⟩
    · rw [if_neg ni1, if_neg ni1]
      exact ⟨σ1, τ, 1, 1, rfl, rfl, rfl, hC, fun k hk => f4 k (by omega), fun _ _ => rfl⟩
  · rw [show (Int32.ofNat 3).toInt = 3 from rfl]
    simp only [show ((3 : Int) = 0) = False from by decide, show ((3 : Int) = 1) = False from by decide, show ((3 : Int) = 2) = False from by decide, show ((3 : Int) = 3) = True from eq_true rfl, ↓reduceIte]
    simp (disch := omega) only [M_X1_hoursOf, bcall_some, blet_eq, bput_eq, at_2 (RS.B r), at_3 (RS.B r), at_5 (RS.B r), at_6 (RS.B r), at_7 (RS.B r), at_8 (RS.B r), at_9 (RS.B r), at_10 (RS.B r), at_12 (RS.B r), at_13 (RS.B r), at_14 (RS.B r), at_16 (RS.B r), at_17 (RS.B r), put_2 (RS.B r), put_3 (RS.B r), put_5 (RS.B r), put_6 (RS.B r), put_7 (RS.B r), put_8 (RS.B r), put_9 (RS.B r), put_10 (RS.B r), put_12 (RS.B r), put_13 (RS.B r), put_14 (RS.B r), put_16 (RS.B r), put_17 (RS.B r), x_ofl, x_of, x_setsl, x_sets, x_ld, x_ldl, x_stt, x_stl, x_where, oN_al, oN_la, oN_lm, u2_ne, u2_same, u2_self, (RS.cb r), (RS.cs r), (RS.cc r), (RS.ci r), (Iv.cb i), (Iv.cs i), (Iv.cc i), (Iv.ci i), (RS.a2 r), (RS.a3 r), (RS.a5 r), (RS.a6 r), (RS.a7 r), (RS.a8 r), (RS.a9 r), (RS.a10 r), (RS.a12 r), (RS.a13 r), (RS.a14 r), (RS.a16 r), (RS.a17 r), (RS.f4 r), (RS.f5 r), (RS.f6 r), (RS.f7 r), (RS.f8 r), (RS.f9 r), (RS.f10 r), (RS.f11 r), (RS.f12 r), (RS.f13 r), oN_leT, oN_leF, oN_ltT, oN_ltF, oN_leTl, oN_leFl, oN_ltTl, oN_ltFl, oN_lleT, oN_lleF, oN_lltT, oN_lltF, oN_m4, oN_nn, oN_nn2, mm_0, mm_s, oN_s1, oN_z1, m1_neg, m1_nn, m4_neg, i10, ↓reduceIte, if_true, if_false]
    exact Pair.q h rfl rfl rfl
