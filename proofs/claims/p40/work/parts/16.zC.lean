/-! a text that is read: what it leaves of the class -/
theorem zback {a b : St} {nx : Nat} (h : Co a b) (hx : nx < 9) (ex : a 59 2 = Int32.ofNat nx) (hS : Sc a (pl nx) (b 250)) : ∃ a1 b1, (bcall (M_X2_noted a 59) fun s q => M_X7_take s 5 q) = some (a1, 0) ∧ M_X11_comesBack b 248 = some (b1, 0) ∧ Co a1 b1 ∧ Fn a a1 ∧ (∀ r, Sc a (pl nx) r → Sc a1 5 r) ∧ ∀ k, k ≠ 249 → b1 k = b k := by
  have hp : pl nx = 79 + 18 * nx := rfl
  obtain ⟨a1, t1, t2, t3⟩ := take_sc a (k := 5) (a := pl nx) B5 (Bp nx hx) (by omega)
  obtain ⟨b1, c1, c2, c3⟩ := back_ex b
  have fn : Fn a a1 := fun k hk => t3 k (by omega)
  exact ⟨a1, b1, by rw [bcall_of (noted_ex ex hx)]; exact t1, c1, h.changed ((t2 _ hS).cg (fun _ _ _ => rfl) c3) fn ⟨fun k _ h2 => c2 k h2, fun q _ => by rw [c2 248 (by decide)]⟩, fn, t2, c2⟩
theorem zfail_by {a b : St} {nx : Nat} (h : Co a b) (hP : Pre 2 a b) (hx : nx < 9) (ex : a 59 2 = Int32.ofNat nx) (hS : Sc a (pl nx) (b 250)) (x : Int32) : ∃ a1 b1, (bcall (M_X2_noted a 59) fun s q => bcall (M_X7_take s 5 q) fun s2 _ => bcall (M_X6_refuseOrder s2 2 x 1) fun s r => some (s, r)) = some (a1, -3) ∧ (bcall (M_X11_comesBack b 248) fun s _ => bcall (M_X11_refusesBy s 248 12 x) fun s r => some (s, r)) = some (b1, -3) ∧ Co a1 b1 ∧ (∀ k, (23 ≤ k ∨ k < 2) → a1 k = a k) ∧ (∀ r, Sc a (pl nx) r → Sc a1 5 r) ∧ (∀ k, 248 ≤ k → a1 k = a k) ∧ ∀ k, k < 248 → b1 k = b k := by
  obtain ⟨a1, b1, e1, e2, hC, fn, ft2, fb⟩ := zback h hx ex hS
  have e1 : M_X7_take a 5 (pl nx) = some (a1, 0) := by rw [bcall_of (noted_ex ex hx)] at e1; exact e1
  obtain ⟨d, hd, q1, q2, q3⟩ := hP
  have p1 : a1 2 2 = Int32.ofNat d := by rw [fn 2 (by omega)]; exact q1
  have p2 : b1 248 16 = Int32.ofNat d := by rw [fb 248 (by decide)]; exact q2
  obtain ⟨a2, r1, r2, r3, r4, r5, r6⟩ := ro_ex p1 hd x
  obtain ⟨b2, s1, s2, s3, s4, s5, s6⟩ := rby_ex p2 hd 12 x
  refine ⟨a2, b2, by rw [bcall_of (noted_ex ex hx), bcall_of e1, bcall_of r1], by rw [bcall_of e2, bcall_of s1], hC.refused (m := 3) ⟨d + 1, by omega, r2, s2, fun j hj => ?_⟩ (by decide) r6 s6, fun k hk => by rw [r6 k (by omega) (by omega) (by omega), fn k (by omega)], fun r hr => (ft2 r hr).cg (fun k h1 h2 => r6 k (by omega) (by omega) (by omega)) (fun _ _ => rfl), fun k hk => by rw [r6 k (by omega) (by omega) (by omega), fn k (by omega)], fun k hk => by rw [s6.1 k (by omega) (by omega), fb k (by omega)]⟩
  rcases j with _ | j
  · exact ⟨by rw [r3]; exact s3.symm, by rw [r4]; exact s4.symm⟩
  · obtain ⟨z1, z2⟩ := q3 j (by omega)
    obtain ⟨y1, y2⟩ := r5 j (by omega)
    refine ⟨?_, ?_⟩
    · rw [y1, fn 3 (by omega), z1, show 2 * (j + 1) = 2 * j + 2 by omega, s5 (2 * j) (by omega), fb 257 (by decide)]
    · rw [y2, fn 4 (by omega), z2, show 2 * (j + 1) + 1 = 2 * j + 1 + 2 by omega, s5 (2 * j + 1) (by omega), fb 257 (by decide)]
theorem zfail_no {a b : St} {nx : Nat} (h : Co a b) (hx : nx < 9) (ex : a 59 2 = Int32.ofNat nx) (hS : Sc a (pl nx) (b 250)) (x : Int32) : ∃ a1 b1, (bcall (M_X2_noted a 59) fun s q => bcall (M_X7_take s 5 q) fun s2 _ => bcall (M_X6_refuseOrder s2 2 x 0) fun s r => some (s, r)) = some (a1, -3) ∧ (bcall (M_X11_comesBack b 248) fun s _ => bcall (M_X11_refuses s 248 12 x) fun s r => some (s, r)) = some (b1, -3) ∧ Co a1 b1 ∧ (∀ k, (23 ≤ k ∨ k < 2) → a1 k = a k) ∧ (∀ r, Sc a (pl nx) r → Sc a1 5 r) ∧ (∀ k, 248 ≤ k → a1 k = a k) ∧ (∀ k, k < 248 → b1 k = b k) ∧ a1 2 2 = Int32.ofNat 1 ∧ a1 3 0 = 12 ∧ a1 4 0 = x := by
  obtain ⟨a1, b1, e1, e2, hC, fn, ft2, fb⟩ := zback h hx ex hS
  have e1 : M_X7_take a 5 (pl nx) = some (a1, 0) := by rw [bcall_of (noted_ex ex hx)] at e1; exact e1
  obtain ⟨a2, r1, r2, r3, r4, r6⟩ := ro_no a1 x
  obtain ⟨σz, b2, _, s1, hP, _, s6⟩ := ref_ex a1 b1 12 x
  have l257 : ln 257 = 8 := by decide +kernel
  have w1 : ∀ (s : St) (v : Int32) (K : St → Option (St × Int32)), bast s (248 + 9) 0 v K = K (u2 s 257 0 v) := fun s v K => bast_nat (k := 257) (i := 0) (by rw [l257]; decide)
  have w2 : ∀ (s : St) (v : Int32) (K : St → Option (St × Int32)), bast s (248 + 9) 1 v K = K (u2 s 257 1 v) := fun s v K => bast_nat (k := 257) (i := 1) (by rw [l257]; decide)
  have eb : M_X11_refuses b1 248 12 x = some (u2 (u2 (u2 b1 257 0 12) 257 1 x) 248 16 1, -3) := by simp only [M_X11_refuses, w1, w2, bput_eq]
  rw [s1] at eb
  have eb2 : b2 = u2 (u2 (u2 b1 257 0 12) 257 1 x) 248 16 1 := congrArg Prod.fst (Option.some.inj eb)
  refine ⟨a2, b2, by rw [bcall_of (noted_ex ex hx), bcall_of e1, bcall_of r1], by rw [bcall_of e2, bcall_of s1], hC.refused (m := 3) ⟨1, by omega, r2, by rw [eb2, u2_self]; rfl, fun j hj => ?_⟩ (by decide) r6 s6, fun k hk => by rw [r6 k (by omega) (by omega) (by omega), fn k (by omega)], fun r hr => (ft2 r hr).cg (fun k h1 h2 => r6 k (by omega) (by omega) (by omega)) (fun _ _ => rfl), fun k hk => by rw [r6 k (by omega) (by omega) (by omega), fn k (by omega)], fun k hk => by rw [s6.1 k (by omega) (by omega), fb k (by omega)], r2, r3, r4⟩
  obtain rfl : j = 0 := by omega
  refine ⟨?_, ?_⟩
  · rw [r3, eb2]
    show (12 : Int32) = u2 (u2 (u2 b1 257 0 12) 257 1 x) 248 16 1 257 0
    simp (disch := omega) only [u2_ne, u2_same, u2_self]
  · rw [r4, eb2]
    show x = u2 (u2 (u2 b1 257 0 12) 257 1 x) 248 16 1 257 1
    simp (disch := omega) only [u2_ne, u2_same, u2_self]
/-- what a text that was run leaves of the class -/
def Kx (u nx : Nat) (σn : St) (v : Int32) (σ1 : St) : Prop := (∀ k, (23 ≤ k ∨ k < 2) → k ≠ 59 → σ1 k = σn k) ∧ ((v = -3 ∧ σ1 59 = σn 59 ∧ ∀ r, Sc σn (pl nx) r → Sc σ1 5 r) ∨ (0 ≤ v ∧ Hh σ1 (min (u + 1) 8) ((nx + 1) % 9)))
theorem zrun {c : Nat → Nat} {n K nx u : Nat} {σn τb : St} (hh : Hh σn u nx) (h : Co σn (u2 τb 248 10 0)) (U : Tt c n τb) (e11 : τb 248 11 = Int32.ofNat 0) (hx : nx < 9) (ex : σn 59 2 = Int32.ofNat nx) (hS : Sc σn (pl nx) (τb 250)) (hK : K + 1 ≤ 20) (eK : σn 245 2 = Int32.ofNat (K + 1)) (st : ∀ j, j < K + 1 → Std c n σn j) (ch : ∀ j, j < K → odP c n (ps c n j) < n ∧ c (odP c n (ps c n j)) = 59) (en : odP c n (ps c n K) = n) : ∃ σ1 τ1 v, B_X10_script_46 FU σn 0 0 = some (σ1, v) ∧ B_X11_script_86 FU τb 248 0 0 1 = some (τ1, v) ∧ Co σ1 τ1 ∧ Kx u nx σn v σ1 ∧ (∀ k, 248 ≤ k → σ1 k = σn k) ∧ ∀ k, k < 248 → τ1 k = τb k := by
  have hn := U.hn
  have ni1 : ¬ ((1 : Int32) = 0) := by decide
  have hp : pl nx = 79 + 18 * nx := rfl
  have pn : ∀ j, j ≤ K → ps c n j ≤ n := fun j hj => by
    rcases j with _ | j
    · exact Nat.zero_le _
    · have := (ch j (by omega)).1
      show odP c n (ps c n j) + 1 ≤ n
      omega
  refine two2 (F := fun m a x => B_X10_script_46 m a 0 x) (G := fun m b x => B_X11_script_86 m b 248 x 0 1) (I := fun k a b => k ≤ K ∧ Sc a 5 (b 249) ∧ Fn σn a ∧ (∀ j, j ≠ 248 → j ≠ 249 → j ≠ 256 → b j = τb j) ∧ (∀ q, q ≠ 11 → q ≠ 12 → q ≠ 17 → b 248 q = τb 248 q) ∧ b 248 11 = Int32.ofNat (ps c n k)) (P := fun x y => ∃ σ1 τ1 v, x = some (σ1, v) ∧ y = some (τ1, v) ∧ Co σ1 τ1 ∧ Kx u nx σn v σ1 ∧ (∀ k, 248 ≤ k → σ1 k = σn k) ∧ ∀ k, k < 248 → τ1 k = τb k) (N := K + 1) ?_ ?_ (K + 1) 0 FU FU σn τb (by omega) (FU_lt (by omega)) (FU_lt (by omega)) ⟨Nat.zero_le _, ?_, fun _ _ => rfl, fun _ _ _ _ => rfl, fun _ _ _ _ => rfl, e11⟩
  · rintro m1 m2 a b ⟨q, _⟩
    omega
  · rintro m1 m2 k a b hk hm1 hm2 ⟨hkK, sc, fn, fb, fq, b11⟩
    have Ub : Tt c n b := U.cg (fq 10 (by decide) (by decide) (by decide)) (fb 255 (by decide) (by decide) (by decide))
    obtain ⟨o1, o2, o3⟩ := st k hk
    obtain ⟨τ1, s1, s2, s3, s4, s5, s6⟩ := order_r Ub (pn k hkK) b11
    rw [o1] at s1
    have sc1 : Sc a 5 (τ1 249) := by rw [s5 249 (by decide) (by decide)]; exact sc
    obtain ⟨nb, ns, nc, ni, r, i⟩ := sc1
    have hop := carry (c := c) (n := n) (p := ps c n k) (k := k) r i (by omega) o1 (by rw [fn 246 (by omega)]; exact o2) (fun q hq => by rw [fn 247 (by omega)]; exact o3 q hq) (s3 (odK_of o1)) (s4 o1)
    have ea : a 245 2 = Int32.ofNat (K + 1) := by rw [fn 245 (by omega)]; exact eK
    have exa : ∀ (s : St), (∀ j, 23 ≤ j → s j = a j) → s 59 2 = Int32.ofNat nx := fun s hs => by rw [hs 59 (by decide), fn 59 (by omega)]; exact ex
    -- the reference with its text put away
    have tb : ∀ k, k ≠ 248 → k ≠ 249 → k ≠ 256 → τ1 k = τb k := fun k q1 q2 q3 => by rw [s5 k q1 q3, fb k q1 q2 q3]
    have tq : ∀ q, q ≠ 11 → q ≠ 12 → q ≠ 17 → τ1 248 q = τb 248 q := fun q q1 q2 q3 => by rw [s6 q q1 q2, fq q q1 q2 q3]
    have co : ∀ (a1 b1 : St), Sc a1 5 (b1 249) → Fn a a1 → (∀ k, k ≠ 248 → k ≠ 249 → b1 k = τ1 k) → (∀ q, q ≠ 17 → b1 248 q = τ1 248 q) → Co a1 (u2 b1 248 10 0) := fun a1 b1 z1 z2 z3 z4 => by
      refine h.under ?_ (fun k hk => by rw [z2 k hk, fn k hk]) (fun k hk => by rw [u2_ne (by omega), u2_ne (by omega), z3 k (by omega) (by omega), tb k (by omega) (by omega) (by omega)]) (fun q hq => ?_)
      · rw [u2_ne (by decide)]; exact z1
      · by_cases e : q = 10
        · rw [e, u2_self, u2_self]
        · rw [u2_same e, u2_same e, z4 q (by omega), tq q (by omega) (by omega) (by omega)]
    have scn : ∀ (a1 b1 : St), (∀ j, 23 ≤ j → a1 j = a j) → b1 250 = τ1 250 → Sc a1 (pl nx) (u2 b1 248 10 0 250) := fun a1 b1 z1 z2 => by
      rw [u2_ne (by decide), z2, tb 250 (by decide) (by decide) (by decide)]
      exact hS.cg (fun k h1 _ => by rw [z1 k (by omega), fn k (by omega)]) (fun _ _ => rfl)
    obtain ⟨m2, rfl⟩ : ∃ d, m2 = d + 1 := ⟨m2 - 1, by omega⟩
    have eC : B_X10_script_46 (m1 + 1) a 0 (Int32.ofNat k) = bcall (M_X10_obey a 0 (Int32.ofNat k)) fun σ9 r10 => if 0 ≤ r10 then (blet (Int32.ofNat k + (1 : Int32)) fun v11 => B_X10_script_46 m1 σ9 0 v11) else (bcall (M_X2_noted σ9 59) fun σ12 r13 => bcall (M_X7_take σ12 5 r13) fun σ14 r15 => if r10 = (-3 : Int32) then (bcall (M_X6_refuseOrder σ14 2 (Int32.ofNat k) (1 : Int32)) fun σ18 r19 => some (σ18, r19)) else (bcall (M_X6_refuseOrder σ14 2 (Int32.ofNat k) (0 : Int32)) fun σ16 r17 => some (σ16, r17))) := by
      simp only [B_X10_script_46, Nat.zero_add, Nat.reduceAdd]
      rw [ea, if_neg (oN_nle (by omega) (by omega) (by omega))]
    have eR : ∀ (b1 : St) (v : Int32), M_X11_carries τ1 248 = some (b1, v) → ¬ v = 0 → B_X11_script_86 (m2 + 1 + 1) b 248 (Int32.ofNat k) 0 1 = bcall (M_X11_comesBack (u2 b1 248 10 0) 248) fun σ8 _ => if v = (-3 : Int32) then (bcall (M_X11_refusesBy σ8 248 (12 : Int32) (Int32.ofNat k)) fun σ12 r13 => some (σ12, r13)) else (bcall (M_X11_refuses σ8 248 (12 : Int32) (Int32.ofNat k)) fun σ10 r11 => some (σ10, r11)) := fun b1 v z1 z2 => by
      rw [show B_X11_script_86 (m2 + 1 + 1) b 248 (Int32.ofNat k) 0 1 = if (1 : Int32) = 0 then (bput b 248 10 (0 : Int32) fun σ7 => if (0 : Int32) = 0 then (bcall (M_X11_keeps σ7 248 (Int32.ofNat k)) fun σ15 r16 => some (σ15, r16)) else (bcall (M_X11_comesBack σ7 248) fun σ8 r9 => if (0 : Int32) = (-3 : Int32) then (bcall (M_X11_refusesBy σ8 248 (12 : Int32) (Int32.ofNat k)) fun σ12 r13 => some (σ12, r13)) else (bcall (M_X11_refuses σ8 248 (12 : Int32) (Int32.ofNat k)) fun σ10 r11 => some (σ10, r11)))) else (bcall (M_X11_isOrder b 248) fun σ18 r19 => bcall (M_X11_carries σ18 248) fun σ20 r21 => if r21 = 0 then (blet (Int32.ofNat k + (1 : Int32)) fun v26 => if r21 = 0 then (bcall (M_X11_isNext σ20 248 (59 : Int32)) fun σ27 r28 => if r28 = 0 then (B_X11_script_86 (m2 + 1) σ27 248 v26 r21 (0 : Int32)) else (B_X11_script_86 (m2 + 1) σ27 248 v26 r21 (1 : Int32))) else (B_X11_script_86 (m2 + 1) σ20 248 v26 r21 (0 : Int32))) else (if r21 = 0 then (bcall (M_X11_isNext σ20 248 (59 : Int32)) fun σ22 r23 => if r23 = 0 then (B_X11_script_86 (m2 + 1) σ22 248 (Int32.ofNat k) r21 (0 : Int32)) else (B_X11_script_86 (m2 + 1) σ22 248 (Int32.ofNat k) r21 (1 : Int32))) else (B_X11_script_86 (m2 + 1) σ20 248 (Int32.ofNat k) r21 (0 : Int32)))) from rfl]
      rw [if_neg ni1, bcall_of s1, bcall_of z1, if_neg z2, if_neg z2]
      simp only [B_X11_script_86]
      rw [if_pos trivial, bput_eq, if_neg z2]
    have eO : ∀ (b1 : St), M_X11_carries τ1 248 = some (b1, 0) → B_X11_script_86 (m2 + 1 + 1) b 248 (Int32.ofNat k) 0 1 = bcall (M_X11_isNext b1 248 (59 : Int32)) fun σ27 r28 => if r28 = 0 then (B_X11_script_86 (m2 + 1) σ27 248 (Int32.ofNat (k + 1)) 0 (0 : Int32)) else (B_X11_script_86 (m2 + 1) σ27 248 (Int32.ofNat (k + 1)) 0 (1 : Int32)) := fun b1 z1 => by
      rw [show B_X11_script_86 (m2 + 1 + 1) b 248 (Int32.ofNat k) 0 1 = if (1 : Int32) = 0 then (bput b 248 10 (0 : Int32) fun σ7 => if (0 : Int32) = 0 then (bcall (M_X11_keeps σ7 248 (Int32.ofNat k)) fun σ15 r16 => some (σ15, r16)) else (bcall (M_X11_comesBack σ7 248) fun σ8 r9 => if (0 : Int32) = (-3 : Int32) then (bcall (M_X11_refusesBy σ8 248 (12 : Int32) (Int32.ofNat k)) fun σ12 r13 => some (σ12, r13)) else (bcall (M_X11_refuses σ8 248 (12 : Int32) (Int32.ofNat k)) fun σ10 r11 => some (σ10, r11)))) else (bcall (M_X11_isOrder b 248) fun σ18 r19 => bcall (M_X11_carries σ18 248) fun σ20 r21 => if r21 = 0 then (blet (Int32.ofNat k + (1 : Int32)) fun v26 => if r21 = 0 then (bcall (M_X11_isNext σ20 248 (59 : Int32)) fun σ27 r28 => if r28 = 0 then (B_X11_script_86 (m2 + 1) σ27 248 v26 r21 (0 : Int32)) else (B_X11_script_86 (m2 + 1) σ27 248 v26 r21 (1 : Int32))) else (B_X11_script_86 (m2 + 1) σ20 248 v26 r21 (0 : Int32))) else (if r21 = 0 then (bcall (M_X11_isNext σ20 248 (59 : Int32)) fun σ22 r23 => if r23 = 0 then (B_X11_script_86 (m2 + 1) σ22 248 (Int32.ofNat k) r21 (0 : Int32)) else (B_X11_script_86 (m2 + 1) σ22 248 (Int32.ofNat k) r21 (1 : Int32))) else (B_X11_script_86 (m2 + 1) σ20 248 (Int32.ofNat k) r21 (0 : Int32)))) from rfl]
      rw [if_neg ni1, bcall_of s1, bcall_of z1, if_pos rfl, blet_eq, if_pos rfl, oN_al]
    rw [eC]
    rcases hop with ⟨v, hv, e1, e2⟩ | ⟨a1, b1, e1, e2, hP, fa, fg⟩ | ⟨a1, b1, v, e1, e2, h0, _, sc2, fa, ft⟩
    · -- an order's code
      have v0 : ¬ v = 0 := by rcases hv with rfl | rfl <;> decide
      have vn : ¬ (0 : Int32) ≤ v := by rcases hv with rfl | rfl <;> decide
      have v3 : ¬ v = -3 := by rcases hv with rfl | rfl <;> decide
      obtain ⟨a2, b2, f1, f2, f3, f6, f7, f4, f5, -⟩ := zfail_no (co a τ1 ⟨nb, ns, nc, ni, r, i⟩ (fun _ _ => rfl) (fun _ _ _ => rfl) (fun _ _ => rfl)) hx (exa a (fun _ _ => rfl)) (scn a τ1 (fun _ _ => rfl) rfl) (Int32.ofNat k)
      rw [eR _ _ e2 v0, bcall_of e1, if_neg vn]
      simp only [if_neg v3]
      exact Or.inl ⟨a2, b2, -3, f1, f2, f3, ⟨fun k h1 h2 => by rw [f6 k h1, fn k (by omega)], Or.inl ⟨rfl, by rw [f6 59 (by omega), fn 59 (by omega)], fun r hr => f7 r (hr.cg (fun k h1 _ => fn k (by omega)) (fun _ _ => rfl))⟩⟩, fun k hk => by rw [f4 k hk, fn k (by omega)], fun k hk => by rw [f5 k hk, u2_ne (by omega), tb k (by omega) (by omega) (by omega)]⟩
    · -- an order that is refused
      have ca := co a τ1 ⟨nb, ns, nc, ni, r, i⟩ (fun _ _ => rfl) (fun _ _ _ => rfl) (fun _ _ => rfl)
      have gr : Gr (u2 τ1 248 10 0) (u2 b1 248 10 0) := ⟨fun k q1 q2 => by rw [u2_ne q1, u2_ne q1, fg.1 k q1 q2], fun q hq => by
        by_cases e : q = 10
        · rw [e, u2_self, u2_self]
        · rw [u2_same e, u2_same e, fg.2 q hq]⟩
      have hP2 : Pre 2 a1 (u2 b1 248 10 0) := hP.cg rfl (by rw [u2_same (by decide)]) rfl rfl (u2_ne (by decide))
      obtain ⟨a2, b2, f1, f2, f3, f6, f7, f4, f5⟩ := zfail_by (ca.refused hP2 (by decide) fa gr) hP2 hx (exa a1 (fun j hj => fa j (by omega) (by omega) (by omega))) (scn a1 b1 (fun j hj => fa j (by omega) (by omega) (by omega)) (fg.1 250 (by decide) (by decide))) (Int32.ofNat k)
      rw [eR _ _ e2 (by decide), bcall_of e1, if_neg (show ¬ (0 : Int32) ≤ -3 from by decide)]
      simp only [↓reduceIte]
      exact Or.inl ⟨a2, b2, -3, f1, f2, f3, ⟨fun k h1 h2 => by rw [f6 k h1, fa k (by omega) (by omega) (by omega), fn k (by omega)], Or.inl ⟨rfl, by rw [f6 59 (by omega), fa 59 (by omega) (by omega) (by omega), fn 59 (by omega)], fun r hr => f7 r (hr.cg (fun k h1 _ => by rw [fa k (by omega) (by omega) (by omega), fn k (by omega)]) (fun _ _ => rfl))⟩⟩, fun k hk => by rw [f4 k hk, fa k (by omega) (by omega) (by omega), fn k (by omega)], fun k hk => by rw [f5 k hk, u2_ne (by omega), fg.1 k (by omega) (by omega), tb k (by omega) (by omega) (by omega)]⟩
    · -- an order that is carried out
      have Ub1 : Tt c n b1 := Ub.cg (by rw [ft.2 10 (by decide), s6 10 (by decide) (by decide)]) (by rw [ft.1 255 (by decide) (by decide), s5 255 (by decide) (by decide)])
      have b1e : b1 248 11 = Int32.ofNat (odP c n (ps c n k)) := by rw [ft.2 11 (by decide)]; exact s2
      rw [eO _ e2, bcall_of e1, if_pos h0, blet_eq, oN_al]
      by_cases c1 : k < K
      · have n2 := next_ok (s := 59) Ub1 b1e (ch k c1)
        have n2 : M_X11_isNext b1 248 (59 : Int32) = _ := n2
        rw [bcall_of n2, if_neg ni1]
        refine Or.inr ⟨a1, u2 b1 248 11 (Int32.ofNat (odP c n (ps c n k) + 1)), rfl, rfl, by omega, ?_, fun j hj => by rw [fa j hj, fn j hj], fun j q1 q2 q3 => by rw [u2_ne q1, ft.1 j q1 q2, tb j q1 q2 q3], fun q q1 q2 q3 => by rw [u2_same q1, ft.2 q q3, tq q q1 q2 q3], u2_self⟩
        rw [u2_ne (by decide)]; exact sc2
      · obtain rfl : k = K := by omega
        have n2 := next_no (s := 59) Ub1 b1e (by omega) (by decide) (fun q => by have := q.1; omega)
        have n2 : M_X11_isNext b1 248 (59 : Int32) = _ := n2
        obtain ⟨m1, rfl⟩ : ∃ d, m1 = d + 1 := ⟨m1 - 1, by omega⟩
        have cc := co a1 b1 sc2 fa ft.1 ft.2
        have vk : (0 : Int32) ≤ Int32.ofNat (k + 1) := of_eq_true (oN_nn2 (by omega))
        obtain ⟨a2, b2, k1, k2, k3, k4, k5, k6⟩ := keep_ex cc.hi hx (exa a1 (fun j hj => fa j (by omega))) (scn a1 b1 (fun j hj => fa j (by omega)) (ft.1 250 (by decide) (by decide))) vk
        obtain ⟨a3, z1, z2, z3⟩ := kept_ez (σ := a1) (u := u) hh.1 hx (by rw [fa 59 (by omega), fn 59 (by omega)]; exact hh.2.2.1) (by rw [fa 59 (by omega), fn 59 (by omega)]; exact ex) vk
        rw [k1] at z1
        obtain ⟨rfl, -⟩ := Prod.mk.injEq _ _ _ _ ▸ Option.some.inj z1
        rw [bcall_of n2, if_pos rfl]
        refine Or.inl ⟨a2, b2, Int32.ofNat (k + 1), ?_, ?_, cc.kept k3 k4 k5 k6, ⟨fun j h1 h2 => by rw [k4 j h2, fa j (by omega), fn j (by omega)], Or.inr ⟨vk, z2⟩⟩, fun j hj => by rw [k4 j (by omega), fa j (by omega), fn j (by omega)], fun j hj => by rw [k5 j (by omega) (by omega), u2_ne (by omega), ft.1 j (by omega) (by omega), tb j (by omega) (by omega) (by omega)]⟩
        · simp only [B_X10_script_46, Nat.zero_add]
          rw [fa 245 (by omega), ea, if_pos (Int32.le_refl _), bcall_of k1]
        · simp only [B_X11_script_86]
          rw [if_pos trivial, bput_eq]
          simp only [↓reduceIte]
          rw [bcall_of k2]
  · have z := h.now
    rw [u2_ne (by decide)] at z
    exact z
theorem S_script {σ τ : St} {u nx : Nat} (h : Co σ τ) (hh : Hh σ u nx) : ∃ σ1 τ1 v, M_X10_script σ 0 = some (σ1, v) ∧ Co σ1 τ1 ∧ σ1 241 1 = 0 ∧ (∀ k, (k = 1 ∨ (23 ≤ k ∧ k < 241 ∧ k ≠ 59 ∧ (k < pl nx ∨ pl nx + 18 ≤ k))) → σ1 k = σ k) ∧ σ1 0 8 = σ 0 8 ∧
    ((v = -2 ∧ (∀ k, 2 ≤ k → k < 23 → σ1 k = σ k) ∧ σ1 59 = σ 59) ∨ (v = -3 ∧ σ1 59 = σ 59 ∧ (∀ r, Sc σ 5 r → Sc σ1 5 r) ∧ σ1 0 = σ 0) ∨ (0 ≤ v ∧ Hh σ1 (min (u + 1) 8) ((nx + 1) % 9) ∧ (∀ r, Sc σ 5 r → Sc σ1 (pl nx) r) ∧ σ1 0 = σ 0)) := by
  obtain ⟨n, hn, l1, l2, l3⟩ := h.inp
  have ni1 : ¬ ((1 : Int32) = 0) := by decide
  have tx : ∀ j, j < n → 32 ≤ (σ 242 j).toNatClampNeg ∧ (σ 242 j).toNatClampNeg ≤ 126 ∧ σ 242 j = Int32.ofNat (σ 242 j).toNatClampNeg ∧ τ 255 j = Int32.ofNat (σ 242 j).toNatClampNeg := fun j hj => by
    obtain ⟨g, g1, g2, g3, g4⟩ := l3 j hj
    have e : (σ 242 j).toNatClampNeg = g := by rw [g3]; exact oN_clamp (by omega)
    rw [e]
    exact ⟨g1, g2, g3, g4⟩
  generalize hc : (fun j => (σ 242 j).toNatClampNeg) = c
  have cj : ∀ j, (σ 242 j).toNatClampNeg = c j := fun j => by rw [← hc]
  obtain ⟨τ1, t1, t2, t3⟩ := tries_ex τ
  have T0 : Tc c n (u2 (u2 σ 245 2 0) 245 3 0) := ⟨by rw [u2_ne (by decide), u2_ne (by decide)]; exact l1, hn, fun j hj => by have := tx j hj; rw [cj] at this; exact ⟨this.1, this.2.1⟩, fun j hj => by have := tx j hj; rw [cj] at this; rw [u2_ne (by decide), u2_ne (by decide)]; exact this.2.2.1⟩
  have U0 : Tt c n (u2 τ1 248 11 0) := ⟨by rw [u2_same (by decide), t2 248 (by decide)]; exact l2, hn, fun j hj => by have := tx j hj; rw [cj] at this; exact ⟨this.1, this.2.1⟩, fun j hj => by have := tx j hj; rw [cj] at this; rw [u2_ne (by decide), t2 255 (by decide)]; exact this.2.2.2⟩
  have e0 : (0 : Int32) = Int32.ofNat 0 := rfl
  have key := read_both T0 U0 u2_self (by rw [u2_same (by decide), u2_self]; rfl) u2_self
  unfold M_X10_script M_X5_read M_X4_makeEmpty
  simp only [Nat.zero_add]
  rw [bput_eq, bput_eq]
  obtain ⟨hu, hx, q1, q2⟩ := id hh
  have hp0 : pl nx = 79 + 18 * nx := rfl
  rcases key with ⟨σ2, τ2, f, hf, x1, y1, f1, fc, ft⟩ | ⟨σ2, τ2, K, x1, y1, hK, k1, k2, k3, k4, fc, ft⟩
  · have y2 : B_X11_script_54 τ2 248 0 = some (u2 (u2 τ2 248 10 0) 248 14 (Int32.ofNat f), -2) := by
      unfold B_X11_script_54
      rw [if_pos rfl, bput_eq, bput_eq, u2_same (show 11 ≠ 10 by decide), f1]
    rw [bcall_of x1, bput_eq, bcall_some, if_neg (fun q => (oN_m4 (a := f) (by omega)).mp q), bput_eq]
    have hA : Co (u2 σ2 241 1 0) (u2 τ2 248 10 0) := h.input ⟨0, by omega, by rw [u2_self]; rfl, by rw [u2_self]; rfl, fun j hj => by omega⟩ (fun k hk => by rw [u2_ne (by omega), fc k (by omega) (by omega) (by omega), u2_ne (by omega), u2_ne (by omega)]) (fun k hk => by rw [u2_ne (by omega), ft.1 k (by omega) (by omega), u2_ne (by omega), t2 k (by omega)]) (fun q hq => by rw [u2_same (by omega), ft.2 q (by omega) (by omega), u2_same (by omega), t2 248 (by decide)])
    have fr : ∀ k, k ≠ 0 → k ≠ 241 → k ≠ 245 → k ≠ 246 → k ≠ 247 → u2 (u2 σ2 241 1 0) 0 9 (Int32.ofNat f) k = σ k := fun k q1 q2 q3 q4 q5 => by rw [u2_ne (by omega), u2_ne (by omega), fc k (by omega) (by omega) (by omega), u2_ne (by omega), u2_ne (by omega)]
    refine ⟨_, u2 (u2 τ2 248 10 0) 248 14 (Int32.ofNat f), _, rfl, ?_, by rw [u2_ne (by decide), u2_self], fun k hk => fr k (by omega) (by omega) (by omega) (by omega) (by omega), by rw [u2_same (by decide), u2_ne (by decide), fc 0 (by decide) (by decide) (by decide), u2_ne (by decide), u2_ne (by decide)], Or.inl ⟨rfl, fun k h1 h2 => fr k (by omega) (by omega) (by omega) (by omega) (by omega), fr 59 (by decide) (by decide) (by decide) (by decide) (by decide)⟩⟩
    exact ⟨hA.now.cg (fun k h1 _ => by rw [u2_ne (by omega)]) (fun q _ => by rw [u2_ne (by decide)]), hA.sv.cg (by rw [u2_same (by decide)]) (by rw [u2_same (by decide)]) (fun k h1 _ => by rw [u2_ne (by omega)]) (fun q _ => by rw [u2_ne (by decide)]),
      hA.hi.cg (u2_ne (by decide)) (by rw [u2_same (by decide)]) (fun k h1 _ => by rw [u2_ne (by omega)]) (u2_ne (by decide)), hA.inp.cg (by rw [u2_ne (by decide)]) (by rw [u2_same (by decide)]) (u2_ne (by decide)) (u2_ne (by decide)),
      hA.lin.cg (by rw [u2_ne (by decide)]) (by rw [u2_same (by decide)]) (u2_ne (by decide)) (u2_ne (by decide)), by unfold Pfl; rw [u2_self, u2_self], hA.re.cg (by rw [u2_ne (by decide)]) (by rw [u2_same (by decide)]) (u2_ne (by decide)) (u2_ne (by decide)) (u2_ne (by decide))⟩
  · have y2 : B_X11_script_54 τ2 248 1 = B_X11_script_86 FU (u2 τ2 248 11 0) 248 0 0 1 := by
      unfold B_X11_script_54
      rw [if_neg ni1, bput_eq]
    have hA : Co (u2 σ2 241 1 0) (u2 (u2 τ2 248 11 0) 248 10 0) := h.input ⟨0, by omega, by rw [u2_self]; rfl, by rw [u2_self]; rfl, fun j hj => by omega⟩ (fun k hk => by rw [u2_ne (by omega), fc k (by omega) (by omega) (by omega), u2_ne (by omega), u2_ne (by omega)]) (fun k hk => by rw [u2_ne (by omega), u2_ne (by omega), ft.1 k (by omega) (by omega), u2_ne (by omega), t2 k (by omega)]) (fun q hq => by rw [u2_same (by omega), u2_same (by omega), ft.2 q (by omega) (by omega), u2_same (by omega), t2 248 (by decide)])
    obtain ⟨σ3, nx2, n1, n2, n3, n4, n5, n6⟩ := note_ex hA
    have fA : ∀ k, k ≠ 241 → k ≠ 245 → k ≠ 246 → k ≠ 247 → u2 σ2 241 1 0 k = σ k := fun k q2 q3 q4 q5 => by rw [u2_ne (by omega), fc k (by omega) (by omega) (by omega), u2_ne (by omega), u2_ne (by omega)]
    obtain ⟨σ9, m1, m2, m3⟩ := note_ez (σ := u2 σ2 241 1 0) (by rw [fA 59 (by decide) (by decide) (by decide) (by decide)]; exact q2) hx
    rw [n1] at m1
    obtain ⟨rfl, -⟩ := Prod.mk.injEq _ _ _ _ ▸ Option.some.inj m1
    obtain rfl : nx2 = nx := by
      have a1 : σ3 59 2 = Int32.ofNat nx := by rw [m3 59 (by omega), fA 59 (by decide) (by decide) (by decide) (by decide)]; exact q2
      rw [n3] at a1
      exact (oN_eq (by omega) (by omega)).mp a1
    have hp : pl nx2 = 79 + 18 * nx2 := rfl
    have hh3 : Hh σ3 u nx2 := ⟨hu, hx, by rw [m3 59 (by omega), fA 59 (by decide) (by decide) (by decide) (by decide)]; exact q1, n3⟩
    have U2 : Tt c n (u2 τ2 248 11 0) := U0.cg (by rw [u2_same (by decide), ft.2 10 (by decide) (by decide)]) (by rw [u2_ne (by decide), ft.1 255 (by decide) (by decide)])
    have s245 : ∀ k, 241 ≤ k → k ≠ 241 → σ3 k = σ2 k := fun k q1 q2 => by rw [n6 k (by omega), u2_ne q2]
    have hS : Sc σ3 (pl nx2) ((u2 τ2 248 11 0) 250) := n4.cg (fun _ _ _ => rfl) (fun q hq => by rw [u2_ne (by decide), u2_ne (by decide), u2_ne (by decide), ft.1 250 (by decide) (by decide), ft.1 249 (by decide) (by decide), u2_ne (by decide), u2_ne (by decide), t3 q hq, t2 249 (by decide)])
    obtain ⟨σ4, τ4, v, r1, r2, r3, ⟨k5, k6⟩, r4, r5⟩ := zrun hh3 n5 U2 u2_self n2 n3 hS hK (by rw [s245 245 (by decide) (by decide)]; exact k1) (fun j hj => by
      obtain ⟨z1, z2, z3⟩ := k2 j hj
      exact ⟨z1, by rw [s245 246 (by decide) (by decide)]; exact z2, fun q hq => by rw [s245 247 (by decide) (by decide)]; exact z3 q hq⟩) k3 k4
    rw [bcall_of x1, bput_eq, bcall_some, if_pos rfl, bcall_of n1]
    have f3 : ∀ k, k ≠ 241 → k ≠ 245 → k ≠ 246 → k ≠ 247 → (k < pl nx2 ∨ pl nx2 + 18 ≤ k) → σ3 k = σ k := fun k q2 q3 q4 q5 q6 => by rw [m3 k q6, fA k q2 q3 q4 q5]
    have s5 : ∀ r, Sc σ 5 r → Sc σ3 (pl nx2) r := fun r hr => m2 r (hr.cg (fun k h1 h2 => fA k (by omega) (by omega) (by omega) (by omega)) (fun _ _ => rfl))
    refine ⟨σ4, τ4, v, r1, r3, by rw [k5 241 (by omega) (by decide), m3 241 (by omega), u2_self], fun k hk => by rw [k5 k (by omega) (by omega), f3 k (by omega) (by omega) (by omega) (by omega) (by omega)], by rw [k5 0 (by omega) (by decide), f3 0 (by decide) (by decide) (by decide) (by decide) (by omega)], Or.inr ?_⟩
    rcases k6 with ⟨rfl, e59, hs⟩ | ⟨h0, hH⟩
    · exact Or.inl ⟨rfl, by rw [e59, f3 59 (by decide) (by decide) (by decide) (by decide) (by omega)], fun r hr => hs r (s5 r hr), by rw [k5 0 (by omega) (by decide), f3 0 (by decide) (by decide) (by decide) (by decide) (by omega)]⟩
    · exact Or.inr ⟨h0, hH, fun r hr => (s5 r hr).cg (fun k h1 h2 => k5 k (by omega) (by omega)) (fun _ _ => rfl), by rw [k5 0 (by omega) (by decide), f3 0 (by decide) (by decide) (by decide) (by decide) (by omega)]⟩
