/-! a scaffold of the class (block of 18 cells at b) against a row of the reference -/
def Blk (b : Nat) : Prop := (ln (b + 2) = 8) ∧ (ln (b + 3) = 8) ∧ (ln (b + 5) = 10) ∧ (ln (b + 6) = 10) ∧ (ln (b + 7) = 10) ∧ (ln (b + 8) = 10) ∧ (ln (b + 9) = 10) ∧ (ln (b + 10) = 10) ∧ (ln (b + 12) = 5) ∧ (ln (b + 13) = 5) ∧ (ln (b + 14) = 5) ∧ (ln (b + 16) = 3) ∧ (ln (b + 17) = 3) ∧ (b + 18 ≤ 248)
theorem Blk.l2 {b : Nat} (h : Blk b) : ln (b + 2) = 8 := h.1
theorem Blk.l3 {b : Nat} (h : Blk b) : ln (b + 3) = 8 := h.2.1
theorem Blk.l5 {b : Nat} (h : Blk b) : ln (b + 5) = 10 := h.2.2.1
theorem Blk.l6 {b : Nat} (h : Blk b) : ln (b + 6) = 10 := h.2.2.2.1
theorem Blk.l7 {b : Nat} (h : Blk b) : ln (b + 7) = 10 := h.2.2.2.2.1
theorem Blk.l8 {b : Nat} (h : Blk b) : ln (b + 8) = 10 := h.2.2.2.2.2.1
theorem Blk.l9 {b : Nat} (h : Blk b) : ln (b + 9) = 10 := h.2.2.2.2.2.2.1
theorem Blk.l10 {b : Nat} (h : Blk b) : ln (b + 10) = 10 := h.2.2.2.2.2.2.2.1
theorem Blk.l12 {b : Nat} (h : Blk b) : ln (b + 12) = 5 := h.2.2.2.2.2.2.2.2.1
theorem Blk.l13 {b : Nat} (h : Blk b) : ln (b + 13) = 5 := h.2.2.2.2.2.2.2.2.2.1
theorem Blk.l14 {b : Nat} (h : Blk b) : ln (b + 14) = 5 := h.2.2.2.2.2.2.2.2.2.2.1
theorem Blk.l16 {b : Nat} (h : Blk b) : ln (b + 16) = 3 := h.2.2.2.2.2.2.2.2.2.2.2.1
theorem Blk.l17 {b : Nat} (h : Blk b) : ln (b + 17) = 3 := h.2.2.2.2.2.2.2.2.2.2.2.2.1
theorem Blk.hi {b : Nat} (h : Blk b) : b + 18 ≤ 248 := h.2.2.2.2.2.2.2.2.2.2.2.2.2
theorem Blk.mk {b : Nat} (l2 : ln (b + 2) = 8) (l3 : ln (b + 3) = 8) (l5 : ln (b + 5) = 10) (l6 : ln (b + 6) = 10) (l7 : ln (b + 7) = 10) (l8 : ln (b + 8) = 10) (l9 : ln (b + 9) = 10) (l10 : ln (b + 10) = 10) (l12 : ln (b + 12) = 5) (l13 : ln (b + 13) = 5) (l14 : ln (b + 14) = 5) (l16 : ln (b + 16) = 3) (l17 : ln (b + 17) = 3) (hi : b + 18 ≤ 248) : Blk b := ⟨l2, l3, l5, l6, l7, l8, l9, l10, l12, l13, l14, l16, l17, hi⟩
def RS (σ : St) (b : Nat) (r : Nat → Int32) (nb ns nc ni : Nat) : Prop := (Blk b) ∧ (σ b 4 = r 0) ∧ (σ b 5 = r 1) ∧ (σ b 6 = r 6) ∧ (σ b 7 = r 7) ∧ (σ b 8 = r 8) ∧ (σ b 9 = r 12) ∧ (σ b 10 = r 9) ∧ (σ b 11 = r 13) ∧ (σ b 12 = r 10) ∧ (σ b 13 = r 11) ∧ (σ (b + 1) 2 = Int32.ofNat nb) ∧ (σ (b + 4) 6 = Int32.ofNat ns) ∧ (σ (b + 11) 3 = Int32.ofNat nc) ∧ (σ (b + 15) 2 = Int32.ofNat ni) ∧ (∀ i, i < nb → σ (b + 2) i = r (14 + 2 * i)) ∧ (∀ i, i < nb → σ (b + 3) i = r (14 + 2 * i + 1)) ∧ (∀ i, i < ns → σ (b + 5) i = r (30 + 6 * i + 0)) ∧ (∀ i, i < ns → σ (b + 6) i = r (30 + 6 * i + 1)) ∧ (∀ i, i < ns → σ (b + 7) i = r (30 + 6 * i + 2)) ∧ (∀ i, i < ns → σ (b + 8) i = r (30 + 6 * i + 3)) ∧ (∀ i, i < ns → σ (b + 9) i = r (30 + 6 * i + 4)) ∧ (∀ i, i < ns → σ (b + 10) i = mm (r (30 + 6 * i + 5))) ∧ (∀ i, i < nc → σ (b + 12) i = r (90 + 3 * i)) ∧ (∀ i, i < nc → σ (b + 13) i = mm (r (90 + 3 * i + 1))) ∧ (∀ i, i < nc → σ (b + 14) i = r (90 + 3 * i + 2)) ∧ (∀ i, i < ni → σ (b + 16) i = r (105 + 2 * i)) ∧ (∀ i, i < ni → σ (b + 17) i = r (105 + 2 * i + 1))
theorem RS.B {σ : St} {b : Nat} {r : Nat → Int32} {nb ns nc ni : Nat} (h : RS σ b r nb ns nc ni) : Blk b := h.1
theorem RS.f4 {σ : St} {b : Nat} {r : Nat → Int32} {nb ns nc ni : Nat} (h : RS σ b r nb ns nc ni) : σ b 4 = r 0 := h.2.1
theorem RS.f5 {σ : St} {b : Nat} {r : Nat → Int32} {nb ns nc ni : Nat} (h : RS σ b r nb ns nc ni) : σ b 5 = r 1 := h.2.2.1
theorem RS.f6 {σ : St} {b : Nat} {r : Nat → Int32} {nb ns nc ni : Nat} (h : RS σ b r nb ns nc ni) : σ b 6 = r 6 := h.2.2.2.1
theorem RS.f7 {σ : St} {b : Nat} {r : Nat → Int32} {nb ns nc ni : Nat} (h : RS σ b r nb ns nc ni) : σ b 7 = r 7 := h.2.2.2.2.1
theorem RS.f8 {σ : St} {b : Nat} {r : Nat → Int32} {nb ns nc ni : Nat} (h : RS σ b r nb ns nc ni) : σ b 8 = r 8 := h.2.2.2.2.2.1
theorem RS.f9 {σ : St} {b : Nat} {r : Nat → Int32} {nb ns nc ni : Nat} (h : RS σ b r nb ns nc ni) : σ b 9 = r 12 := h.2.2.2.2.2.2.1
theorem RS.f10 {σ : St} {b : Nat} {r : Nat → Int32} {nb ns nc ni : Nat} (h : RS σ b r nb ns nc ni) : σ b 10 = r 9 := h.2.2.2.2.2.2.2.1
theorem RS.f11 {σ : St} {b : Nat} {r : Nat → Int32} {nb ns nc ni : Nat} (h : RS σ b r nb ns nc ni) : σ b 11 = r 13 := h.2.2.2.2.2.2.2.2.1
theorem RS.f12 {σ : St} {b : Nat} {r : Nat → Int32} {nb ns nc ni : Nat} (h : RS σ b r nb ns nc ni) : σ b 12 = r 10 := h.2.2.2.2.2.2.2.2.2.1
theorem RS.f13 {σ : St} {b : Nat} {r : Nat → Int32} {nb ns nc ni : Nat} (h : RS σ b r nb ns nc ni) : σ b 13 = r 11 := h.2.2.2.2.2.2.2.2.2.2.1
theorem RS.cb {σ : St} {b : Nat} {r : Nat → Int32} {nb ns nc ni : Nat} (h : RS σ b r nb ns nc ni) : σ (b + 1) 2 = Int32.ofNat nb := h.2.2.2.2.2.2.2.2.2.2.2.1
theorem RS.cs {σ : St} {b : Nat} {r : Nat → Int32} {nb ns nc ni : Nat} (h : RS σ b r nb ns nc ni) : σ (b + 4) 6 = Int32.ofNat ns := h.2.2.2.2.2.2.2.2.2.2.2.2.1
theorem RS.cc {σ : St} {b : Nat} {r : Nat → Int32} {nb ns nc ni : Nat} (h : RS σ b r nb ns nc ni) : σ (b + 11) 3 = Int32.ofNat nc := h.2.2.2.2.2.2.2.2.2.2.2.2.2.1
theorem RS.ci {σ : St} {b : Nat} {r : Nat → Int32} {nb ns nc ni : Nat} (h : RS σ b r nb ns nc ni) : σ (b + 15) 2 = Int32.ofNat ni := h.2.2.2.2.2.2.2.2.2.2.2.2.2.2.1
theorem RS.a2 {σ : St} {b : Nat} {r : Nat → Int32} {nb ns nc ni : Nat} (h : RS σ b r nb ns nc ni) : ∀ i, i < nb → σ (b + 2) i = r (14 + 2 * i) := h.2.2.2.2.2.2.2.2.2.2.2.2.2.2.2.1
theorem RS.a3 {σ : St} {b : Nat} {r : Nat → Int32} {nb ns nc ni : Nat} (h : RS σ b r nb ns nc ni) : ∀ i, i < nb → σ (b + 3) i = r (14 + 2 * i + 1) := h.2.2.2.2.2.2.2.2.2.2.2.2.2.2.2.2.1
theorem RS.a5 {σ : St} {b : Nat} {r : Nat → Int32} {nb ns nc ni : Nat} (h : RS σ b r nb ns nc ni) : ∀ i, i < ns → σ (b + 5) i = r (30 + 6 * i + 0) := h.2.2.2.2.2.2.2.2.2.2.2.2.2.2.2.2.2.1
theorem RS.a6 {σ : St} {b : Nat} {r : Nat → Int32} {nb ns nc ni : Nat} (h : RS σ b r nb ns nc ni) : ∀ i, i < ns → σ (b + 6) i = r (30 + 6 * i + 1) := h.2.2.2.2.2.2.2.2.2.2.2.2.2.2.2.2.2.2.1
theorem RS.a7 {σ : St} {b : Nat} {r : Nat → Int32} {nb ns nc ni : Nat} (h : RS σ b r nb ns nc ni) : ∀ i, i < ns → σ (b + 7) i = r (30 + 6 * i + 2) := h.2.2.2.2.2.2.2.2.2.2.2.2.2.2.2.2.2.2.2.1
theorem RS.a8 {σ : St} {b : Nat} {r : Nat → Int32} {nb ns nc ni : Nat} (h : RS σ b r nb ns nc ni) : ∀ i, i < ns → σ (b + 8) i = r (30 + 6 * i + 3) := h.2.2.2.2.2.2.2.2.2.2.2.2.2.2.2.2.2.2.2.2.1
theorem RS.a9 {σ : St} {b : Nat} {r : Nat → Int32} {nb ns nc ni : Nat} (h : RS σ b r nb ns nc ni) : ∀ i, i < ns → σ (b + 9) i = r (30 + 6 * i + 4) := h.2.2.2.2.2.2.2.2.2.2.2.2.2.2.2.2.2.2.2.2.2.1
theorem RS.a10 {σ : St} {b : Nat} {r : Nat → Int32} {nb ns nc ni : Nat} (h : RS σ b r nb ns nc ni) : ∀ i, i < ns → σ (b + 10) i = mm (r (30 + 6 * i + 5)) := h.2.2.2.2.2.2.2.2.2.2.2.2.2.2.2.2.2.2.2.2.2.2.1
theorem RS.a12 {σ : St} {b : Nat} {r : Nat → Int32} {nb ns nc ni : Nat} (h : RS σ b r nb ns nc ni) : ∀ i, i < nc → σ (b + 12) i = r (90 + 3 * i) := h.2.2.2.2.2.2.2.2.2.2.2.2.2.2.2.2.2.2.2.2.2.2.2.1
theorem RS.a13 {σ : St} {b : Nat} {r : Nat → Int32} {nb ns nc ni : Nat} (h : RS σ b r nb ns nc ni) : ∀ i, i < nc → σ (b + 13) i = mm (r (90 + 3 * i + 1)) := h.2.2.2.2.2.2.2.2.2.2.2.2.2.2.2.2.2.2.2.2.2.2.2.2.1
theorem RS.a14 {σ : St} {b : Nat} {r : Nat → Int32} {nb ns nc ni : Nat} (h : RS σ b r nb ns nc ni) : ∀ i, i < nc → σ (b + 14) i = r (90 + 3 * i + 2) := h.2.2.2.2.2.2.2.2.2.2.2.2.2.2.2.2.2.2.2.2.2.2.2.2.2.1
theorem RS.a16 {σ : St} {b : Nat} {r : Nat → Int32} {nb ns nc ni : Nat} (h : RS σ b r nb ns nc ni) : ∀ i, i < ni → σ (b + 16) i = r (105 + 2 * i) := h.2.2.2.2.2.2.2.2.2.2.2.2.2.2.2.2.2.2.2.2.2.2.2.2.2.2.1
theorem RS.a17 {σ : St} {b : Nat} {r : Nat → Int32} {nb ns nc ni : Nat} (h : RS σ b r nb ns nc ni) : ∀ i, i < ni → σ (b + 17) i = r (105 + 2 * i + 1) := h.2.2.2.2.2.2.2.2.2.2.2.2.2.2.2.2.2.2.2.2.2.2.2.2.2.2.2
theorem RS.mk {σ : St} {b : Nat} {r : Nat → Int32} {nb ns nc ni : Nat} (B : Blk b) (f4 : σ b 4 = r 0) (f5 : σ b 5 = r 1) (f6 : σ b 6 = r 6) (f7 : σ b 7 = r 7) (f8 : σ b 8 = r 8) (f9 : σ b 9 = r 12) (f10 : σ b 10 = r 9) (f11 : σ b 11 = r 13) (f12 : σ b 12 = r 10) (f13 : σ b 13 = r 11) (cb : σ (b + 1) 2 = Int32.ofNat nb) (cs : σ (b + 4) 6 = Int32.ofNat ns) (cc : σ (b + 11) 3 = Int32.ofNat nc) (ci : σ (b + 15) 2 = Int32.ofNat ni) (a2 : ∀ i, i < nb → σ (b + 2) i = r (14 + 2 * i)) (a3 : ∀ i, i < nb → σ (b + 3) i = r (14 + 2 * i + 1)) (a5 : ∀ i, i < ns → σ (b + 5) i = r (30 + 6 * i + 0)) (a6 : ∀ i, i < ns → σ (b + 6) i = r (30 + 6 * i + 1)) (a7 : ∀ i, i < ns → σ (b + 7) i = r (30 + 6 * i + 2)) (a8 : ∀ i, i < ns → σ (b + 8) i = r (30 + 6 * i + 3)) (a9 : ∀ i, i < ns → σ (b + 9) i = r (30 + 6 * i + 4)) (a10 : ∀ i, i < ns → σ (b + 10) i = mm (r (30 + 6 * i + 5))) (a12 : ∀ i, i < nc → σ (b + 12) i = r (90 + 3 * i)) (a13 : ∀ i, i < nc → σ (b + 13) i = mm (r (90 + 3 * i + 1))) (a14 : ∀ i, i < nc → σ (b + 14) i = r (90 + 3 * i + 2)) (a16 : ∀ i, i < ni → σ (b + 16) i = r (105 + 2 * i)) (a17 : ∀ i, i < ni → σ (b + 17) i = r (105 + 2 * i + 1)) : RS σ b r nb ns nc ni := ⟨B, f4, f5, f6, f7, f8, f9, f10, f11, f12, f13, cb, cs, cc, ci, a2, a3, a5, a6, a7, a8, a9, a10, a12, a13, a14, a16, a17⟩
/-- what holds of a row -/
def Iv (r : Nat → Int32) (nb ns nc ni : Nat) : Prop := (nb ≤ 8) ∧ (ns ≤ 10) ∧ (nc ≤ 5) ∧ (ni ≤ 3) ∧ (r 2 = Int32.ofNat nb) ∧ (r 3 = Int32.ofNat ns) ∧ (r 4 = Int32.ofNat nc) ∧ (r 5 = Int32.ofNat ni) ∧ (∃ g, g ≤ 10 ∧ r 1 = Int32.ofNat g) ∧ (∃ g, g ≤ 200 ∧ r 6 = Int32.ofNat g) ∧ (∃ g, g ≤ 20 ∧ r 7 = Int32.ofNat g) ∧ (∀ i, i < nb → ∃ g, g ≤ 60 ∧ r (14 + 2 * i + 1) = Int32.ofNat g) ∧ (∀ i, i < ns → ∃ g, g ≤ 8 ∧ r (30 + 6 * i + 0) = Int32.ofNat g) ∧ (∀ i, i < ns → ∃ g, g ≤ 60 ∧ r (30 + 6 * i + 1) = Int32.ofNat g) ∧ (∀ i, i < ns → ∃ g, g ≤ 99 ∧ r (30 + 6 * i + 2) = Int32.ofNat g) ∧ (∀ i, i < ns → ∃ g, g ≤ 40 ∧ r (30 + 6 * i + 3) = Int32.ofNat g) ∧ (∀ i, i < ns → ∃ g, g ≤ 9 ∧ r (30 + 6 * i + 4) = Int32.ofNat g) ∧ (∀ i, i < ns → ∃ g, g ≤ 3 ∧ r (30 + 6 * i + 5) = Int32.ofNat g) ∧ (∀ i, i < nc → ∃ g, 1 ≤ g ∧ g ≤ 4 ∧ r (90 + 3 * i) = Int32.ofNat g) ∧ (∀ i, i < nc → ∃ g, g ≤ ns ∧ r (90 + 3 * i + 1) = Int32.ofNat g) ∧ (∀ i, i < ni → ∃ g, g ≤ 9 ∧ r (105 + 2 * i) = Int32.ofNat g) ∧ ((3 : Int32) ≤ r 1 → ∀ i, i < nc → r (90 + 3 * i + 1) = 0) ∧ (∀ i c, i < ns → c < nc → r (30 + 6 * i + 5) ≠ 0 → r (90 + 3 * c + 1) ≠ Int32.ofNat (i + 1))
theorem Iv.hb {r : Nat → Int32} {nb ns nc ni : Nat} (h : Iv r nb ns nc ni) : nb ≤ 8 := h.1
theorem Iv.hs {r : Nat → Int32} {nb ns nc ni : Nat} (h : Iv r nb ns nc ni) : ns ≤ 10 := h.2.1
theorem Iv.hc {r : Nat → Int32} {nb ns nc ni : Nat} (h : Iv r nb ns nc ni) : nc ≤ 5 := h.2.2.1
theorem Iv.hi {r : Nat → Int32} {nb ns nc ni : Nat} (h : Iv r nb ns nc ni) : ni ≤ 3 := h.2.2.2.1
theorem Iv.cb {r : Nat → Int32} {nb ns nc ni : Nat} (h : Iv r nb ns nc ni) : r 2 = Int32.ofNat nb := h.2.2.2.2.1
theorem Iv.cs {r : Nat → Int32} {nb ns nc ni : Nat} (h : Iv r nb ns nc ni) : r 3 = Int32.ofNat ns := h.2.2.2.2.2.1
theorem Iv.cc {r : Nat → Int32} {nb ns nc ni : Nat} (h : Iv r nb ns nc ni) : r 4 = Int32.ofNat nc := h.2.2.2.2.2.2.1
theorem Iv.ci {r : Nat → Int32} {nb ns nc ni : Nat} (h : Iv r nb ns nc ni) : r 5 = Int32.ofNat ni := h.2.2.2.2.2.2.2.1
theorem Iv.sg {r : Nat → Int32} {nb ns nc ni : Nat} (h : Iv r nb ns nc ni) : ∃ g, g ≤ 10 ∧ r 1 = Int32.ofNat g := h.2.2.2.2.2.2.2.2.1
theorem Iv.st {r : Nat → Int32} {nb ns nc ni : Nat} (h : Iv r nb ns nc ni) : ∃ g, g ≤ 200 ∧ r 6 = Int32.ofNat g := h.2.2.2.2.2.2.2.2.2.1
theorem Iv.tu {r : Nat → Int32} {nb ns nc ni : Nat} (h : Iv r nb ns nc ni) : ∃ g, g ≤ 20 ∧ r 7 = Int32.ofNat g := h.2.2.2.2.2.2.2.2.2.2.1
theorem Iv.ba {r : Nat → Int32} {nb ns nc ni : Nat} (h : Iv r nb ns nc ni) : ∀ i, i < nb → ∃ g, g ≤ 60 ∧ r (14 + 2 * i + 1) = Int32.ofNat g := h.2.2.2.2.2.2.2.2.2.2.2.1
theorem Iv.sp {r : Nat → Int32} {nb ns nc ni : Nat} (h : Iv r nb ns nc ni) : ∀ i, i < ns → ∃ g, g ≤ 8 ∧ r (30 + 6 * i + 0) = Int32.ofNat g := h.2.2.2.2.2.2.2.2.2.2.2.2.1
theorem Iv.sw {r : Nat → Int32} {nb ns nc ni : Nat} (h : Iv r nb ns nc ni) : ∀ i, i < ns → ∃ g, g ≤ 60 ∧ r (30 + 6 * i + 1) = Int32.ofNat g := h.2.2.2.2.2.2.2.2.2.2.2.2.2.1
theorem Iv.tt {r : Nat → Int32} {nb ns nc ni : Nat} (h : Iv r nb ns nc ni) : ∀ i, i < ns → ∃ g, g ≤ 99 ∧ r (30 + 6 * i + 2) = Int32.ofNat g := h.2.2.2.2.2.2.2.2.2.2.2.2.2.2.1
theorem Iv.sh {r : Nat → Int32} {nb ns nc ni : Nat} (h : Iv r nb ns nc ni) : ∀ i, i < ns → ∃ g, g ≤ 40 ∧ r (30 + 6 * i + 3) = Int32.ofNat g := h.2.2.2.2.2.2.2.2.2.2.2.2.2.2.2.1
theorem Iv.sl {r : Nat → Int32} {nb ns nc ni : Nat} (h : Iv r nb ns nc ni) : ∀ i, i < ns → ∃ g, g ≤ 9 ∧ r (30 + 6 * i + 4) = Int32.ofNat g := h.2.2.2.2.2.2.2.2.2.2.2.2.2.2.2.2.1
theorem Iv.su {r : Nat → Int32} {nb ns nc ni : Nat} (h : Iv r nb ns nc ni) : ∀ i, i < ns → ∃ g, g ≤ 3 ∧ r (30 + 6 * i + 5) = Int32.ofNat g := h.2.2.2.2.2.2.2.2.2.2.2.2.2.2.2.2.2.1
theorem Iv.ck {r : Nat → Int32} {nb ns nc ni : Nat} (h : Iv r nb ns nc ni) : ∀ i, i < nc → ∃ g, 1 ≤ g ∧ g ≤ 4 ∧ r (90 + 3 * i) = Int32.ofNat g := h.2.2.2.2.2.2.2.2.2.2.2.2.2.2.2.2.2.2.1
theorem Iv.cp {r : Nat → Int32} {nb ns nc ni : Nat} (h : Iv r nb ns nc ni) : ∀ i, i < nc → ∃ g, g ≤ ns ∧ r (90 + 3 * i + 1) = Int32.ofNat g := h.2.2.2.2.2.2.2.2.2.2.2.2.2.2.2.2.2.2.2.1
theorem Iv.nn {r : Nat → Int32} {nb ns nc ni : Nat} (h : Iv r nb ns nc ni) : ∀ i, i < ni → ∃ g, g ≤ 9 ∧ r (105 + 2 * i) = Int32.ofNat g := h.2.2.2.2.2.2.2.2.2.2.2.2.2.2.2.2.2.2.2.2.1
theorem Iv.gr {r : Nat → Int32} {nb ns nc ni : Nat} (h : Iv r nb ns nc ni) : (3 : Int32) ≤ r 1 → ∀ i, i < nc → r (90 + 3 * i + 1) = 0 := h.2.2.2.2.2.2.2.2.2.2.2.2.2.2.2.2.2.2.2.2.2.1
theorem Iv.nc0 {r : Nat → Int32} {nb ns nc ni : Nat} (h : Iv r nb ns nc ni) : ∀ i c, i < ns → c < nc → r (30 + 6 * i + 5) ≠ 0 → r (90 + 3 * c + 1) ≠ Int32.ofNat (i + 1) := h.2.2.2.2.2.2.2.2.2.2.2.2.2.2.2.2.2.2.2.2.2.2
theorem Iv.mk {r : Nat → Int32} {nb ns nc ni : Nat} (hb : nb ≤ 8) (hs : ns ≤ 10) (hc : nc ≤ 5) (hi : ni ≤ 3) (cb : r 2 = Int32.ofNat nb) (cs : r 3 = Int32.ofNat ns) (cc : r 4 = Int32.ofNat nc) (ci : r 5 = Int32.ofNat ni) (sg : ∃ g, g ≤ 10 ∧ r 1 = Int32.ofNat g) (st : ∃ g, g ≤ 200 ∧ r 6 = Int32.ofNat g) (tu : ∃ g, g ≤ 20 ∧ r 7 = Int32.ofNat g) (ba : ∀ i, i < nb → ∃ g, g ≤ 60 ∧ r (14 + 2 * i + 1) = Int32.ofNat g) (sp : ∀ i, i < ns → ∃ g, g ≤ 8 ∧ r (30 + 6 * i + 0) = Int32.ofNat g) (sw : ∀ i, i < ns → ∃ g, g ≤ 60 ∧ r (30 + 6 * i + 1) = Int32.ofNat g) (tt : ∀ i, i < ns → ∃ g, g ≤ 99 ∧ r (30 + 6 * i + 2) = Int32.ofNat g) (sh : ∀ i, i < ns → ∃ g, g ≤ 40 ∧ r (30 + 6 * i + 3) = Int32.ofNat g) (sl : ∀ i, i < ns → ∃ g, g ≤ 9 ∧ r (30 + 6 * i + 4) = Int32.ofNat g) (su : ∀ i, i < ns → ∃ g, g ≤ 3 ∧ r (30 + 6 * i + 5) = Int32.ofNat g) (ck : ∀ i, i < nc → ∃ g, 1 ≤ g ∧ g ≤ 4 ∧ r (90 + 3 * i) = Int32.ofNat g) (cp : ∀ i, i < nc → ∃ g, g ≤ ns ∧ r (90 + 3 * i + 1) = Int32.ofNat g) (nn : ∀ i, i < ni → ∃ g, g ≤ 9 ∧ r (105 + 2 * i) = Int32.ofNat g) (gr : (3 : Int32) ≤ r 1 → ∀ i, i < nc → r (90 + 3 * i + 1) = 0) (nc0 : ∀ i c, i < ns → c < nc → r (30 + 6 * i + 5) ≠ 0 → r (90 + 3 * c + 1) ≠ Int32.ofNat (i + 1)) : Iv r nb ns nc ni := ⟨hb, hs, hc, hi, cb, cs, cc, ci, sg, st, tu, ba, sp, sw, tt, sh, sl, su, ck, cp, nn, gr, nc0⟩
theorem ln249 : ln 249 = 111 := by decide +kernel
theorem at_2 {σ : St} {b i : Nat} (B : Blk b) (h : i < 8) : M_X10_at σ (b + 1 + 1) (Int32.ofNat i) = some (σ, σ (b + 2) i) := at_nat (k := b + 2) (by rw [B.l2]; exact h)
theorem put_2 {σ : St} {b i : Nat} {v : Int32} (B : Blk b) (h : i < 8) : M_X10_put σ (b + 1 + 1) (Int32.ofNat i) v = some (u2 σ (b + 2) i v, 0) := put_nat (k := b + 2) (by rw [B.l2]; exact h)
theorem at_3 {σ : St} {b i : Nat} (B : Blk b) (h : i < 8) : M_X10_at σ (b + 1 + 2) (Int32.ofNat i) = some (σ, σ (b + 3) i) := at_nat (k := b + 3) (by rw [B.l3]; exact h)
theorem put_3 {σ : St} {b i : Nat} {v : Int32} (B : Blk b) (h : i < 8) : M_X10_put σ (b + 1 + 2) (Int32.ofNat i) v = some (u2 σ (b + 3) i v, 0) := put_nat (k := b + 3) (by rw [B.l3]; exact h)
theorem at_5 {σ : St} {b i : Nat} (B : Blk b) (h : i < 10) : M_X10_at σ (b + 4 + 1) (Int32.ofNat i) = some (σ, σ (b + 5) i) := at_nat (k := b + 5) (by rw [B.l5]; exact h)
theorem put_5 {σ : St} {b i : Nat} {v : Int32} (B : Blk b) (h : i < 10) : M_X10_put σ (b + 4 + 1) (Int32.ofNat i) v = some (u2 σ (b + 5) i v, 0) := put_nat (k := b + 5) (by rw [B.l5]; exact h)
theorem at_6 {σ : St} {b i : Nat} (B : Blk b) (h : i < 10) : M_X10_at σ (b + 4 + 2) (Int32.ofNat i) = some (σ, σ (b + 6) i) := at_nat (k := b + 6) (by rw [B.l6]; exact h)
theorem put_6 {σ : St} {b i : Nat} {v : Int32} (B : Blk b) (h : i < 10) : M_X10_put σ (b + 4 + 2) (Int32.ofNat i) v = some (u2 σ (b + 6) i v, 0) := put_nat (k := b + 6) (by rw [B.l6]; exact h)
theorem at_7 {σ : St} {b i : Nat} (B : Blk b) (h : i < 10) : M_X10_at σ (b + 4 + 3) (Int32.ofNat i) = some (σ, σ (b + 7) i) := at_nat (k := b + 7) (by rw [B.l7]; exact h)
theorem put_7 {σ : St} {b i : Nat} {v : Int32} (B : Blk b) (h : i < 10) : M_X10_put σ (b + 4 + 3) (Int32.ofNat i) v = some (u2 σ (b + 7) i v, 0) := put_nat (k := b + 7) (by rw [B.l7]; exact h)
theorem at_8 {σ : St} {b i : Nat} (B : Blk b) (h : i < 10) : M_X10_at σ (b + 4 + 4) (Int32.ofNat i) = some (σ, σ (b + 8) i) := at_nat (k := b + 8) (by rw [B.l8]; exact h)
theorem put_8 {σ : St} {b i : Nat} {v : Int32} (B : Blk b) (h : i < 10) : M_X10_put σ (b + 4 + 4) (Int32.ofNat i) v = some (u2 σ (b + 8) i v, 0) := put_nat (k := b + 8) (by rw [B.l8]; exact h)
theorem at_9 {σ : St} {b i : Nat} (B : Blk b) (h : i < 10) : M_X10_at σ (b + 4 + 5) (Int32.ofNat i) = some (σ, σ (b + 9) i) := at_nat (k := b + 9) (by rw [B.l9]; exact h)
theorem put_9 {σ : St} {b i : Nat} {v : Int32} (B : Blk b) (h : i < 10) : M_X10_put σ (b + 4 + 5) (Int32.ofNat i) v = some (u2 σ (b + 9) i v, 0) := put_nat (k := b + 9) (by rw [B.l9]; exact h)
theorem at_10 {σ : St} {b i : Nat} (B : Blk b) (h : i < 10) : M_X10_at σ (b + 4 + 6) (Int32.ofNat i) = some (σ, σ (b + 10) i) := at_nat (k := b + 10) (by rw [B.l10]; exact h)
theorem put_10 {σ : St} {b i : Nat} {v : Int32} (B : Blk b) (h : i < 10) : M_X10_put σ (b + 4 + 6) (Int32.ofNat i) v = some (u2 σ (b + 10) i v, 0) := put_nat (k := b + 10) (by rw [B.l10]; exact h)
theorem at_12 {σ : St} {b i : Nat} (B : Blk b) (h : i < 5) : M_X10_at σ (b + 11 + 1) (Int32.ofNat i) = some (σ, σ (b + 12) i) := at_nat (k := b + 12) (by rw [B.l12]; exact h)
theorem put_12 {σ : St} {b i : Nat} {v : Int32} (B : Blk b) (h : i < 5) : M_X10_put σ (b + 11 + 1) (Int32.ofNat i) v = some (u2 σ (b + 12) i v, 0) := put_nat (k := b + 12) (by rw [B.l12]; exact h)
theorem at_13 {σ : St} {b i : Nat} (B : Blk b) (h : i < 5) : M_X10_at σ (b + 11 + 2) (Int32.ofNat i) = some (σ, σ (b + 13) i) := at_nat (k := b + 13) (by rw [B.l13]; exact h)
theorem put_13 {σ : St} {b i : Nat} {v : Int32} (B : Blk b) (h : i < 5) : M_X10_put σ (b + 11 + 2) (Int32.ofNat i) v = some (u2 σ (b + 13) i v, 0) := put_nat (k := b + 13) (by rw [B.l13]; exact h)
theorem at_14 {σ : St} {b i : Nat} (B : Blk b) (h : i < 5) : M_X10_at σ (b + 11 + 3) (Int32.ofNat i) = some (σ, σ (b + 14) i) := at_nat (k := b + 14) (by rw [B.l14]; exact h)
theorem put_14 {σ : St} {b i : Nat} {v : Int32} (B : Blk b) (h : i < 5) : M_X10_put σ (b + 11 + 3) (Int32.ofNat i) v = some (u2 σ (b + 14) i v, 0) := put_nat (k := b + 14) (by rw [B.l14]; exact h)
theorem at_16 {σ : St} {b i : Nat} (B : Blk b) (h : i < 3) : M_X10_at σ (b + 15 + 1) (Int32.ofNat i) = some (σ, σ (b + 16) i) := at_nat (k := b + 16) (by rw [B.l16]; exact h)
theorem put_16 {σ : St} {b i : Nat} {v : Int32} (B : Blk b) (h : i < 3) : M_X10_put σ (b + 15 + 1) (Int32.ofNat i) v = some (u2 σ (b + 16) i v, 0) := put_nat (k := b + 16) (by rw [B.l16]; exact h)
theorem at_17 {σ : St} {b i : Nat} (B : Blk b) (h : i < 3) : M_X10_at σ (b + 15 + 2) (Int32.ofNat i) = some (σ, σ (b + 17) i) := at_nat (k := b + 17) (by rw [B.l17]; exact h)
theorem put_17 {σ : St} {b i : Nat} {v : Int32} (B : Blk b) (h : i < 3) : M_X10_put σ (b + 15 + 2) (Int32.ofNat i) v = some (u2 σ (b + 17) i v, 0) := put_nat (k := b + 17) (by rw [B.l17]; exact h)
theorem x_of {τ : St} {s w : Nat} (h : 30 + 6 * s + w < 111) : M_X11_of τ 248 (Int32.ofNat s) (Int32.ofNat w) = some (τ, τ 249 (30 + 6 * s + w)) := by
  unfold M_X11_of
  rw [oN_lm, oN_la, oN_add, bald_nat (by rw [ln249]; exact h)]
theorem x_ofl {τ : St} {s n : Nat} (h : 30 + 6 * s + @OfNat.ofNat Nat n _ < 111) : M_X11_of τ 248 (Int32.ofNat s) (no_index (@OfNat.ofNat Int32 n _)) = some (τ, τ 249 (30 + 6 * s + @OfNat.ofNat Nat n _)) := x_of h
theorem x_sets {τ : St} {s w : Nat} {v : Int32} (h : 30 + 6 * s + w < 111) : M_X11_sets τ 248 (Int32.ofNat s) (Int32.ofNat w) v = some (u2 τ 249 (30 + 6 * s + w) v, 0) := by
  unfold M_X11_sets
  rw [oN_lm, oN_la, oN_add, bast_nat (by rw [ln249]; exact h)]
theorem x_setsl {τ : St} {s n : Nat} {v : Int32} (h : 30 + 6 * s + @OfNat.ofNat Nat n _ < 111) : M_X11_sets τ 248 (Int32.ofNat s) (no_index (@OfNat.ofNat Int32 n _)) v = some (u2 τ 249 (30 + 6 * s + @OfNat.ofNat Nat n _) v, 0) := x_sets h
theorem x_ld {α : Type} {τ : St} {i : Nat} {K : Int32 → Option α} (h : i < 111) : bald τ (248 + 1) (Int32.ofNat i) K = K (τ 249 i) := bald_nat (by rw [ln249]; exact h)
theorem x_ldl {α : Type} {τ : St} {n : Nat} {K : Int32 → Option α} (h : @OfNat.ofNat Nat n _ < 111) : bald τ (248 + 1) (no_index (@OfNat.ofNat Int32 n _)) K = K (τ 249 (@OfNat.ofNat Nat n _)) := x_ld h
theorem x_stt {α : Type} {τ : St} {i : Nat} {v : Int32} {K : St → Option α} (h : i < 111) : bast τ (248 + 1) (Int32.ofNat i) v K = K (u2 τ 249 i v) := bast_nat (by rw [ln249]; exact h)
theorem x_stl {α : Type} {τ : St} {n : Nat} {v : Int32} {K : St → Option α} (h : @OfNat.ofNat Nat n _ < 111) : bast τ (248 + 1) (no_index (@OfNat.ofNat Int32 n _)) v K = K (u2 τ 249 (@OfNat.ofNat Nat n _) v) := x_stt h
theorem x_where {τ : St} {c : Nat} (h : c < 5) : M_X11_where τ 248 (Int32.ofNat c) = some (τ, τ 249 (90 + 3 * c + 1) - 1) := by
  unfold M_X11_where
  rw [oN_lm, oN_la, oN_al, x_ld (by omega)]
theorem FU_lt {d : Nat} (h : d < 1000) : d < FU := h
/-- what a storey bears -/
def str (r : Nat → Int32) (i : Nat) : Int32 := imax 0 (12 - r (30 + 6 * i + 1) / 6 + r (30 + 6 * i + 0) - r (30 + 6 * i + 2) / 5 - Int32.ofNat i / 2)

