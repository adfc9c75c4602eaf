theorem rs_f4 {σ : St} {b nb ns nc ni : Nat} {r : Nat → Int32} (h : RS σ b r nb ns nc ni) (hI : Iv r nb ns nc ni) (v : Int32) : RS (u2 σ b 4 v) b (upd r 0 v) nb ns nc ni := by
  have hb := hI.hb; have hs := hI.hs; have hc := hI.hc; have hi3 := hI.hi
  (apply RS.mk; exact (RS.B h); all_goals first | (simp (disch := omega) only [u2_ne, u2_same, u2_self, upd_ne, upd_self, (RS.f4 h), (RS.f5 h), (RS.f6 h), (RS.f7 h), (RS.f8 h), (RS.f9 h), (RS.f10 h), (RS.f11 h), (RS.f12 h), (RS.f13 h), (RS.cb h), (RS.cs h), (RS.cc h), (RS.ci h), (RS.a2 h), (RS.a3 h), (RS.a5 h), (RS.a6 h), (RS.a7 h), (RS.a8 h), (RS.a9 h), (RS.a10 h), (RS.a12 h), (RS.a13 h), (RS.a14 h), (RS.a16 h), (RS.a17 h)]; done) | (intro j hj; simp (disch := omega) only [u2_ne, u2_same, u2_self, upd_ne, upd_self, (RS.f4 h), (RS.f5 h), (RS.f6 h), (RS.f7 h), (RS.f8 h), (RS.f9 h), (RS.f10 h), (RS.f11 h), (RS.f12 h), (RS.f13 h), (RS.cb h), (RS.cs h), (RS.cc h), (RS.ci h), (RS.a2 h), (RS.a3 h), (RS.a5 h), (RS.a6 h), (RS.a7 h), (RS.a8 h), (RS.a9 h), (RS.a10 h), (RS.a12 h), (RS.a13 h), (RS.a14 h), (RS.a16 h), (RS.a17 h)]; done) | (intro j hj; by_cases e : j = 0 <;> first | (rw [e]; simp (disch := omega) only [u2_ne, u2_same, u2_self, upd_ne, upd_self, (RS.f4 h), (RS.f5 h), (RS.f6 h), (RS.f7 h), (RS.f8 h), (RS.f9 h), (RS.f10 h), (RS.f11 h), (RS.f12 h), (RS.f13 h), (RS.cb h), (RS.cs h), (RS.cc h), (RS.ci h), (RS.a2 h), (RS.a3 h), (RS.a5 h), (RS.a6 h), (RS.a7 h), (RS.a8 h), (RS.a9 h), (RS.a10 h), (RS.a12 h), (RS.a13 h), (RS.a14 h), (RS.a16 h), (RS.a17 h)]; done) | (simp (disch := omega) only [u2_ne, u2_same, u2_self, upd_ne, upd_self, (RS.f4 h), (RS.f5 h), (RS.f6 h), (RS.f7 h), (RS.f8 h), (RS.f9 h), (RS.f10 h), (RS.f11 h), (RS.f12 h), (RS.f13 h), (RS.cb h), (RS.cs h), (RS.cc h), (RS.ci h), (RS.a2 h), (RS.a3 h), (RS.a5 h), (RS.a6 h), (RS.a7 h), (RS.a8 h), (RS.a9 h), (RS.a10 h), (RS.a12 h), (RS.a13 h), (RS.a14 h), (RS.a16 h), (RS.a17 h)]; done)))
theorem rs_f5 {σ : St} {b nb ns nc ni : Nat} {r : Nat → Int32} (h : RS σ b r nb ns nc ni) (hI : Iv r nb ns nc ni) (v : Int32) : RS (u2 σ b 5 v) b (upd r 1 v) nb ns nc ni := by
  have hb := hI.hb; have hs := hI.hs; have hc := hI.hc; have hi3 := hI.hi
  (apply RS.mk; exact (RS.B h); all_goals first | (simp (disch := omega) only [u2_ne, u2_same, u2_self, upd_ne, upd_self, (RS.f4 h), (RS.f5 h), (RS.f6 h), (RS.f7 h), (RS.f8 h), (RS.f9 h), (RS.f10 h), (RS.f11 h), (RS.f12 h), (RS.f13 h), (RS.cb h), (RS.cs h), (RS.cc h), (RS.ci h), (RS.a2 h), (RS.a3 h), (RS.a5 h), (RS.a6 h), (RS.a7 h), (RS.a8 h), (RS.a9 h), (RS.a10 h), (RS.a12 h), (RS.a13 h), (RS.a14 h), (RS.a16 h), (RS.a17 h)]; done) | (intro j hj; simp (disch := omega) only [u2_ne, u2_same, u2_self, upd_ne, upd_self, (RS.f4 h), (RS.f5 h), (RS.f6 h), (RS.f7 h), (RS.f8 h), (RS.f9 h), (RS.f10 h), (RS.f11 h), (RS.f12 h), (RS.f13 h), (RS.cb h), (RS.cs h), (RS.cc h), (RS.ci h), (RS.a2 h), (RS.a3 h), (RS.a5 h), (RS.a6 h), (RS.a7 h), (RS.a8 h), (RS.a9 h), (RS.a10 h), (RS.a12 h), (RS.a13 h), (RS.a14 h), (RS.a16 h), (RS.a17 h)]; done) | (intro j hj; by_cases e : j = 0 <;> first | (rw [e]; simp (disch := omega) only [u2_ne, u2_same, u2_self, upd_ne, upd_self, (RS.f4 h), (RS.f5 h), (RS.f6 h), (RS.f7 h), (RS.f8 h), (RS.f9 h), (RS.f10 h), (RS.f11 h), (RS.f12 h), (RS.f13 h), (RS.cb h), (RS.cs h), (RS.cc h), (RS.ci h), (RS.a2 h), (RS.a3 h), (RS.a5 h), (RS.a6 h), (RS.a7 h), (RS.a8 h), (RS.a9 h), (RS.a10 h), (RS.a12 h), (RS.a13 h), (RS.a14 h), (RS.a16 h), (RS.a17 h)]; done) | (simp (disch := omega) only [u2_ne, u2_same, u2_self, upd_ne, upd_self, (RS.f4 h), (RS.f5 h), (RS.f6 h), (RS.f7 h), (RS.f8 h), (RS.f9 h), (RS.f10 h), (RS.f11 h), (RS.f12 h), (RS.f13 h), (RS.cb h), (RS.cs h), (RS.cc h), (RS.ci h), (RS.a2 h), (RS.a3 h), (RS.a5 h), (RS.a6 h), (RS.a7 h), (RS.a8 h), (RS.a9 h), (RS.a10 h), (RS.a12 h), (RS.a13 h), (RS.a14 h), (RS.a16 h), (RS.a17 h)]; done)))
theorem rs_f6 {σ : St} {b nb ns nc ni : Nat} {r : Nat → Int32} (h : RS σ b r nb ns nc ni) (hI : Iv r nb ns nc ni) (v : Int32) : RS (u2 σ b 6 v) b (upd r 6 v) nb ns nc ni := by
  have hb := hI.hb; have hs := hI.hs; have hc := hI.hc; have hi3 := hI.hi
  (apply RS.mk; exact (RS.B h); all_goals first | (simp (disch := omega) only [u2_ne, u2_same, u2_self, upd_ne, upd_self, (RS.f4 h), (RS.f5 h), (RS.f6 h), (RS.f7 h), (RS.f8 h), (RS.f9 h), (RS.f10 h), (RS.f11 h), (RS.f12 h), (RS.f13 h), (RS.cb h), (RS.cs h), (RS.cc h), (RS.ci h), (RS.a2 h), (RS.a3 h), (RS.a5 h), (RS.a6 h), (RS.a7 h), (RS.a8 h), (RS.a9 h), (RS.a10 h), (RS.a12 h), (RS.a13 h), (RS.a14 h), (RS.a16 h), (RS.a17 h)]; done) | (intro j hj; simp (disch := omega) only [u2_ne, u2_same, u2_self, upd_ne, upd_self, (RS.f4 h), (RS.f5 h), (RS.f6 h), (RS.f7 h), (RS.f8 h), (RS.f9 h), (RS.f10 h), (RS.f11 h), (RS.f12 h), (RS.f13 h), (RS.cb h), (RS.cs h), (RS.cc h), (RS.ci h), (RS.a2 h), (RS.a3 h), (RS.a5 h), (RS.a6 h), (RS.a7 h), (RS.a8 h), (RS.a9 h), (RS.a10 h), (RS.a12 h), (RS.a13 h), (RS.a14 h), (RS.a16 h), (RS.a17 h)]; done) | (intro j hj; by_cases e : j = 0 <;> first | (rw [e]; simp (disch := omega) only [u2_ne, u2_same, u2_self, upd_ne, upd_self, (RS.f4 h), (RS.f5 h), (RS.f6 h), (RS.f7 h), (RS.f8 h), (RS.f9 h), (RS.f10 h), (RS.f11 h), (RS.f12 h), (RS.f13 h), (RS.cb h), (RS.cs h), (RS.cc h), (RS.ci h), (RS.a2 h), (RS.a3 h), (RS.a5 h), (RS.a6 h), (RS.a7 h), (RS.a8 h), (RS.a9 h), (RS.a10 h), (RS.a12 h), (RS.a13 h), (RS.a14 h), (RS.a16 h), (RS.a17 h)]; done) | (simp (disch := omega) only [u2_ne, u2_same, u2_self, upd_ne, upd_self, (RS.f4 h), (RS.f5 h), (RS.f6 h), (RS.f7 h), (RS.f8 h), (RS.f9 h), (RS.f10 h), (RS.f11 h), (RS.f12 h), (RS.f13 h), (RS.cb h), (RS.cs h), (RS.cc h), (RS.ci h), (RS.a2 h), (RS.a3 h), (RS.a5 h), (RS.a6 h), (RS.a7 h), (RS.a8 h), (RS.a9 h), (RS.a10 h), (RS.a12 h), (RS.a13 h), (RS.a14 h), (RS.a16 h), (RS.a17 h)]; done)))
theorem rs_f7 {σ : St} {b nb ns nc ni : Nat} {r : Nat → Int32} (h : RS σ b r nb ns nc ni) (hI : Iv r nb ns nc ni) (v : Int32) : RS (u2 σ b 7 v) b (upd r 7 v) nb ns nc ni := by
  have hb := hI.hb; have hs := hI.hs; have hc := hI.hc; have hi3 := hI.hi
  (apply RS.mk; exact (RS.B h); all_goals first | (simp (disch := omega) only [u2_ne, u2_same, u2_self, upd_ne, upd_self, (RS.f4 h), (RS.f5 h), (RS.f6 h), (RS.f7 h), (RS.f8 h), (RS.f9 h), (RS.f10 h), (RS.f11 h), (RS.f12 h), (RS.f13 h), (RS.cb h), (RS.cs h), (RS.cc h), (RS.ci h), (RS.a2 h), (RS.a3 h), (RS.a5 h), (RS.a6 h), (RS.a7 h), (RS.a8 h), (RS.a9 h), (RS.a10 h), (RS.a12 h), (RS.a13 h), (RS.a14 h), (RS.a16 h), (RS.a17 h)]; done) | (intro j hj; simp (disch := omega) only [u2_ne, u2_same, u2_self, upd_ne, upd_self, (RS.f4 h), (RS.f5 h), (RS.f6 h), (RS.f7 h), (RS.f8 h), (RS.f9 h), (RS.f10 h), (RS.f11 h), (RS.f12 h), (RS.f13 h), (RS.cb h), (RS.cs h), (RS.cc h), (RS.ci h), (RS.a2 h), (RS.a3 h), (RS.a5 h), (RS.a6 h), (RS.a7 h), (RS.a8 h), (RS.a9 h), (RS.a10 h), (RS.a12 h), (RS.a13 h), (RS.a14 h), (RS.a16 h), (RS.a17 h)]; done) | (intro j hj; by_cases e : j = 0 <;> first | (rw [e]; simp (disch := omega) only [u2_ne, u2_same, u2_self, upd_ne, upd_self, (RS.f4 h), (RS.f5 h), (RS.f6 h), (RS.f7 h), (RS.f8 h), (RS.f9 h), (RS.f10 h), (RS.f11 h), (RS.f12 h), (RS.f13 h), (RS.cb h), (RS.cs h), (RS.cc h), (RS.ci h), (RS.a2 h), (RS.a3 h), (RS.a5 h), (RS.a6 h), (RS.a7 h), (RS.a8 h), (RS.a9 h), (RS.a10 h), (RS.a12 h), (RS.a13 h), (RS.a14 h), (RS.a16 h), (RS.a17 h)]; done) | (simp (disch := omega) only [u2_ne, u2_same, u2_self, upd_ne, upd_self, (RS.f4 h), (RS.f5 h), (RS.f6 h), (RS.f7 h), (RS.f8 h), (RS.f9 h), (RS.f10 h), (RS.f11 h), (RS.f12 h), (RS.f13 h), (RS.cb h), (RS.cs h), (RS.cc h), (RS.ci h), (RS.a2 h), (RS.a3 h), (RS.a5 h), (RS.a6 h), (RS.a7 h), (RS.a8 h), (RS.a9 h), (RS.a10 h), (RS.a12 h), (RS.a13 h), (RS.a14 h), (RS.a16 h), (RS.a17 h)]; done)))
theorem rs_f8 {σ : St} {b nb ns nc ni : Nat} {r : Nat → Int32} (h : RS σ b r nb ns nc ni) (hI : Iv r nb ns nc ni) (v : Int32) : RS (u2 σ b 8 v) b (upd r 8 v) nb ns nc ni := by
  have hb := hI.hb; have hs := hI.hs; have hc := hI.hc; have hi3 := hI.hi
  (apply RS.mk; exact (RS.B h); all_goals first | (simp (disch := omega) only [u2_ne, u2_same, u2_self, upd_ne, upd_self, (RS.f4 h), (RS.f5 h), (RS.f6 h), (RS.f7 h), (RS.f8 h), (RS.f9 h), (RS.f10 h), (RS.f11 h), (RS.f12 h), (RS.f13 h), (RS.cb h), (RS.cs h), (RS.cc h), (RS.ci h), (RS.a2 h), (RS.a3 h), (RS.a5 h), (RS.a6 h), (RS.a7 h), (RS.a8 h), (RS.a9 h), (RS.a10 h), (RS.a12 h), (RS.a13 h), (RS.a14 h), (RS.a16 h), (RS.a17 h)]; done) | (intro j hj; simp (disch := omega) only [u2_ne, u2_same, u2_self, upd_ne, upd_self, (RS.f4 h), (RS.f5 h), (RS.f6 h), (RS.f7 h), (RS.f8 h), (RS.f9 h), (RS.f10 h), (RS.f11 h), (RS.f12 h), (RS.f13 h), (RS.cb h), (RS.cs h), (RS.cc h), (RS.ci h), (RS.a2 h), (RS.a3 h), (RS.a5 h), (RS.a6 h), (RS.a7 h), (RS.a8 h), (RS.a9 h), (RS.a10 h), (RS.a12 h), (RS.a13 h), (RS.a14 h), (RS.a16 h), (RS.a17 h)]; done) | (intro j hj; by_cases e : j = 0 <;> first | (rw [e]; simp (disch := omega) only [u2_ne, u2_same, u2_self, upd_ne, upd_self, (RS.f4 h), (RS.f5 h), (RS.f6 h), (RS.f7 h), (RS.f8 h), (RS.f9 h), (RS.f10 h), (RS.f11 h), (RS.f12 h), (RS.f13 h), (RS.cb h), (RS.cs h), (RS.cc h), (RS.ci h), (RS.a2 h), (RS.a3 h), (RS.a5 h), (RS.a6 h), (RS.a7 h), (RS.a8 h), (RS.a9 h), (RS.a10 h), (RS.a12 h), (RS.a13 h), (RS.a14 h), (RS.a16 h), (RS.a17 h)]; done) | (simp (disch := omega) only [u2_ne, u2_same, u2_self, upd_ne, upd_self, (RS.f4 h), (RS.f5 h), (RS.f6 h), (RS.f7 h), (RS.f8 h), (RS.f9 h), (RS.f10 h), (RS.f11 h), (RS.f12 h), (RS.f13 h), (RS.cb h), (RS.cs h), (RS.cc h), (RS.ci h), (RS.a2 h), (RS.a3 h), (RS.a5 h), (RS.a6 h), (RS.a7 h), (RS.a8 h), (RS.a9 h), (RS.a10 h), (RS.a12 h), (RS.a13 h), (RS.a14 h), (RS.a16 h), (RS.a17 h)]; done)))
theorem rs_f9 {σ : St} {b nb ns nc ni : Nat} {r : Nat → Int32} (h : RS σ b r nb ns nc ni) (hI : Iv r nb ns nc ni) (v : Int32) : RS (u2 σ b 9 v) b (upd r 12 v) nb ns nc ni := by
  have hb := hI.hb; have hs := hI.hs; have hc := hI.hc; have hi3 := hI.hi
  (apply RS.mk; exact (RS.B h); all_goals first | (simp (disch := omega) only [u2_ne, u2_same, u2_self, upd_ne, upd_self, (RS.f4 h), (RS.f5 h), (RS.f6 h), (RS.f7 h), (RS.f8 h), (RS.f9 h), (RS.f10 h), (RS.f11 h), (RS.f12 h), (RS.f13 h), (RS.cb h), (RS.cs h), (RS.cc h), (RS.ci h), (RS.a2 h), (RS.a3 h), (RS.a5 h), (RS.a6 h), (RS.a7 h), (RS.a8 h), (RS.a9 h), (RS.a10 h), (RS.a12 h), (RS.a13 h), (RS.a14 h), (RS.a16 h), (RS.a17 h)]; done) | (intro j hj; simp (disch := omega) only [u2_ne, u2_same, u2_self, upd_ne, upd_self, (RS.f4 h), (RS.f5 h), (RS.f6 h), (RS.f7 h), (RS.f8 h), (RS.f9 h), (RS.f10 h), (RS.f11 h), (RS.f12 h), (RS.f13 h), (RS.cb h), (RS.cs h), (RS.cc h), (RS.ci h), (RS.a2 h), (RS.a3 h), (RS.a5 h), (RS.a6 h), (RS.a7 h), (RS.a8 h), (RS.a9 h), (RS.a10 h), (RS.a12 h), (RS.a13 h), (RS.a14 h), (RS.a16 h), (RS.a17 h)]; done) | (intro j hj; by_cases e : j = 0 <;> first | (rw [e]; simp (disch := omega) only [u2_ne, u2_same, u2_self, upd_ne, upd_self, (RS.f4 h), (RS.f5 h), (RS.f6 h), (RS.f7 h), (RS.f8 h), (RS.f9 h), (RS.f10 h), (RS.f11 h), (RS.f12 h), (RS.f13 h), (RS.cb h), (RS.cs h), (RS.cc h), (RS.ci h), (RS.a2 h), (RS.a3 h), (RS.a5 h), (RS.a6 h), (RS.a7 h), (RS.a8 h), (RS.a9 h), (RS.a10 h), (RS.a12 h), (RS.a13 h), (RS.a14 h), (RS.a16 h), (RS.a17 h)]; done) | (simp (disch := omega) only [u2_ne, u2_same, u2_self, upd_ne, upd_self, (RS.f4 h), (RS.f5 h), (RS.f6 h), (RS.f7 h), (RS.f8 h), (RS.f9 h), (RS.f10 h), (RS.f11 h), (RS.f12 h), (RS.f13 h), (RS.cb h), (RS.cs h), (RS.cc h), (RS.ci h), (RS.a2 h), (RS.a3 h), (RS.a5 h), (RS.a6 h), (RS.a7 h), (RS.a8 h), (RS.a9 h), (RS.a10 h), (RS.a12 h), (RS.a13 h), (RS.a14 h), (RS.a16 h), (RS.a17 h)]; done)))
theorem rs_f10 {σ : St} {b nb ns nc ni : Nat} {r : Nat → Int32} (h : RS σ b r nb ns nc ni) (hI : Iv r nb ns nc ni) (v : Int32) : RS (u2 σ b 10 v) b (upd r 9 v) nb ns nc ni := by
  have hb := hI.hb; have hs := hI.hs; have hc := hI.hc; have hi3 := hI.hi
  (apply RS.mk; exact (RS.B h); all_goals first | (simp (disch := omega) only [u2_ne, u2_same, u2_self, upd_ne, upd_self, (RS.f4 h), (RS.f5 h), (RS.f6 h), (RS.f7 h), (RS.f8 h), (RS.f9 h), (RS.f10 h), (RS.f11 h), (RS.f12 h), (RS.f13 h), (RS.cb h), (RS.cs h), (RS.cc h), (RS.ci h), (RS.a2 h), (RS.a3 h), (RS.a5 h), (RS.a6 h), (RS.a7 h), (RS.a8 h), (RS.a9 h), (RS.a10 h), (RS.a12 h), (RS.a13 h), (RS.a14 h), (RS.a16 h), (RS.a17 h)]; done) | (intro j hj; simp (disch := omega) only [u2_ne, u2_same, u2_self, upd_ne, upd_self, (RS.f4 h), (RS.f5 h), (RS.f6 h), (RS.f7 h), (RS.f8 h), (RS.f9 h), (RS.f10 h), (RS.f11 h), (RS.f12 h), (RS.f13 h), (RS.cb h), (RS.cs h), (RS.cc h), (RS.ci h), (RS.a2 h), (RS.a3 h), (RS.a5 h), (RS.a6 h), (RS.a7 h), (RS.a8 h), (RS.a9 h), (RS.a10 h), (RS.a12 h), (RS.a13 h), (RS.a14 h), (RS.a16 h), (RS.a17 h)]; done) | (intro j hj; by_cases e : j = 0 <;> first | (rw [e]; simp (disch := omega) only [u2_ne, u2_same, u2_self, upd_ne, upd_self, (RS.f4 h), (RS.f5 h), (RS.f6 h), (RS.f7 h), (RS.f8 h), (RS.f9 h), (RS.f10 h), (RS.f11 h), (RS.f12 h), (RS.f13 h), (RS.cb h), (RS.cs h), (RS.cc h), (RS.ci h), (RS.a2 h), (RS.a3 h), (RS.a5 h), (RS.a6 h), (RS.a7 h), (RS.a8 h), (RS.a9 h), (RS.a10 h), (RS.a12 h), (RS.a13 h), (RS.a14 h), (RS.a16 h), (RS.a17 h)]; done) | (simp (disch := omega) only [u2_ne, u2_same, u2_self, upd_ne, upd_self, (RS.f4 h), (RS.f5 h), (RS.f6 h), (RS.f7 h), (RS.f8 h), (RS.f9 h), (RS.f10 h), (RS.f11 h), (RS.f12 h), (RS.f13 h), (RS.cb h), (RS.cs h), (RS.cc h), (RS.ci h), (RS.a2 h), (RS.a3 h), (RS.a5 h), (RS.a6 h), (RS.a7 h), (RS.a8 h), (RS.a9 h), (RS.a10 h), (RS.a12 h), (RS.a13 h), (RS.a14 h), (RS.a16 h), (RS.a17 h)]; done)))
theorem rs_f11 {σ : St} {b nb ns nc ni : Nat} {r : Nat → Int32} (h : RS σ b r nb ns nc ni) (hI : Iv r nb ns nc ni) (v : Int32) : RS (u2 σ b 11 v) b (upd r 13 v) nb ns nc ni := by
  have hb := hI.hb; have hs := hI.hs; have hc := hI.hc; have hi3 := hI.hi
  (apply RS.mk; exact (RS.B h); all_goals first | (simp (disch := omega) only [u2_ne, u2_same, u2_self, upd_ne, upd_self, (RS.f4 h), (RS.f5 h), (RS.f6 h), (RS.f7 h), (RS.f8 h), (RS.f9 h), (RS.f10 h), (RS.f11 h), (RS.f12 h), (RS.f13 h), (RS.cb h), (RS.cs h), (RS.cc h), (RS.ci h), (RS.a2 h), (RS.a3 h), (RS.a5 h), (RS.a6 h), (RS.a7 h), (RS.a8 h), (RS.a9 h), (RS.a10 h), (RS.a12 h), (RS.a13 h), (RS.a14 h), (RS.a16 h), (RS.a17 h)]; done) | (intro j hj; simp (disch := omega) only [u2_ne, u2_same, u2_self, upd_ne, upd_self, (RS.f4 h), (RS.f5 h), (RS.f6 h), (RS.f7 h), (RS.f8 h), (RS.f9 h), (RS.f10 h), (RS.f11 h), (RS.f12 h), (RS.f13 h), (RS.cb h), (RS.cs h), (RS.cc h), (RS.ci h), (RS.a2 h), (RS.a3 h), (RS.a5 h), (RS.a6 h), (RS.a7 h), (RS.a8 h), (RS.a9 h), (RS.a10 h), (RS.a12 h), (RS.a13 h), (RS.a14 h), (RS.a16 h), (RS.a17 h)]; done) | (intro j hj; by_cases e : j = 0 <;> first | (rw [e]; simp (disch := omega) only [u2_ne, u2_same, u2_self, upd_ne, upd_self, (RS.f4 h), (RS.f5 h), (RS.f6 h), (RS.f7 h), (RS.f8 h), (RS.f9 h), (RS.f10 h), (RS.f11 h), (RS.f12 h), (RS.f13 h), (RS.cb h), (RS.cs h), (RS.cc h), (RS.ci h), (RS.a2 h), (RS.a3 h), (RS.a5 h), (RS.a6 h), (RS.a7 h), (RS.a8 h), (RS.a9 h), (RS.a10 h), (RS.a12 h), (RS.a13 h), (RS.a14 h), (RS.a16 h), (RS.a17 h)]; done) | (simp (disch := omega) only [u2_ne, u2_same, u2_self, upd_ne, upd_self, (RS.f4 h), (RS.f5 h), (RS.f6 h), (RS.f7 h), (RS.f8 h), (RS.f9 h), (RS.f10 h), (RS.f11 h), (RS.f12 h), (RS.f13 h), (RS.cb h), (RS.cs h), (RS.cc h), (RS.ci h), (RS.a2 h), (RS.a3 h), (RS.a5 h), (RS.a6 h), (RS.a7 h), (RS.a8 h), (RS.a9 h), (RS.a10 h), (RS.a12 h), (RS.a13 h), (RS.a14 h), (RS.a16 h), (RS.a17 h)]; done)))
theorem rs_f12 {σ : St} {b nb ns nc ni : Nat} {r : Nat → Int32} (h : RS σ b r nb ns nc ni) (hI : Iv r nb ns nc ni) (v : Int32) : RS (u2 σ b 12 v) b (upd r 10 v) nb ns nc ni := by
  have hb := hI.hb; have hs := hI.hs; have hc := hI.hc; have hi3 := hI.hi
  (apply RS.mk; exact (RS.B h); all_goals first | (simp (disch := omega) only [u2_ne, u2_same, u2_self, upd_ne, upd_self, (RS.f4 h), (RS.f5 h), (RS.f6 h), (RS.f7 h), (RS.f8 h), (RS.f9 h), (RS.f10 h), (RS.f11 h), (RS.f12 h), (RS.f13 h), (RS.cb h), (RS.cs h), (RS.cc h), (RS.ci h), (RS.a2 h), (RS.a3 h), (RS.a5 h), (RS.a6 h), (RS.a7 h), (RS.a8 h), (RS.a9 h), (RS.a10 h), (RS.a12 h), (RS.a13 h), (RS.a14 h), (RS.a16 h), (RS.a17 h)]; done) | (intro j hj; simp (disch := omega) only [u2_ne, u2_same, u2_self, upd_ne, upd_self, (RS.f4 h), (RS.f5 h), (RS.f6 h), (RS.f7 h), (RS.f8 h), (RS.f9 h), (RS.f10 h), (RS.f11 h), (RS.f12 h), (RS.f13 h), (RS.cb h), (RS.cs h), (RS.cc h), (RS.ci h), (RS.a2 h), (RS.a3 h), (RS.a5 h), (RS.a6 h), (RS.a7 h), (RS.a8 h), (RS.a9 h), (RS.a10 h), (RS.a12 h), (RS.a13 h), (RS.a14 h), (RS.a16 h), (RS.a17 h)]; done) | (intro j hj; by_cases e : j = 0 <;> first | (rw [e]; simp (disch := omega) only [u2_ne, u2_same, u2_self, upd_ne, upd_self, (RS.f4 h), (RS.f5 h), (RS.f6 h), (RS.f7 h), (RS.f8 h), (RS.f9 h), (RS.f10 h), (RS.f11 h), (RS.f12 h), (RS.f13 h), (RS.cb h), (RS.cs h), (RS.cc h), (RS.ci h), (RS.a2 h), (RS.a3 h), (RS.a5 h), (RS.a6 h), (RS.a7 h), (RS.a8 h), (RS.a9 h), (RS.a10 h), (RS.a12 h), (RS.a13 h), (RS.a14 h), (RS.a16 h), (RS.a17 h)]; done) | (simp (disch := omega) only [u2_ne, u2_same, u2_self, upd_ne, upd_self, (RS.f4 h), (RS.f5 h), (RS.f6 h), (RS.f7 h), (RS.f8 h), (RS.f9 h), (RS.f10 h), (RS.f11 h), (RS.f12 h), (RS.f13 h), (RS.cb h), (RS.cs h), (RS.cc h), (RS.ci h), (RS.a2 h), (RS.a3 h), (RS.a5 h), (RS.a6 h), (RS.a7 h), (RS.a8 h), (RS.a9 h), (RS.a10 h), (RS.a12 h), (RS.a13 h), (RS.a14 h), (RS.a16 h), (RS.a17 h)]; done)))
theorem rs_f13 {σ : St} {b nb ns nc ni : Nat} {r : Nat → Int32} (h : RS σ b r nb ns nc ni) (hI : Iv r nb ns nc ni) (v : Int32) : RS (u2 σ b 13 v) b (upd r 11 v) nb ns nc ni := by
  have hb := hI.hb; have hs := hI.hs; have hc := hI.hc; have hi3 := hI.hi
  (apply RS.mk; exact (RS.B h); all_goals first | (simp (disch := omega) only [u2_ne, u2_same, u2_self, upd_ne, upd_self, (RS.f4 h), (RS.f5 h), (RS.f6 h), (RS.f7 h), (RS.f8 h), (RS.f9 h), (RS.f10 h), (RS.f11 h), (RS.f12 h), (RS.f13 h), (RS.cb h), (RS.cs h), (RS.cc h), (RS.ci h), (RS.a2 h), (RS.a3 h), (RS.a5 h), (RS.a6 h), (RS.a7 h), (RS.a8 h), (RS.a9 h), (RS.a10 h), (RS.a12 h), (RS.a13 h), (RS.a14 h), (RS.a16 h), (RS.a17 h)]; done) | (intro j hj; simp (disch := omega) only [u2_ne, u2_same, u2_self, upd_ne, upd_self, (RS.f4 h), (RS.f5 h), (RS.f6 h), (RS.f7 h), (RS.f8 h), (RS.f9 h), (RS.f10 h), (RS.f11 h), (RS.f12 h), (RS.f13 h), (RS.cb h), (RS.cs h), (RS.cc h), (RS.ci h), (RS.a2 h), (RS.a3 h), (RS.a5 h), (RS.a6 h), (RS.a7 h), (RS.a8 h), (RS.a9 h), (RS.a10 h), (RS.a12 h), (RS.a13 h), (RS.a14 h), (RS.a16 h), (RS.a17 h)]; done) | (intro j hj; by_cases e : j = 0 <;> first | (rw [e]; simp (disch := omega) only [u2_ne, u2_same, u2_self, upd_ne, upd_self, (RS.f4 h), (RS.f5 h), (RS.f6 h), (RS.f7 h), (RS.f8 h), (RS.f9 h), (RS.f10 h), (RS.f11 h), (RS.f12 h), (RS.f13 h), (RS.cb h), (RS.cs h), (RS.cc h), (RS.ci h), (RS.a2 h), (RS.a3 h), (RS.a5 h), (RS.a6 h), (RS.a7 h), (RS.a8 h), (RS.a9 h), (RS.a10 h), (RS.a12 h), (RS.a13 h), (RS.a14 h), (RS.a16 h), (RS.a17 h)]; done) | (simp (disch := omega) only [u2_ne, u2_same, u2_self, upd_ne, upd_self, (RS.f4 h), (RS.f5 h), (RS.f6 h), (RS.f7 h), (RS.f8 h), (RS.f9 h), (RS.f10 h), (RS.f11 h), (RS.f12 h), (RS.f13 h), (RS.cb h), (RS.cs h), (RS.cc h), (RS.ci h), (RS.a2 h), (RS.a3 h), (RS.a5 h), (RS.a6 h), (RS.a7 h), (RS.a8 h), (RS.a9 h), (RS.a10 h), (RS.a12 h), (RS.a13 h), (RS.a14 h), (RS.a16 h), (RS.a17 h)]; done)))
theorem rs_a2 {σ : St} {b nb ns nc ni : Nat} {r : Nat → Int32} (h : RS σ b r nb ns nc ni) (hI : Iv r nb ns nc ni) {i : Nat} (hi : i < nb) (v : Int32) : RS (u2 σ (b + 2) i (v)) b (upd r (14 + 2 * i) v) nb ns nc ni := by
  have hb := hI.hb; have hs := hI.hs; have hc := hI.hc; have hi3 := hI.hi
  (apply RS.mk; exact (RS.B h); all_goals first | (simp (disch := omega) only [u2_ne, u2_same, u2_self, upd_ne, upd_self, (RS.f4 h), (RS.f5 h), (RS.f6 h), (RS.f7 h), (RS.f8 h), (RS.f9 h), (RS.f10 h), (RS.f11 h), (RS.f12 h), (RS.f13 h), (RS.cb h), (RS.cs h), (RS.cc h), (RS.ci h), (RS.a2 h), (RS.a3 h), (RS.a5 h), (RS.a6 h), (RS.a7 h), (RS.a8 h), (RS.a9 h), (RS.a10 h), (RS.a12 h), (RS.a13 h), (RS.a14 h), (RS.a16 h), (RS.a17 h)]; done) | (intro j hj; simp (disch := omega) only [u2_ne, u2_same, u2_self, upd_ne, upd_self, (RS.f4 h), (RS.f5 h), (RS.f6 h), (RS.f7 h), (RS.f8 h), (RS.f9 h), (RS.f10 h), (RS.f11 h), (RS.f12 h), (RS.f13 h), (RS.cb h), (RS.cs h), (RS.cc h), (RS.ci h), (RS.a2 h), (RS.a3 h), (RS.a5 h), (RS.a6 h), (RS.a7 h), (RS.a8 h), (RS.a9 h), (RS.a10 h), (RS.a12 h), (RS.a13 h), (RS.a14 h), (RS.a16 h), (RS.a17 h)]; done) | (intro j hj; by_cases e : j = i <;> first | (rw [e]; simp (disch := omega) only [u2_ne, u2_same, u2_self, upd_ne, upd_self, (RS.f4 h), (RS.f5 h), (RS.f6 h), (RS.f7 h), (RS.f8 h), (RS.f9 h), (RS.f10 h), (RS.f11 h), (RS.f12 h), (RS.f13 h), (RS.cb h), (RS.cs h), (RS.cc h), (RS.ci h), (RS.a2 h), (RS.a3 h), (RS.a5 h), (RS.a6 h), (RS.a7 h), (RS.a8 h), (RS.a9 h), (RS.a10 h), (RS.a12 h), (RS.a13 h), (RS.a14 h), (RS.a16 h), (RS.a17 h)]; done) | (simp (disch := omega) only [u2_ne, u2_same, u2_self, upd_ne, upd_self, (RS.f4 h), (RS.f5 h), (RS.f6 h), (RS.f7 h), (RS.f8 h), (RS.f9 h), (RS.f10 h), (RS.f11 h), (RS.f12 h), (RS.f13 h), (RS.cb h), (RS.cs h), (RS.cc h), (RS.ci h), (RS.a2 h), (RS.a3 h), (RS.a5 h), (RS.a6 h), (RS.a7 h), (RS.a8 h), (RS.a9 h), (RS.a10 h), (RS.a12 h), (RS.a13 h), (RS.a14 h), (RS.a16 h), (RS.a17 h)]; done)))
theorem rs_a3 {σ : St} {b nb ns nc ni : Nat} {r : Nat → Int32} (h : RS σ b r nb ns nc ni) (hI : Iv r nb ns nc ni) {i : Nat} (hi : i < nb) (v : Int32) : RS (u2 σ (b + 3) i (v)) b (upd r (14 + 2 * i + 1) v) nb ns nc ni := by
  have hb := hI.hb; have hs := hI.hs; have hc := hI.hc; have hi3 := hI.hi
  (apply RS.mk; exact (RS.B h); all_goals first | (simp (disch := omega) only [u2_ne, u2_same, u2_self, upd_ne, upd_self, (RS.f4 h), (RS.f5 h), (RS.f6 h), (RS.f7 h), (RS.f8 h), (RS.f9 h), (RS.f10 h), (RS.f11 h), (RS.f12 h), (RS.f13 h), (RS.cb h), (RS.cs h), (RS.cc h), (RS.ci h), (RS.a2 h), (RS.a3 h), (RS.a5 h), (RS.a6 h), (RS.a7 h), (RS.a8 h), (RS.a9 h), (RS.a10 h), (RS.a12 h), (RS.a13 h), (RS.a14 h), (RS.a16 h), (RS.a17 h)]; done) | (intro j hj; simp (disch := omega) only [u2_ne, u2_same, u2_self, upd_ne, upd_self, (RS.f4 h), (RS.f5 h), (RS.f6 h), (RS.f7 h), (RS.f8 h), (RS.f9 h), (RS.f10 h), (RS.f11 h), (RS.f12 h), (RS.f13 h), (RS.cb h), (RS.cs h), (RS.cc h), (RS.ci h), (RS.a2 h), (RS.a3 h), (RS.a5 h), (RS.a6 h), (RS.a7 h), (RS.a8 h), (RS.a9 h), (RS.a10 h), (RS.a12 h), (RS.a13 h), (RS.a14 h), (RS.a16 h), (RS.a17 h)]; done) | (intro j hj; by_cases e : j = i <;> first | (rw [e]; simp (disch := omega) only [u2_ne, u2_same, u2_self, upd_ne, upd_self, (RS.f4 h), (RS.f5 h), (RS.f6 h), (RS.f7 h), (RS.f8 h), (RS.f9 h), (RS.f10 h), (RS.f11 h), (RS.f12 h), (RS.f13 h), (RS.cb h), (RS.cs h), (RS.cc h), (RS.ci h), (RS.a2 h), (RS.a3 h), (RS.a5 h), (RS.a6 h), (RS.a7 h), (RS.a8 h), (RS.a9 h), (RS.a10 h), (RS.a12 h), (RS.a13 h), (RS.a14 h), (RS.a16 h), (RS.a17 h)]; done) | (simp (disch := omega) only [u2_ne, u2_same, u2_self, upd_ne, upd_self, (RS.f4 h), (RS.f5 h), (RS.f6 h), (RS.f7 h), (RS.f8 h), (RS.f9 h), (RS.f10 h), (RS.f11 h), (RS.f12 h), (RS.f13 h), (RS.cb h), (RS.cs h), (RS.cc h), (RS.ci h), (RS.a2 h), (RS.a3 h), (RS.a5 h), (RS.a6 h), (RS.a7 h), (RS.a8 h), (RS.a9 h), (RS.a10 h), (RS.a12 h), (RS.a13 h), (RS.a14 h), (RS.a16 h), (RS.a17 h)]; done)))
theorem rs_a5 {σ : St} {b nb ns nc ni : Nat} {r : Nat → Int32} (h : RS σ b r nb ns nc ni) (hI : Iv r nb ns nc ni) {i : Nat} (hi : i < ns) (v : Int32) : RS (u2 σ (b + 5) i (v)) b (upd r (30 + 6 * i + 0) v) nb ns nc ni := by
  have hb := hI.hb; have hs := hI.hs; have hc := hI.hc; have hi3 := hI.hi
  (apply RS.mk; exact (RS.B h); all_goals first | (simp (disch := omega) only [u2_ne, u2_same, u2_self, upd_ne, upd_self, (RS.f4 h), (RS.f5 h), (RS.f6 h), (RS.f7 h), (RS.f8 h), (RS.f9 h), (RS.f10 h), (RS.f11 h), (RS.f12 h), (RS.f13 h), (RS.cb h), (RS.cs h), (RS.cc h), (RS.ci h), (RS.a2 h), (RS.a3 h), (RS.a5 h), (RS.a6 h), (RS.a7 h), (RS.a8 h), (RS.a9 h), (RS.a10 h), (RS.a12 h), (RS.a13 h), (RS.a14 h), (RS.a16 h), (RS.a17 h)]; done) | (intro j hj; simp (disch := omega) only [u2_ne, u2_same, u2_self, upd_ne, upd_self, (RS.f4 h), (RS.f5 h), (RS.f6 h), (RS.f7 h), (RS.f8 h), (RS.f9 h), (RS.f10 h), (RS.f11 h), (RS.f12 h), (RS.f13 h), (RS.cb h), (RS.cs h), (RS.cc h), (RS.ci h), (RS.a2 h), (RS.a3 h), (RS.a5 h), (RS.a6 h), (RS.a7 h), (RS.a8 h), (RS.a9 h), (RS.a10 h), (RS.a12 h), (RS.a13 h), (RS.a14 h), (RS.a16 h), (RS.a17 h)]; done) | (intro j hj; by_cases e : j = i <;> first | (rw [e]; simp (disch := omega) only [u2_ne, u2_same, u2_self, upd_ne, upd_self, (RS.f4 h), (RS.f5 h), (RS.f6 h), (RS.f7 h), (RS.f8 h), (RS.f9 h), (RS.f10 h), (RS.f11 h), (RS.f12 h), (RS.f13 h), (RS.cb h), (RS.cs h), (RS.cc h), (RS.ci h), (RS.a2 h), (RS.a3 h), (RS.a5 h), (RS.a6 h), (RS.a7 h), (RS.a8 h), (RS.a9 h), (RS.a10 h), (RS.a12 h), (RS.a13 h), (RS.a14 h), (RS.a16 h), (RS.a17 h)]; done) | (simp (disch := omega) only [u2_ne, u2_same, u2_self, upd_ne, upd_self, (RS.f4 h), (RS.f5 h), (RS.f6 h), (RS.f7 h), (RS.f8 h), (RS.f9 h), (RS.f10 h), (RS.f11 h), (RS.f12 h), (RS.f13 h), (RS.cb h), (RS.cs h), (RS.cc h), (RS.ci h), (RS.a2 h), (RS.a3 h), (RS.a5 h), (RS.a6 h), (RS.a7 h), (RS.a8 h), (RS.a9 h), (RS.a10 h), (RS.a12 h), (RS.a13 h), (RS.a14 h), (RS.a16 h), (RS.a17 h)]; done)))
theorem rs_a6 {σ : St} {b nb ns nc ni : Nat} {r : Nat → Int32} (h : RS σ b r nb ns nc ni) (hI : Iv r nb ns nc ni) {i : Nat} (hi : i < ns) (v : Int32) : RS (u2 σ (b + 6) i (v)) b (upd r (30 + 6 * i + 1) v) nb ns nc ni := by
  have hb := hI.hb; have hs := hI.hs; have hc := hI.hc; have hi3 := hI.hi
  (apply RS.mk; exact (RS.B h); all_goals first | (simp (disch := omega) only [u2_ne, u2_same, u2_self, upd_ne, upd_self, (RS.f4 h), (RS.f5 h), (RS.f6 h), (RS.f7 h), (RS.f8 h), (RS.f9 h), (RS.f10 h), (RS.f11 h), (RS.f12 h), (RS.f13 h), (RS.cb h), (RS.cs h), (RS.cc h), (RS.ci h), (RS.a2 h), (RS.a3 h), (RS.a5 h), (RS.a6 h), (RS.a7 h), (RS.a8 h), (RS.a9 h), (RS.a10 h), (RS.a12 h), (RS.a13 h), (RS.a14 h), (RS.a16 h), (RS.a17 h)]; done) | (intro j hj; simp (disch := omega) only [u2_ne, u2_same, u2_self, upd_ne, upd_self, (RS.f4 h), (RS.f5 h), (RS.f6 h), (RS.f7 h), (RS.f8 h), (RS.f9 h), (RS.f10 h), (RS.f11 h), (RS.f12 h), (RS.f13 h), (RS.cb h), (RS.cs h), (RS.cc h), (RS.ci h), (RS.a2 h), (RS.a3 h), (RS.a5 h), (RS.a6 h), (RS.a7 h), (RS.a8 h), (RS.a9 h), (RS.a10 h), (RS.a12 h), (RS.a13 h), (RS.a14 h), (RS.a16 h), (RS.a17 h)]; done) | (intro j hj; by_cases e : j = i <;> first | (rw [e]; simp (disch := omega) only [u2_ne, u2_same, u2_self, upd_ne, upd_self, (RS.f4 h), (RS.f5 h), (RS.f6 h), (RS.f7 h), (RS.f8 h), (RS.f9 h), (RS.f10 h), (RS.f11 h), (RS.f12 h), (RS.f13 h), (RS.cb h), (RS.cs h), (RS.cc h), (RS.ci h), (RS.a2 h), (RS.a3 h), (RS.a5 h), (RS.a6 h), (RS.a7 h), (RS.a8 h), (RS.a9 h), (RS.a10 h), (RS.a12 h), (RS.a13 h), (RS.a14 h), (RS.a16 h), (RS.a17 h)]; done) | (simp (disch := omega) only [u2_ne, u2_same, u2_self, upd_ne, upd_self, (RS.f4 h), (RS.f5 h), (RS.f6 h), (RS.f7 h), (RS.f8 h), (RS.f9 h), (RS.f10 h), (RS.f11 h), (RS.f12 h), (RS.f13 h), (RS.cb h), (RS.cs h), (RS.cc h), (RS.ci h), (RS.a2 h), (RS.a3 h), (RS.a5 h), (RS.a6 h), (RS.a7 h), (RS.a8 h), (RS.a9 h), (RS.a10 h), (RS.a12 h), (RS.a13 h), (RS.a14 h), (RS.a16 h), (RS.a17 h)]; done)))
theorem rs_a7 {σ : St} {b nb ns nc ni : Nat} {r : Nat → Int32} (h : RS σ b r nb ns nc ni) (hI : Iv r nb ns nc ni) {i : Nat} (hi : i < ns) (v : Int32) : RS (u2 σ (b + 7) i (v)) b (upd r (30 + 6 * i + 2) v) nb ns nc ni := by
  have hb := hI.hb; have hs := hI.hs; have hc := hI.hc; have hi3 := hI.hi
  (apply RS.mk; exact (RS.B h); all_goals first | (simp (disch := omega) only [u2_ne, u2_same, u2_self, upd_ne, upd_self, (RS.f4 h), (RS.f5 h), (RS.f6 h), (RS.f7 h), (RS.f8 h), (RS.f9 h), (RS.f10 h), (RS.f11 h), (RS.f12 h), (RS.f13 h), (RS.cb h), (RS.cs h), (RS.cc h), (RS.ci h), (RS.a2 h), (RS.a3 h), (RS.a5 h), (RS.a6 h), (RS.a7 h), (RS.a8 h), (RS.a9 h), (RS.a10 h), (RS.a12 h), (RS.a13 h), (RS.a14 h), (RS.a16 h), (RS.a17 h)]; done) | (intro j hj; simp (disch := omega) only [u2_ne, u2_same, u2_self, upd_ne, upd_self, (RS.f4 h), (RS.f5 h), (RS.f6 h), (RS.f7 h), (RS.f8 h), (RS.f9 h), (RS.f10 h), (RS.f11 h), (RS.f12 h), (RS.f13 h), (RS.cb h), (RS.cs h), (RS.cc h), (RS.ci h), (RS.a2 h), (RS.a3 h), (RS.a5 h), (RS.a6 h), (RS.a7 h), (RS.a8 h), (RS.a9 h), (RS.a10 h), (RS.a12 h), (RS.a13 h), (RS.a14 h), (RS.a16 h), (RS.a17 h)]; done) | (intro j hj; by_cases e : j = i <;> first | (rw [e]; simp (disch := omega) only [u2_ne, u2_same, u2_self, upd_ne, upd_self, (RS.f4 h), (RS.f5 h), (RS.f6 h), (RS.f7 h), (RS.f8 h), (RS.f9 h), (RS.f10 h), (RS.f11 h), (RS.f12 h), (RS.f13 h), (RS.cb h), (RS.cs h), (RS.cc h), (RS.ci h), (RS.a2 h), (RS.a3 h), (RS.a5 h), (RS.a6 h), (RS.a7 h), (RS.a8 h), (RS.a9 h), (RS.a10 h), (RS.a12 h), (RS.a13 h), (RS.a14 h), (RS.a16 h), (RS.a17 h)]; done) | (simp (disch := omega) only [u2_ne, u2_same, u2_self, upd_ne, upd_self, (RS.f4 h), (RS.f5 h), (RS.f6 h), (RS.f7 h), (RS.f8 h), (RS.f9 h), (RS.f10 h), (RS.f11 h), (RS.f12 h), (RS.f13 h), (RS.cb h), (RS.cs h), (RS.cc h), (RS.ci h), (RS.a2 h), (RS.a3 h), (RS.a5 h), (RS.a6 h), (RS.a7 h), (RS.a8 h), (RS.a9 h), (RS.a10 h), (RS.a12 h), (RS.a13 h), (RS.a14 h), (RS.a16 h), (RS.a17 h)]; done)))
theorem rs_a8 {σ : St} {b nb ns nc ni : Nat} {r : Nat → Int32} (h : RS σ b r nb ns nc ni) (hI : Iv r nb ns nc ni) {i : Nat} (hi : i < ns) (v : Int32) : RS (u2 σ (b + 8) i (v)) b (upd r (30 + 6 * i + 3) v) nb ns nc ni := by
  have hb := hI.hb; have hs := hI.hs; have hc := hI.hc; have hi3 := hI.hi
  (apply RS.mk; exact (RS.B h); all_goals first | (simp (disch := omega) only [u2_ne, u2_same, u2_self, upd_ne, upd_self, (RS.f4 h), (RS.f5 h), (RS.f6 h), (RS.f7 h), (RS.f8 h), (RS.f9 h), (RS.f10 h), (RS.f11 h), (RS.f12 h), (RS.f13 h), (RS.cb h), (RS.cs h), (RS.cc h), (RS.ci h), (RS.a2 h), (RS.a3 h), (RS.a5 h), (RS.a6 h), (RS.a7 h), (RS.a8 h), (RS.a9 h), (RS.a10 h), (RS.a12 h), (RS.a13 h), (RS.a14 h), (RS.a16 h), (RS.a17 h)]; done) | (intro j hj; simp (disch := omega) only [u2_ne, u2_same, u2_self, upd_ne, upd_self, (RS.f4 h), (RS.f5 h), (RS.f6 h), (RS.f7 h), (RS.f8 h), (RS.f9 h), (RS.f10 h), (RS.f11 h), (RS.f12 h), (RS.f13 h), (RS.cb h), (RS.cs h), (RS.cc h), (RS.ci h), (RS.a2 h), (RS.a3 h), (RS.a5 h), (RS.a6 h), (RS.a7 h), (RS.a8 h), (RS.a9 h), (RS.a10 h), (RS.a12 h), (RS.a13 h), (RS.a14 h), (RS.a16 h), (RS.a17 h)]; done) | (intro j hj; by_cases e : j = i <;> first | (rw [e]; simp (disch := omega) only [u2_ne, u2_same, u2_self, upd_ne, upd_self, (RS.f4 h), (RS.f5 h), (RS.f6 h), (RS.f7 h), (RS.f8 h), (RS.f9 h), (RS.f10 h), (RS.f11 h), (RS.f12 h), (RS.f13 h), (RS.cb h), (RS.cs h), (RS.cc h), (RS.ci h), (RS.a2 h), (RS.a3 h), (RS.a5 h), (RS.a6 h), (RS.a7 h), (RS.a8 h), (RS.a9 h), (RS.a10 h), (RS.a12 h), (RS.a13 h), (RS.a14 h), (RS.a16 h), (RS.a17 h)]; done) | (simp (disch := omega) only [u2_ne, u2_same, u2_self, upd_ne, upd_self, (RS.f4 h), (RS.f5 h), (RS.f6 h), (RS.f7 h), (RS.f8 h), (RS.f9 h), (RS.f10 h), (RS.f11 h), (RS.f12 h), (RS.f13 h), (RS.cb h), (RS.cs h), (RS.cc h), (RS.ci h), (RS.a2 h), (RS.a3 h), (RS.a5 h), (RS.a6 h), (RS.a7 h), (RS.a8 h), (RS.a9 h), (RS.a10 h), (RS.a12 h), (RS.a13 h), (RS.a14 h), (RS.a16 h), (RS.a17 h)]; done)))
theorem rs_a9 {σ : St} {b nb ns nc ni : Nat} {r : Nat → Int32} (h : RS σ b r nb ns nc ni) (hI : Iv r nb ns nc ni) {i : Nat} (hi : i < ns) (v : Int32) : RS (u2 σ (b + 9) i (v)) b (upd r (30 + 6 * i + 4) v) nb ns nc ni := by
  have hb := hI.hb; have hs := hI.hs; have hc := hI.hc; have hi3 := hI.hi
  (apply RS.mk; exact (RS.B h); all_goals first | (simp (disch := omega) only [u2_ne, u2_same, u2_self, upd_ne, upd_self, (RS.f4 h), (RS.f5 h), (RS.f6 h), (RS.f7 h), (RS.f8 h), (RS.f9 h), (RS.f10 h), (RS.f11 h), (RS.f12 h), (RS.f13 h), (RS.cb h), (RS.cs h), (RS.cc h), (RS.ci h), (RS.a2 h), (RS.a3 h), (RS.a5 h), (RS.a6 h), (RS.a7 h), (RS.a8 h), (RS.a9 h), (RS.a10 h), (RS.a12 h), (RS.a13 h), (RS.a14 h), (RS.a16 h), (RS.a17 h)]; done) | (intro j hj; simp (disch := omega) only [u2_ne, u2_same, u2_self, upd_ne, upd_self, (RS.f4 h), (RS.f5 h), (RS.f6 h), (RS.f7 h), (RS.f8 h), (RS.f9 h), (RS.f10 h), (RS.f11 h), (RS.f12 h), (RS.f13 h), (RS.cb h), (RS.cs h), (RS.cc h), (RS.ci h), (RS.a2 h), (RS.a3 h), (RS.a5 h), (RS.a6 h), (RS.a7 h), (RS.a8 h), (RS.a9 h), (RS.a10 h), (RS.a12 h), (RS.a13 h), (RS.a14 h), (RS.a16 h), (RS.a17 h)]; done) | (intro j hj; by_cases e : j = i <;> first | (rw [e]; simp (disch := omega) only [u2_ne, u2_same, u2_self, upd_ne, upd_self, (RS.f4 h), (RS.f5 h), (RS.f6 h), (RS.f7 h), (RS.f8 h), (RS.f9 h), (RS.f10 h), (RS.f11 h), (RS.f12 h), (RS.f13 h), (RS.cb h), (RS.cs h), (RS.cc h), (RS.ci h), (RS.a2 h), (RS.a3 h), (RS.a5 h), (RS.a6 h), (RS.a7 h), (RS.a8 h), (RS.a9 h), (RS.a10 h), (RS.a12 h), (RS.a13 h), (RS.a14 h), (RS.a16 h), (RS.a17 h)]; done) | (simp (disch := omega) only [u2_ne, u2_same, u2_self, upd_ne, upd_self, (RS.f4 h), (RS.f5 h), (RS.f6 h), (RS.f7 h), (RS.f8 h), (RS.f9 h), (RS.f10 h), (RS.f11 h), (RS.f12 h), (RS.f13 h), (RS.cb h), (RS.cs h), (RS.cc h), (RS.ci h), (RS.a2 h), (RS.a3 h), (RS.a5 h), (RS.a6 h), (RS.a7 h), (RS.a8 h), (RS.a9 h), (RS.a10 h), (RS.a12 h), (RS.a13 h), (RS.a14 h), (RS.a16 h), (RS.a17 h)]; done)))
theorem rs_a10 {σ : St} {b nb ns nc ni : Nat} {r : Nat → Int32} (h : RS σ b r nb ns nc ni) (hI : Iv r nb ns nc ni) {i : Nat} (hi : i < ns) (v : Int32) : RS (u2 σ (b + 10) i (mm v)) b (upd r (30 + 6 * i + 5) v) nb ns nc ni := by
  have hb := hI.hb; have hs := hI.hs; have hc := hI.hc; have hi3 := hI.hi
  (apply RS.mk; exact (RS.B h); all_goals first | (simp (disch := omega) only [u2_ne, u2_same, u2_self, upd_ne, upd_self, (RS.f4 h), (RS.f5 h), (RS.f6 h), (RS.f7 h), (RS.f8 h), (RS.f9 h), (RS.f10 h), (RS.f11 h), (RS.f12 h), (RS.f13 h), (RS.cb h), (RS.cs h), (RS.cc h), (RS.ci h), (RS.a2 h), (RS.a3 h), (RS.a5 h), (RS.a6 h), (RS.a7 h), (RS.a8 h), (RS.a9 h), (RS.a10 h), (RS.a12 h), (RS.a13 h), (RS.a14 h), (RS.a16 h), (RS.a17 h)]; done) | (intro j hj; simp (disch := omega) only [u2_ne, u2_same, u2_self, upd_ne, upd_self, (RS.f4 h), (RS.f5 h), (RS.f6 h), (RS.f7 h), (RS.f8 h), (RS.f9 h), (RS.f10 h), (RS.f11 h), (RS.f12 h), (RS.f13 h), (RS.cb h), (RS.cs h), (RS.cc h), (RS.ci h), (RS.a2 h), (RS.a3 h), (RS.a5 h), (RS.a6 h), (RS.a7 h), (RS.a8 h), (RS.a9 h), (RS.a10 h), (RS.a12 h), (RS.a13 h), (RS.a14 h), (RS.a16 h), (RS.a17 h)]; done) | (intro j hj; by_cases e : j = i <;> first | (rw [e]; simp (disch := omega) only [u2_ne, u2_same, u2_self, upd_ne, upd_self, (RS.f4 h), (RS.f5 h), (RS.f6 h), (RS.f7 h), (RS.f8 h), (RS.f9 h), (RS.f10 h), (RS.f11 h), (RS.f12 h), (RS.f13 h), (RS.cb h), (RS.cs h), (RS.cc h), (RS.ci h), (RS.a2 h), (RS.a3 h), (RS.a5 h), (RS.a6 h), (RS.a7 h), (RS.a8 h), (RS.a9 h), (RS.a10 h), (RS.a12 h), (RS.a13 h), (RS.a14 h), (RS.a16 h), (RS.a17 h)]; done) | (simp (disch := omega) only [u2_ne, u2_same, u2_self, upd_ne, upd_self, (RS.f4 h), (RS.f5 h), (RS.f6 h), (RS.f7 h), (RS.f8 h), (RS.f9 h), (RS.f10 h), (RS.f11 h), (RS.f12 h), (RS.f13 h), (RS.cb h), (RS.cs h), (RS.cc h), (RS.ci h), (RS.a2 h), (RS.a3 h), (RS.a5 h), (RS.a6 h), (RS.a7 h), (RS.a8 h), (RS.a9 h), (RS.a10 h), (RS.a12 h), (RS.a13 h), (RS.a14 h), (RS.a16 h), (RS.a17 h)]; done)))
theorem rs_a12 {σ : St} {b nb ns nc ni : Nat} {r : Nat → Int32} (h : RS σ b r nb ns nc ni) (hI : Iv r nb ns nc ni) {i : Nat} (hi : i < nc) (v : Int32) : RS (u2 σ (b + 12) i (v)) b (upd r (90 + 3 * i) v) nb ns nc ni := by
  have hb := hI.hb; have hs := hI.hs; have hc := hI.hc; have hi3 := hI.hi
  (apply RS.mk; exact (RS.B h); all_goals first | (simp (disch := omega) only [u2_ne, u2_same, u2_self, upd_ne, upd_self, (RS.f4 h), (RS.f5 h), (RS.f6 h), (RS.f7 h), (RS.f8 h), (RS.f9 h), (RS.f10 h), (RS.f11 h), (RS.f12 h), (RS.f13 h), (RS.cb h), (RS.cs h), (RS.cc h), (RS.ci h), (RS.a2 h), (RS.a3 h), (RS.a5 h), (RS.a6 h), (RS.a7 h), (RS.a8 h), (RS.a9 h), (RS.a10 h), (RS.a12 h), (RS.a13 h), (RS.a14 h), (RS.a16 h), (RS.a17 h)]; done) | (intro j hj; simp (disch := omega) only [u2_ne, u2_same, u2_self, upd_ne, upd_self, (RS.f4 h), (RS.f5 h), (RS.f6 h), (RS.f7 h), (RS.f8 h), (RS.f9 h), (RS.f10 h), (RS.f11 h), (RS.f12 h), (RS.f13 h), (RS.cb h), (RS.cs h), (RS.cc h), (RS.ci h), (RS.a2 h), (RS.a3 h), (RS.a5 h), (RS.a6 h), (RS.a7 h), (RS.a8 h), (RS.a9 h), (RS.a10 h), (RS.a12 h), (RS.a13 h), (RS.a14 h), (RS.a16 h), (RS.a17 h)]; done) | (intro j hj; by_cases e : j = i <;> first | (rw [e]; simp (disch := omega) only [u2_ne, u2_same, u2_self, upd_ne, upd_self, (RS.f4 h), (RS.f5 h), (RS.f6 h), (RS.f7 h), (RS.f8 h), (RS.f9 h), (RS.f10 h), (RS.f11 h), (RS.f12 h), (RS.f13 h), (RS.cb h), (RS.cs h), (RS.cc h), (RS.ci h), (RS.a2 h), (RS.a3 h), (RS.a5 h), (RS.a6 h), (RS.a7 h), (RS.a8 h), (RS.a9 h), (RS.a10 h), (RS.a12 h), (RS.a13 h), (RS.a14 h), (RS.a16 h), (RS.a17 h)]; done) | (simp (disch := omega) only [u2_ne, u2_same, u2_self, upd_ne, upd_self, (RS.f4 h), (RS.f5 h), (RS.f6 h), (RS.f7 h), (RS.f8 h), (RS.f9 h), (RS.f10 h), (RS.f11 h), (RS.f12 h), (RS.f13 h), (RS.cb h), (RS.cs h), (RS.cc h), (RS.ci h), (RS.a2 h), (RS.a3 h), (RS.a5 h), (RS.a6 h), (RS.a7 h), (RS.a8 h), (RS.a9 h), (RS.a10 h), (RS.a12 h), (RS.a13 h), (RS.a14 h), (RS.a16 h), (RS.a17 h)]; done)))
theorem rs_a13 {σ : St} {b nb ns nc ni : Nat} {r : Nat → Int32} (h : RS σ b r nb ns nc ni) (hI : Iv r nb ns nc ni) {i : Nat} (hi : i < nc) (v : Int32) : RS (u2 σ (b + 13) i (mm v)) b (upd r (90 + 3 * i + 1) v) nb ns nc ni := by
  have hb := hI.hb; have hs := hI.hs; have hc := hI.hc; have hi3 := hI.hi
  (apply RS.mk; exact (RS.B h); all_goals first | (simp (disch := omega) only [u2_ne, u2_same, u2_self, upd_ne, upd_self, (RS.f4 h), (RS.f5 h), (RS.f6 h), (RS.f7 h), (RS.f8 h), (RS.f9 h), (RS.f10 h), (RS.f11 h), (RS.f12 h), (RS.f13 h), (RS.cb h), (RS.cs h), (RS.cc h), (RS.ci h), (RS.a2 h), (RS.a3 h), (RS.a5 h), (RS.a6 h), (RS.a7 h), (RS.a8 h), (RS.a9 h), (RS.a10 h), (RS.a12 h), (RS.a13 h), (RS.a14 h), (RS.a16 h), (RS.a17 h)]; done) | (intro j hj; simp (disch := omega) only [u2_ne, u2_same, u2_self, upd_ne, upd_self, (RS.f4 h), (RS.f5 h), (RS.f6 h), (RS.f7 h), (RS.f8 h), (RS.f9 h), (RS.f10 h), (RS.f11 h), (RS.f12 h), (RS.f13 h), (RS.cb h), (RS.cs h), (RS.cc h), (RS.ci h), (RS.a2 h), (RS.a3 h), (RS.a5 h), (RS.a6 h), (RS.a7 h), (RS.a8 h), (RS.a9 h), (RS.a10 h), (RS.a12 h), (RS.a13 h), (RS.a14 h), (RS.a16 h), (RS.a17 h)]; done) | (intro j hj; by_cases e : j = i <;> first | (rw [e]; simp (disch := omega) only [u2_ne, u2_same, u2_self, upd_ne, upd_self, (RS.f4 h), (RS.f5 h), (RS.f6 h), (RS.f7 h), (RS.f8 h), (RS.f9 h), (RS.f10 h), (RS.f11 h), (RS.f12 h), (RS.f13 h), (RS.cb h), (RS.cs h), (RS.cc h), (RS.ci h), (RS.a2 h), (RS.a3 h), (RS.a5 h), (RS.a6 h), (RS.a7 h), (RS.a8 h), (RS.a9 h), (RS.a10 h), (RS.a12 h), (RS.a13 h), (RS.a14 h), (RS.a16 h), (RS.a17 h)]; done) | (simp (disch := omega) only [u2_ne, u2_same, u2_self, upd_ne, upd_self, (RS.f4 h), (RS.f5 h), (RS.f6 h), (RS.f7 h), (RS.f8 h), (RS.f9 h), (RS.f10 h), (RS.f11 h), (RS.f12 h), (RS.f13 h), (RS.cb h), (RS.cs h), (RS.cc h), (RS.ci h), (RS.a2 h), (RS.a3 h), (RS.a5 h), (RS.a6 h), (RS.a7 h), (RS.a8 h), (RS.a9 h), (RS.a10 h), (RS.a12 h), (RS.a13 h), (RS.a14 h), (RS.a16 h), (RS.a17 h)]; done)))
theorem rs_a14 {σ : St} {b nb ns nc ni : Nat} {r : Nat → Int32} (h : RS σ b r nb ns nc ni) (hI : Iv r nb ns nc ni) {i : Nat} (hi : i < nc) (v : Int32) : RS (u2 σ (b + 14) i (v)) b (upd r (90 + 3 * i + 2) v) nb ns nc ni := by
  have hb := hI.hb; have hs := hI.hs; have hc := hI.hc; have hi3 := hI.hi
  (apply RS.mk; exact (RS.B h); all_goals first | (simp (disch := omega) only [u2_ne, u2_same, u2_self, upd_ne, upd_self, (RS.f4 h), (RS.f5 h), (RS.f6 h), (RS.f7 h), (RS.f8 h), (RS.f9 h), (RS.f10 h), (RS.f11 h), (RS.f12 h), (RS.f13 h), (RS.cb h), (RS.cs h), (RS.cc h), (RS.ci h), (RS.a2 h), (RS.a3 h), (RS.a5 h), (RS.a6 h), (RS.a7 h), (RS.a8 h), (RS.a9 h), (RS.a10 h), (RS.a12 h), (RS.a13 h), (RS.a14 h), (RS.a16 h), (RS.a17 h)]; done) | (intro j hj; simp (disch := omega) only [u2_ne, u2_same, u2_self, upd_ne, upd_self, (RS.f4 h), (RS.f5 h), (RS.f6 h), (RS.f7 h), (RS.f8 h), (RS.f9 h), (RS.f10 h), (RS.f11 h), (RS.f12 h), (RS.f13 h), (RS.cb h), (RS.cs h), (RS.cc h), (RS.ci h), (RS.a2 h), (RS.a3 h), (RS.a5 h), (RS.a6 h), (RS.a7 h), (RS.a8 h), (RS.a9 h), (RS.a10 h), (RS.a12 h), (RS.a13 h), (RS.a14 h), (RS.a16 h), (RS.a17 h)]; done) | (intro j hj; by_cases e : j = i <;> first | (rw [e]; simp (disch := omega) only [u2_ne, u2_same, u2_self, upd_ne, upd_self, (RS.f4 h), (RS.f5 h), (RS.f6 h), (RS.f7 h), (RS.f8 h), (RS.f9 h), (RS.f10 h), (RS.f11 h), (RS.f12 h), (RS.f13 h), (RS.cb h), (RS.cs h), (RS.cc h), (RS.ci h), (RS.a2 h), (RS.a3 h), (RS.a5 h), (RS.a6 h), (RS.a7 h), (RS.a8 h), (RS.a9 h), (RS.a10 h), (RS.a12 h), (RS.a13 h), (RS.a14 h), (RS.a16 h), (RS.a17 h)]; done) | (simp (disch := omega) only [u2_ne, u2_same, u2_self, upd_ne, upd_self, (RS.f4 h), (RS.f5 h), (RS.f6 h), (RS.f7 h), (RS.f8 h), (RS.f9 h), (RS.f10 h), (RS.f11 h), (RS.f12 h), (RS.f13 h), (RS.cb h), (RS.cs h), (RS.cc h), (RS.ci h), (RS.a2 h), (RS.a3 h), (RS.a5 h), (RS.a6 h), (RS.a7 h), (RS.a8 h), (RS.a9 h), (RS.a10 h), (RS.a12 h), (RS.a13 h), (RS.a14 h), (RS.a16 h), (RS.a17 h)]; done)))
theorem rs_a16 {σ : St} {b nb ns nc ni : Nat} {r : Nat → Int32} (h : RS σ b r nb ns nc ni) (hI : Iv r nb ns nc ni) {i : Nat} (hi : i < ni) (v : Int32) : RS (u2 σ (b + 16) i (v)) b (upd r (105 + 2 * i) v) nb ns nc ni := by
  have hb := hI.hb; have hs := hI.hs; have hc := hI.hc; have hi3 := hI.hi
  (apply RS.mk; exact (RS.B h); all_goals first | (simp (disch := omega) only [u2_ne, u2_same, u2_self, upd_ne, upd_self, (RS.f4 h), (RS.f5 h), (RS.f6 h), (RS.f7 h), (RS.f8 h), (RS.f9 h), (RS.f10 h), (RS.f11 h), (RS.f12 h), (RS.f13 h), (RS.cb h), (RS.cs h), (RS.cc h), (RS.ci h), (RS.a2 h), (RS.a3 h), (RS.a5 h), (RS.a6 h), (RS.a7 h), (RS.a8 h), (RS.a9 h), (RS.a10 h), (RS.a12 h), (RS.a13 h), (RS.a14 h), (RS.a16 h), (RS.a17 h)]; done) | (intro j hj; simp (disch := omega) only [u2_ne, u2_same, u2_self, upd_ne, upd_self, (RS.f4 h), (RS.f5 h), (RS.f6 h), (RS.f7 h), (RS.f8 h), (RS.f9 h), (RS.f10 h), (RS.f11 h), (RS.f12 h), (RS.f13 h), (RS.cb h), (RS.cs h), (RS.cc h), (RS.ci h), (RS.a2 h), (RS.a3 h), (RS.a5 h), (RS.a6 h), (RS.a7 h), (RS.a8 h), (RS.a9 h), (RS.a10 h), (RS.a12 h), (RS.a13 h), (RS.a14 h), (RS.a16 h), (RS.a17 h)]; done) | (intro j hj; by_cases e : j = i <;> first | (rw [e]; simp (disch := omega) only [u2_ne, u2_same, u2_self, upd_ne, upd_self, (RS.f4 h), (RS.f5 h), (RS.f6 h), (RS.f7 h), (RS.f8 h), (RS.f9 h), (RS.f10 h), (RS.f11 h), (RS.f12 h), (RS.f13 h), (RS.cb h), (RS.cs h), (RS.cc h), (RS.ci h), (RS.a2 h), (RS.a3 h), (RS.a5 h), (RS.a6 h), (RS.a7 h), (RS.a8 h), (RS.a9 h), (RS.a10 h), (RS.a12 h), (RS.a13 h), (RS.a14 h), (RS.a16 h), (RS.a17 h)]; done) | (simp (disch := omega) only [u2_ne, u2_same, u2_self, upd_ne, upd_self, (RS.f4 h), (RS.f5 h), (RS.f6 h), (RS.f7 h), (RS.f8 h), (RS.f9 h), (RS.f10 h), (RS.f11 h), (RS.f12 h), (RS.f13 h), (RS.cb h), (RS.cs h), (RS.cc h), (RS.ci h), (RS.a2 h), (RS.a3 h), (RS.a5 h), (RS.a6 h), (RS.a7 h), (RS.a8 h), (RS.a9 h), (RS.a10 h), (RS.a12 h), (RS.a13 h), (RS.a14 h), (RS.a16 h), (RS.a17 h)]; done)))
theorem rs_a17 {σ : St} {b nb ns nc ni : Nat} {r : Nat → Int32} (h : RS σ b r nb ns nc ni) (hI : Iv r nb ns nc ni) {i : Nat} (hi : i < ni) (v : Int32) : RS (u2 σ (b + 17) i (v)) b (upd r (105 + 2 * i + 1) v) nb ns nc ni := by
  have hb := hI.hb; have hs := hI.hs; have hc := hI.hc; have hi3 := hI.hi
  (apply RS.mk; exact (RS.B h); all_goals first | (simp (disch := omega) only [u2_ne, u2_same, u2_self, upd_ne, upd_self, (RS.f4 h), (RS.f5 h), (RS.f6 h), (RS.f7 h), (RS.f8 h), (RS.f9 h), (RS.f10 h), (RS.f11 h), (RS.f12 h), (RS.f13 h), (RS.cb h), (RS.cs h), (RS.cc h), (RS.ci h), (RS.a2 h), (RS.a3 h), (RS.a5 h), (RS.a6 h), (RS.a7 h), (RS.a8 h), (RS.a9 h), (RS.a10 h), (RS.a12 h), (RS.a13 h), (RS.a14 h), (RS.a16 h), (RS.a17 h)]; done) | (intro j hj; simp (disch := omega) only [u2_ne, u2_same, u2_self, upd_ne, upd_self, (RS.f4 h), (RS.f5 h), (RS.f6 h), (RS.f7 h), (RS.f8 h), (RS.f9 h), (RS.f10 h), (RS.f11 h), (RS.f12 h), (RS.f13 h), (RS.cb h), (RS.cs h), (RS.cc h), (RS.ci h), (RS.a2 h), (RS.a3 h), (RS.a5 h), (RS.a6 h), (RS.a7 h), (RS.a8 h), (RS.a9 h), (RS.a10 h), (RS.a12 h), (RS.a13 h), (RS.a14 h), (RS.a16 h), (RS.a17 h)]; done) | (intro j hj; by_cases e : j = i <;> first | (rw [e]; simp (disch := omega) only [u2_ne, u2_same, u2_self, upd_ne, upd_self, (RS.f4 h), (RS.f5 h), (RS.f6 h), (RS.f7 h), (RS.f8 h), (RS.f9 h), (RS.f10 h), (RS.f11 h), (RS.f12 h), (RS.f13 h), (RS.cb h), (RS.cs h), (RS.cc h), (RS.ci h), (RS.a2 h), (RS.a3 h), (RS.a5 h), (RS.a6 h), (RS.a7 h), (RS.a8 h), (RS.a9 h), (RS.a10 h), (RS.a12 h), (RS.a13 h), (RS.a14 h), (RS.a16 h), (RS.a17 h)]; done) | (simp (disch := omega) only [u2_ne, u2_same, u2_self, upd_ne, upd_self, (RS.f4 h), (RS.f5 h), (RS.f6 h), (RS.f7 h), (RS.f8 h), (RS.f9 h), (RS.f10 h), (RS.f11 h), (RS.f12 h), (RS.f13 h), (RS.cb h), (RS.cs h), (RS.cc h), (RS.ci h), (RS.a2 h), (RS.a3 h), (RS.a5 h), (RS.a6 h), (RS.a7 h), (RS.a8 h), (RS.a9 h), (RS.a10 h), (RS.a12 h), (RS.a13 h), (RS.a14 h), (RS.a16 h), (RS.a17 h)]; done)))
theorem iv_irr {nb ns nc ni : Nat} {r r1 : Nat → Int32} (hI : Iv r nb ns nc ni) (e : ∀ j, j ≠ 0 → (j < 8 ∨ (14 ≤ j ∧ j < 30 ∧ j % 2 = 1) ∨ (30 ≤ j ∧ j < 90) ∨ (90 ≤ j ∧ j < 105 ∧ j % 3 ≠ 2) ∨ (105 ≤ j ∧ j < 111 ∧ j % 2 = 1)) → r1 j = r j) : Iv r1 nb ns nc ni := by
  have hb := hI.hb; have hs := hI.hs; have hc := hI.hc; have hi3 := hI.hi
  refine ⟨hb, hs, hc, hi3, ?_, ?_, ?_, ?_, ?_, ?_, ?_, ?_, ?_, ?_, ?_, ?_, ?_, ?_, ?_, ?_, ?_, ?_, ?_⟩
  · rw [e _ (by omega) (by omega)]; exact hI.cb
  · rw [e _ (by omega) (by omega)]; exact hI.cs
  · rw [e _ (by omega) (by omega)]; exact hI.cc
  · rw [e _ (by omega) (by omega)]; exact hI.ci
  · rw [e _ (by omega) (by omega)]; exact hI.sg
  · rw [e _ (by omega) (by omega)]; exact hI.st
  · rw [e _ (by omega) (by omega)]; exact hI.tu
  · intro i hi; rw [e _ (by omega) (by omega)]; exact hI.ba i hi
  · intro i hi; rw [e _ (by omega) (by omega)]; exact hI.sp i hi
  · intro i hi; rw [e _ (by omega) (by omega)]; exact hI.sw i hi
  · intro i hi; rw [e _ (by omega) (by omega)]; exact hI.tt i hi
  · intro i hi; rw [e _ (by omega) (by omega)]; exact hI.sh i hi
  · intro i hi; rw [e _ (by omega) (by omega)]; exact hI.sl i hi
  · intro i hi; rw [e _ (by omega) (by omega)]; exact hI.su i hi
  · intro i hi; rw [e _ (by omega) (by omega)]; exact hI.ck i hi
  · intro i hi; rw [e _ (by omega) (by omega)]; exact hI.cp i hi
  · intro i hi; rw [e _ (by omega) (by omega)]; exact hI.nn i hi
  · intro g i hi; rw [e _ (by omega) (by omega)] at g ⊢; exact hI.gr g i hi
  · intro i c hi hc1 g; rw [e _ (by omega) (by omega)] at g ⊢; exact hI.nc0 i c hi hc1 g
theorem iv_sp {nb ns nc ni : Nat} {r : Nat → Int32} (hI : Iv r nb ns nc ni) {i : Nat} (hi : i < ns) {v : Int32} (hv : ∃ g, g ≤ 8 ∧ v = Int32.ofNat g) : Iv (upd r (30 + 6 * i + 0) v) nb ns nc ni := by
  have hb := hI.hb; have hs := hI.hs; have hc := hI.hc; have hi3 := hI.hi
  refine ⟨hb, hs, hc, hi3, ?_, ?_, ?_, ?_, ?_, ?_, ?_, ?_, ?_, ?_, ?_, ?_, ?_, ?_, ?_, ?_, ?_, ?_, ?_⟩
  · rw [upd_ne (by omega)]; exact hI.cb
  · rw [upd_ne (by omega)]; exact hI.cs
  · rw [upd_ne (by omega)]; exact hI.cc
  · rw [upd_ne (by omega)]; exact hI.ci
  · rw [upd_ne (by omega)]; exact hI.sg
  · rw [upd_ne (by omega)]; exact hI.st
  · rw [upd_ne (by omega)]; exact hI.tu
  · intro q hq; rw [upd_ne (by omega)]; exact hI.ba q hq
  · intro q hq
    by_cases e : q = i
    · rw [e, upd_self]; exact hv
    · rw [upd_ne (by omega)]; exact hI.sp q hq
  · intro q hq; rw [upd_ne (by omega)]; exact hI.sw q hq
  · intro q hq; rw [upd_ne (by omega)]; exact hI.tt q hq
  · intro q hq; rw [upd_ne (by omega)]; exact hI.sh q hq
  · intro q hq; rw [upd_ne (by omega)]; exact hI.sl q hq
  · intro q hq; rw [upd_ne (by omega)]; exact hI.su q hq
  · intro q hq; rw [upd_ne (by omega)]; exact hI.ck q hq
  · intro q hq; rw [upd_ne (by omega)]; exact hI.cp q hq
  · intro q hq; rw [upd_ne (by omega)]; exact hI.nn q hq
  · intro g q hq; rw [upd_ne (by omega)] at g; rw [upd_ne (by omega)]; exact hI.gr g q hq
  · intro q c hq hc1 g; rw [upd_ne (by omega)] at g; rw [upd_ne (by omega)]; exact hI.nc0 q c hq hc1 g
theorem iv_sw {nb ns nc ni : Nat} {r : Nat → Int32} (hI : Iv r nb ns nc ni) {i : Nat} (hi : i < ns) {v : Int32} (hv : ∃ g, g ≤ 60 ∧ v = Int32.ofNat g) : Iv (upd r (30 + 6 * i + 1) v) nb ns nc ni := by
  have hb := hI.hb; have hs := hI.hs; have hc := hI.hc; have hi3 := hI.hi
  refine ⟨hb, hs, hc, hi3, ?_, ?_, ?_, ?_, ?_, ?_, ?_, ?_, ?_, ?_, ?_, ?_, ?_, ?_, ?_, ?_, ?_, ?_, ?_⟩
  · rw [upd_ne (by omega)]; exact hI.cb
  · rw [upd_ne (by omega)]; exact hI.cs
  · rw [upd_ne (by omega)]; exact hI.cc
  · rw [upd_ne (by omega)]; exact hI.ci
  · rw [upd_ne (by omega)]; exact hI.sg
  · rw [upd_ne (by omega)]; exact hI.st
  · rw [upd_ne (by omega)]; exact hI.tu
  · intro q hq; rw [upd_ne (by omega)]; exact hI.ba q hq
  · intro q hq; rw [upd_ne (by omega)]; exact hI.sp q hq
  · intro q hq
    by_cases e : q = i
    · rw [e, upd_self]; exact hv
    · rw [upd_ne (by omega)]; exact hI.sw q hq
  · intro q hq; rw [upd_ne (by omega)]; exact hI.tt q hq
  · intro q hq; rw [upd_ne (by omega)]; exact hI.sh q hq
  · intro q hq; rw [upd_ne (by omega)]; exact hI.sl q hq
  · intro q hq; rw [upd_ne (by omega)]; exact hI.su q hq
  · intro q hq; rw [upd_ne (by omega)]; exact hI.ck q hq
  · intro q hq; rw [upd_ne (by omega)]; exact hI.cp q hq
  · intro q hq; rw [upd_ne (by omega)]; exact hI.nn q hq
  · intro g q hq; rw [upd_ne (by omega)] at g; rw [upd_ne (by omega)]; exact hI.gr g q hq
  · intro q c hq hc1 g; rw [upd_ne (by omega)] at g; rw [upd_ne (by omega)]; exact hI.nc0 q c hq hc1 g
theorem iv_tt {nb ns nc ni : Nat} {r : Nat → Int32} (hI : Iv r nb ns nc ni) {i : Nat} (hi : i < ns) {v : Int32} (hv : ∃ g, g ≤ 99 ∧ v = Int32.ofNat g) : Iv (upd r (30 + 6 * i + 2) v) nb ns nc ni := by
  have hb := hI.hb; have hs := hI.hs; have hc := hI.hc; have hi3 := hI.hi
  refine ⟨hb, hs, hc, hi3, ?_, ?_, ?_, ?_, ?_, ?_, ?_, ?_, ?_, ?_, ?_, ?_, ?_, ?_, ?_, ?_, ?_, ?_, ?_⟩
  · rw [upd_ne (by omega)]; exact hI.cb
  · rw [upd_ne (by omega)]; exact hI.cs
  · rw [upd_ne (by omega)]; exact hI.cc
  · rw [upd_ne (by omega)]; exact hI.ci
  · rw [upd_ne (by omega)]; exact hI.sg
  · rw [upd_ne (by omega)]; exact hI.st
  · rw [upd_ne (by omega)]; exact hI.tu
  · intro q hq; rw [upd_ne (by omega)]; exact hI.ba q hq
  · intro q hq; rw [upd_ne (by omega)]; exact hI.sp q hq
  · intro q hq; rw [upd_ne (by omega)]; exact hI.sw q hq
  · intro q hq
    by_cases e : q = i
    · rw [e, upd_self]; exact hv
    · rw [upd_ne (by omega)]; exact hI.tt q hq
  · intro q hq; rw [upd_ne (by omega)]; exact hI.sh q hq
  · intro q hq; rw [upd_ne (by omega)]; exact hI.sl q hq
  · intro q hq; rw [upd_ne (by omega)]; exact hI.su q hq
  · intro q hq; rw [upd_ne (by omega)]; exact hI.ck q hq
  · intro q hq; rw [upd_ne (by omega)]; exact hI.cp q hq
  · intro q hq; rw [upd_ne (by omega)]; exact hI.nn q hq
  · intro g q hq; rw [upd_ne (by omega)] at g; rw [upd_ne (by omega)]; exact hI.gr g q hq
  · intro q c hq hc1 g; rw [upd_ne (by omega)] at g; rw [upd_ne (by omega)]; exact hI.nc0 q c hq hc1 g
theorem iv_sh {nb ns nc ni : Nat} {r : Nat → Int32} (hI : Iv r nb ns nc ni) {i : Nat} (hi : i < ns) {v : Int32} (hv : ∃ g, g ≤ 40 ∧ v = Int32.ofNat g) : Iv (upd r (30 + 6 * i + 3) v) nb ns nc ni := by
  have hb := hI.hb; have hs := hI.hs; have hc := hI.hc; have hi3 := hI.hi
  refine ⟨hb, hs, hc, hi3, ?_, ?_, ?_, ?_, ?_, ?_, ?_, ?_, ?_, ?_, ?_, ?_, ?_, ?_, ?_, ?_, ?_, ?_, ?_⟩
  · rw [upd_ne (by omega)]; exact hI.cb
  · rw [upd_ne (by omega)]; exact hI.cs
  · rw [upd_ne (by omega)]; exact hI.cc
  · rw [upd_ne (by omega)]; exact hI.ci
  · rw [upd_ne (by omega)]; exact hI.sg
  · rw [upd_ne (by omega)]; exact hI.st
  · rw [upd_ne (by omega)]; exact hI.tu
  · intro q hq; rw [upd_ne (by omega)]; exact hI.ba q hq
  · intro q hq; rw [upd_ne (by omega)]; exact hI.sp q hq
  · intro q hq; rw [upd_ne (by omega)]; exact hI.sw q hq
  · intro q hq; rw [upd_ne (by omega)]; exact hI.tt q hq
  · intro q hq
    by_cases e : q = i
    · rw [e, upd_self]; exact hv
    · rw [upd_ne (by omega)]; exact hI.sh q hq
  · intro q hq; rw [upd_ne (by omega)]; exact hI.sl q hq
  · intro q hq; rw [upd_ne (by omega)]; exact hI.su q hq
  · intro q hq; rw [upd_ne (by omega)]; exact hI.ck q hq
  · intro q hq; rw [upd_ne (by omega)]; exact hI.cp q hq
  · intro q hq; rw [upd_ne (by omega)]; exact hI.nn q hq
  · intro g q hq; rw [upd_ne (by omega)] at g; rw [upd_ne (by omega)]; exact hI.gr g q hq
  · intro q c hq hc1 g; rw [upd_ne (by omega)] at g; rw [upd_ne (by omega)]; exact hI.nc0 q c hq hc1 g
theorem iv_sl {nb ns nc ni : Nat} {r : Nat → Int32} (hI : Iv r nb ns nc ni) {i : Nat} (hi : i < ns) {v : Int32} (hv : ∃ g, g ≤ 9 ∧ v = Int32.ofNat g) : Iv (upd r (30 + 6 * i + 4) v) nb ns nc ni := by
  have hb := hI.hb; have hs := hI.hs; have hc := hI.hc; have hi3 := hI.hi
  refine ⟨hb, hs, hc, hi3, ?_, ?_, ?_, ?_, ?_, ?_, ?_, ?_, ?_, ?_, ?_, ?_, ?_, ?_, ?_, ?_, ?_, ?_, ?_⟩
  · rw [upd_ne (by omega)]; exact hI.cb
  · rw [upd_ne (by omega)]; exact hI.cs
  · rw [upd_ne (by omega)]; exact hI.cc
  · rw [upd_ne (by omega)]; exact hI.ci
  · rw [upd_ne (by omega)]; exact hI.sg
  · rw [upd_ne (by omega)]; exact hI.st
  · rw [upd_ne (by omega)]; exact hI.tu
  · intro q hq; rw [upd_ne (by omega)]; exact hI.ba q hq
  · intro q hq; rw [upd_ne (by omega)]; exact hI.sp q hq
  · intro q hq; rw [upd_ne (by omega)]; exact hI.sw q hq
  · intro q hq; rw [upd_ne (by omega)]; exact hI.tt q hq
  · intro q hq; rw [upd_ne (by omega)]; exact hI.sh q hq
  · intro q hq
    by_cases e : q = i
    · rw [e, upd_self]; exact hv
    · rw [upd_ne (by omega)]; exact hI.sl q hq
  · intro q hq; rw [upd_ne (by omega)]; exact hI.su q hq
  · intro q hq; rw [upd_ne (by omega)]; exact hI.ck q hq
  · intro q hq; rw [upd_ne (by omega)]; exact hI.cp q hq
  · intro q hq; rw [upd_ne (by omega)]; exact hI.nn q hq
  · intro g q hq; rw [upd_ne (by omega)] at g; rw [upd_ne (by omega)]; exact hI.gr g q hq
  · intro q c hq hc1 g; rw [upd_ne (by omega)] at g; rw [upd_ne (by omega)]; exact hI.nc0 q c hq hc1 g
theorem iv_ba {nb ns nc ni : Nat} {r : Nat → Int32} (hI : Iv r nb ns nc ni) {i : Nat} (hi : i < nb) {v : Int32} (hv : ∃ g, g ≤ 60 ∧ v = Int32.ofNat g) : Iv (upd r (14 + 2 * i + 1) v) nb ns nc ni := by
  have hb := hI.hb; have hs := hI.hs; have hc := hI.hc; have hi3 := hI.hi
  refine ⟨hb, hs, hc, hi3, ?_, ?_, ?_, ?_, ?_, ?_, ?_, ?_, ?_, ?_, ?_, ?_, ?_, ?_, ?_, ?_, ?_, ?_, ?_⟩
  · rw [upd_ne (by omega)]; exact hI.cb
  · rw [upd_ne (by omega)]; exact hI.cs
  · rw [upd_ne (by omega)]; exact hI.cc
  · rw [upd_ne (by omega)]; exact hI.ci
  · rw [upd_ne (by omega)]; exact hI.sg
  · rw [upd_ne (by omega)]; exact hI.st
  · rw [upd_ne (by omega)]; exact hI.tu
  · intro q hq
    by_cases e : q = i
    · rw [e, upd_self]; exact hv
    · rw [upd_ne (by omega)]; exact hI.ba q hq
  · intro q hq; rw [upd_ne (by omega)]; exact hI.sp q hq
  · intro q hq; rw [upd_ne (by omega)]; exact hI.sw q hq
  · intro q hq; rw [upd_ne (by omega)]; exact hI.tt q hq
  · intro q hq; rw [upd_ne (by omega)]; exact hI.sh q hq
  · intro q hq; rw [upd_ne (by omega)]; exact hI.sl q hq
  · intro q hq; rw [upd_ne (by omega)]; exact hI.su q hq
  · intro q hq; rw [upd_ne (by omega)]; exact hI.ck q hq
  · intro q hq; rw [upd_ne (by omega)]; exact hI.cp q hq
  · intro q hq; rw [upd_ne (by omega)]; exact hI.nn q hq
  · intro g q hq; rw [upd_ne (by omega)] at g; rw [upd_ne (by omega)]; exact hI.gr g q hq
  · intro q c hq hc1 g; rw [upd_ne (by omega)] at g; rw [upd_ne (by omega)]; exact hI.nc0 q c hq hc1 g
theorem iv_st {nb ns nc ni : Nat} {r : Nat → Int32} (hI : Iv r nb ns nc ni) {v : Int32} (hv : ∃ g, g ≤ 200 ∧ v = Int32.ofNat g) : Iv (upd r (6) v) nb ns nc ni := by
  have hb := hI.hb; have hs := hI.hs; have hc := hI.hc; have hi3 := hI.hi
  refine ⟨hb, hs, hc, hi3, ?_, ?_, ?_, ?_, ?_, ?_, ?_, ?_, ?_, ?_, ?_, ?_, ?_, ?_, ?_, ?_, ?_, ?_, ?_⟩
  · rw [upd_ne (by omega)]; exact hI.cb
  · rw [upd_ne (by omega)]; exact hI.cs
  · rw [upd_ne (by omega)]; exact hI.cc
  · rw [upd_ne (by omega)]; exact hI.ci
  · rw [upd_ne (by omega)]; exact hI.sg
  · rw [upd_self]; exact hv
  · rw [upd_ne (by omega)]; exact hI.tu
  · intro q hq; rw [upd_ne (by omega)]; exact hI.ba q hq
  · intro q hq; rw [upd_ne (by omega)]; exact hI.sp q hq
  · intro q hq; rw [upd_ne (by omega)]; exact hI.sw q hq
  · intro q hq; rw [upd_ne (by omega)]; exact hI.tt q hq
  · intro q hq; rw [upd_ne (by omega)]; exact hI.sh q hq
  · intro q hq; rw [upd_ne (by omega)]; exact hI.sl q hq
  · intro q hq; rw [upd_ne (by omega)]; exact hI.su q hq
  · intro q hq; rw [upd_ne (by omega)]; exact hI.ck q hq
  · intro q hq; rw [upd_ne (by omega)]; exact hI.cp q hq
  · intro q hq; rw [upd_ne (by omega)]; exact hI.nn q hq
  · intro g q hq; rw [upd_ne (by omega)] at g; rw [upd_ne (by omega)]; exact hI.gr g q hq
  · intro q c hq hc1 g; rw [upd_ne (by omega)] at g; rw [upd_ne (by omega)]; exact hI.nc0 q c hq hc1 g
theorem iv_tu {nb ns nc ni : Nat} {r : Nat → Int32} (hI : Iv r nb ns nc ni) {v : Int32} (hv : ∃ g, g ≤ 20 ∧ v = Int32.ofNat g) : Iv (upd r (7) v) nb ns nc ni := by
  have hb := hI.hb; have hs := hI.hs; have hc := hI.hc; have hi3 := hI.hi
  refine ⟨hb, hs, hc, hi3, ?_, ?_, ?_, ?_, ?_, ?_, ?_, ?_, ?_, ?_, ?_, ?_, ?_, ?_, ?_, ?_, ?_, ?_, ?_⟩
  · rw [upd_ne (by omega)]; exact hI.cb
  · rw [upd_ne (by omega)]; exact hI.cs
  · rw [upd_ne (by omega)]; exact hI.cc
  · rw [upd_ne (by omega)]; exact hI.ci
  · rw [upd_ne (by omega)]; exact hI.sg
  · rw [upd_ne (by omega)]; exact hI.st
  · rw [upd_self]; exact hv
  · intro q hq; rw [upd_ne (by omega)]; exact hI.ba q hq
  · intro q hq; rw [upd_ne (by omega)]; exact hI.sp q hq
  · intro q hq; rw [upd_ne (by omega)]; exact hI.sw q hq
  · intro q hq; rw [upd_ne (by omega)]; exact hI.tt q hq
  · intro q hq; rw [upd_ne (by omega)]; exact hI.sh q hq
  · intro q hq; rw [upd_ne (by omega)]; exact hI.sl q hq
  · intro q hq; rw [upd_ne (by omega)]; exact hI.su q hq
  · intro q hq; rw [upd_ne (by omega)]; exact hI.ck q hq
  · intro q hq; rw [upd_ne (by omega)]; exact hI.cp q hq
  · intro q hq; rw [upd_ne (by omega)]; exact hI.nn q hq
  · intro g q hq; rw [upd_ne (by omega)] at g; rw [upd_ne (by omega)]; exact hI.gr g q hq
  · intro q c hq hc1 g; rw [upd_ne (by omega)] at g; rw [upd_ne (by omega)]; exact hI.nc0 q c hq hc1 g
theorem iv_sg {nb ns nc ni : Nat} {r : Nat → Int32} (hI : Iv r nb ns nc ni) {v : Int32} (hv : ∃ g, g ≤ 10 ∧ v = Int32.ofNat g) (hg : (3 : Int32) ≤ v → ∀ i, i < nc → r (90 + 3 * i + 1) = 0) : Iv (upd r (1) v) nb ns nc ni := by
  have hb := hI.hb; have hs := hI.hs; have hc := hI.hc; have hi3 := hI.hi
  refine ⟨hb, hs, hc, hi3, ?_, ?_, ?_, ?_, ?_, ?_, ?_, ?_, ?_, ?_, ?_, ?_, ?_, ?_, ?_, ?_, ?_, ?_, ?_⟩
  · rw [upd_ne (by omega)]; exact hI.cb
  · rw [upd_ne (by omega)]; exact hI.cs
  · rw [upd_ne (by omega)]; exact hI.cc
  · rw [upd_ne (by omega)]; exact hI.ci
  · rw [upd_self]; exact hv
  · rw [upd_ne (by omega)]; exact hI.st
  · rw [upd_ne (by omega)]; exact hI.tu
  · intro q hq; rw [upd_ne (by omega)]; exact hI.ba q hq
  · intro q hq; rw [upd_ne (by omega)]; exact hI.sp q hq
  · intro q hq; rw [upd_ne (by omega)]; exact hI.sw q hq
  · intro q hq; rw [upd_ne (by omega)]; exact hI.tt q hq
  · intro q hq; rw [upd_ne (by omega)]; exact hI.sh q hq
  · intro q hq; rw [upd_ne (by omega)]; exact hI.sl q hq
  · intro q hq; rw [upd_ne (by omega)]; exact hI.su q hq
  · intro q hq; rw [upd_ne (by omega)]; exact hI.ck q hq
  · intro q hq; rw [upd_ne (by omega)]; exact hI.cp q hq
  · intro q hq; rw [upd_ne (by omega)]; exact hI.nn q hq
  · intro g q hq; rw [upd_self] at g; rw [upd_ne (by omega)]; exact hg g q hq
  · intro q c hq hc1 g; rw [upd_ne (by omega)] at g; rw [upd_ne (by omega)]; exact hI.nc0 q c hq hc1 g
theorem iv_su {nb ns nc ni : Nat} {r : Nat → Int32} (hI : Iv r nb ns nc ni) {i : Nat} (hi : i < ns) {v : Int32} (hv : ∃ g, g ≤ 3 ∧ v = Int32.ofNat g) (hn : v ≠ 0 → ∀ c, c < nc → r (90 + 3 * c + 1) ≠ Int32.ofNat (i + 1)) : Iv (upd r (30 + 6 * i + 5) v) nb ns nc ni := by
  have hb := hI.hb; have hs := hI.hs; have hc := hI.hc; have hi3 := hI.hi
  refine ⟨hb, hs, hc, hi3, ?_, ?_, ?_, ?_, ?_, ?_, ?_, ?_, ?_, ?_, ?_, ?_, ?_, ?_, ?_, ?_, ?_, ?_, ?_⟩
  · rw [upd_ne (by omega)]; exact hI.cb
  · rw [upd_ne (by omega)]; exact hI.cs
  · rw [upd_ne (by omega)]; exact hI.cc
  · rw [upd_ne (by omega)]; exact hI.ci
  · rw [upd_ne (by omega)]; exact hI.sg
  · rw [upd_ne (by omega)]; exact hI.st
  · rw [upd_ne (by omega)]; exact hI.tu
  · intro q hq; rw [upd_ne (by omega)]; exact hI.ba q hq
  · intro q hq; rw [upd_ne (by omega)]; exact hI.sp q hq
  · intro q hq; rw [upd_ne (by omega)]; exact hI.sw q hq
  · intro q hq; rw [upd_ne (by omega)]; exact hI.tt q hq
  · intro q hq; rw [upd_ne (by omega)]; exact hI.sh q hq
  · intro q hq; rw [upd_ne (by omega)]; exact hI.sl q hq
  · intro q hq
    by_cases e : q = i
    · rw [e, upd_self]; exact hv
    · rw [upd_ne (by omega)]; exact hI.su q hq
  · intro q hq; rw [upd_ne (by omega)]; exact hI.ck q hq
  · intro q hq; rw [upd_ne (by omega)]; exact hI.cp q hq
  · intro q hq; rw [upd_ne (by omega)]; exact hI.nn q hq
  · intro g q hq; rw [upd_ne (by omega)] at g; rw [upd_ne (by omega)]; exact hI.gr g q hq
  · intro q c hq hc1 g
    rw [upd_ne (by omega)]
    by_cases e : q = i
    · rw [e, upd_self] at g; rw [e]; exact hn g c hc1
    · rw [upd_ne (by omega)] at g; exact hI.nc0 q c hq hc1 g
theorem iv_cp {nb ns nc ni : Nat} {r : Nat → Int32} (hI : Iv r nb ns nc ni) {i : Nat} (hi : i < nc) {v : Int32} (hv : ∃ g, g ≤ ns ∧ v = Int32.ofNat g) (hg : (3 : Int32) ≤ r 1 → v = 0) (hn : ∀ s, s < ns → r (30 + 6 * s + 5) ≠ 0 → v ≠ Int32.ofNat (s + 1)) : Iv (upd r (90 + 3 * i + 1) v) nb ns nc ni := by
  have hb := hI.hb; have hs := hI.hs; have hc := hI.hc; have hi3 := hI.hi
  refine ⟨hb, hs, hc, hi3, ?_, ?_, ?_, ?_, ?_, ?_, ?_, ?_, ?_, ?_, ?_, ?_, ?_, ?_, ?_, ?_, ?_, ?_, ?_⟩
  · rw [upd_ne (by omega)]; exact hI.cb
  · rw [upd_ne (by omega)]; exact hI.cs
  · rw [upd_ne (by omega)]; exact hI.cc
  · rw [upd_ne (by omega)]; exact hI.ci
  · rw [upd_ne (by omega)]; exact hI.sg
  · rw [upd_ne (by omega)]; exact hI.st
  · rw [upd_ne (by omega)]; exact hI.tu
  · intro q hq; rw [upd_ne (by omega)]; exact hI.ba q hq
  · intro q hq; rw [upd_ne (by omega)]; exact hI.sp q hq
  · intro q hq; rw [upd_ne (by omega)]; exact hI.sw q hq
  · intro q hq; rw [upd_ne (by omega)]; exact hI.tt q hq
  · intro q hq; rw [upd_ne (by omega)]; exact hI.sh q hq
  · intro q hq; rw [upd_ne (by omega)]; exact hI.sl q hq
  · intro q hq; rw [upd_ne (by omega)]; exact hI.su q hq
  · intro q hq; rw [upd_ne (by omega)]; exact hI.ck q hq
  · intro q hq
    by_cases e : q = i
    · rw [e, upd_self]; exact hv
    · rw [upd_ne (by omega)]; exact hI.cp q hq
  · intro q hq; rw [upd_ne (by omega)]; exact hI.nn q hq
  · intro g q hq
    rw [upd_ne (by omega)] at g
    by_cases e : q = i
    · rw [e, upd_self]; exact hg g
    · rw [upd_ne (by omega)]; exact hI.gr g q hq
  · intro q c hq hc1 g
    rw [upd_ne (by omega)] at g
    by_cases e : c = i
    · rw [e, upd_self]; exact hn q hq g
    · rw [upd_ne (by omega)]; exact hI.nc0 q c hq hc1 g
