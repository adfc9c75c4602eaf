/-! the first object's walk, from its end to its beginning -/
def Ends (F : (St → Option (St × Int32)) → Option (St × Int32)) : Prop := ∃ σ1, ∀ KX, F KX = KX σ1
theorem bchk_t {α : Type} {c : Bool} {K : Option α} (h : c = true) : bchk c K = K := if_pos h
theorem g_899 {σ : St} (w : Nat × (Nat → Int32)) (h : Cy σ w0 0) : Ends (fun KX => B_LE_899 KX σ 0 w) := by
  obtain ⟨σ1, e1, h1⟩ := G_account h (by decide) ka22
  obtain ⟨σ2, e2, h2⟩ := h1.restore
  obtain ⟨σ3, e3, h3⟩ := G_account h2 (by decide) ka23
  refine ⟨σ3, fun KX => ?_⟩
  show B_LE_899 KX σ 0 w = _
  unfold B_LE_899
  rw [bcall_of e1, if_pos rfl, bcall_of h1.undo0, if_pos rfl, bcall_of e2, if_pos rfl, bcall_of e3, if_pos rfl, bcall_of h3.undo0, if_pos rfl]
theorem g_832 {σ : St} (w : Nat × (Nat → Int32)) (h : Cy σ w42 8) : Ends (fun KX => B_LE_832 KX σ 0 w) := by
  obtain ⟨σ1, e1, h1⟩ := G_work h rfl ka17
  obtain ⟨σ2, e2, h2⟩ := G_doneShare h1 ka18
  obtain ⟨σ3, e3, h3⟩ := G_weakest h2 ka19
  obtain ⟨σ4, e4, h4⟩ := h3.line (z := 6) (by decide) by_6 kl_6
  obtain ⟨σ5, e5, h5⟩ := h4.clear (v := 72) (by decide +kernel)
  obtain ⟨σ6, e6, h6⟩ := G_account h5 (by decide) ka20
  obtain ⟨σ7, e7, h7⟩ := G_account h6 (by decide) ka21
  obtain ⟨z, hz⟩ := g_899 w h7
  refine ⟨z, fun KX => ?_⟩
  show B_LE_832 KX σ 0 w = _
  unfold B_LE_832
  rw [bcall_of e1, if_pos rfl, bcall_of e2, bchk_t (show ((4581421828931458171 : UInt64) == 4581421828931458171) = true from by decide +kernel), bcall_of e3, if_pos rfl, bcall_of e4, if_neg (show ¬ (1 : Int32) = 0 from by decide), bcall_of e5, if_pos rfl, bcall_of e6, if_pos rfl, bcall_of e7, if_pos rfl]
  exact hz KX
theorem g_661 {σ : St} (w : Nat × (Nat → Int32)) (h : Cy σ w40 8) : Ends (fun KX => B_LE_661 KX σ 0 w) := by
  obtain ⟨σ1, e1, h1⟩ := G_account h (by decide) ka9
  obtain ⟨σ2, e2, h2⟩ := G_inspectorOf h1 ka10
  obtain ⟨σ3, e3, h3⟩ := G_inspectorOf h2 ka11
  obtain ⟨σ4, e4, h4, p4, q4, r4, t4, v4⟩ := N2_up h3 kb_48
  obtain ⟨σ5, e5, h5, p5, q5, r5⟩ := N_down h4 kb_49
  obtain ⟨σ6, e6, h6⟩ := E_signal h5 (by decide) k_50
  obtain ⟨σ7, e7, h7⟩ := G_wouldFall h6 ka12
  obtain ⟨σ8, e8, h8⟩ := E_day h7 (by decide) k_51
  obtain ⟨σ9, e9, h9⟩ := G_account h8 (by decide) ka13
  obtain ⟨σ10, e10, h10⟩ := G_account h9 (by decide) ka14
  obtain ⟨σ11, e11, h11⟩ := G_account h10 (by decide) ka15
  obtain ⟨σ12, e12, h12⟩ := G_work h11 rfl ka16
  obtain ⟨z, hz⟩ := g_832 w h12
  refine ⟨z, fun KX => ?_⟩
  show B_LE_661 KX σ 0 w = _
  unfold B_LE_661
  rw [bcall_of e1, if_pos rfl, bcall_of e2, if_pos rfl, bcall_of e3, if_pos rfl, bcall_of e4, if_pos rfl, bcall_of (are_2 p4 q4 r4 t4 v4), if_neg (show ¬ (1 : Int32) = 0 from by decide), bcall_of e5, if_pos rfl, bcall_of (are_1 p5 q5 r5), if_neg (show ¬ (1 : Int32) = 0 from by decide), bcall_of e6, if_pos rfl, bcall_of e7, if_pos rfl, bcall_of e8, if_pos rfl, bcall_of e9, if_pos rfl, bcall_of e10, if_pos rfl, bcall_of e11, if_pos rfl, bcall_of e12, if_pos rfl]
  exact hz KX
theorem g_514 {σ : St} (w : Nat × (Nat → Int32)) (h : Cy σ w35 8) (p : σ 2 2 = Int32.ofNat 1) (q : σ 3 0 = 8) (r : σ 4 0 = 0) : Ends (fun KX => B_LE_514 KX σ 0 w) := by
  obtain ⟨σ1, e1, h1⟩ := G_crewOf h ka3
  obtain ⟨σ2, e2, h2⟩ := G_crewOf h1 ka4
  obtain ⟨σ3, e3, h3⟩ := E_day h2 (by decide) k_42
  obtain ⟨σ4, e4, h4⟩ := G_storeyOf h3 ka5
  obtain ⟨σ5, e5, h5⟩ := G_crewOf h4 ka6
  obtain ⟨σ6, e6, h6⟩ := h5.line (z := 15) (by decide) by_15 kl_15
  obtain ⟨σ7, e7, h7⟩ := E_day h6 (by decide) k_43
  obtain ⟨σ8, e8, h8⟩ := E_inspect h7 (by decide) k_44
  obtain ⟨σ9, e9, h9⟩ := E_day h8 (by decide) k_45
  obtain ⟨σ10, e10, h10⟩ := E_inspect h9 (by decide) k_46
  obtain ⟨σ11, e11, h11⟩ := G_account h10 (by decide) ka7
  obtain ⟨σ12, e12, h12⟩ := G_account h11 (by decide) ka8
  obtain ⟨σ13, e13, h13⟩ := E_inspect h12 (by decide) k_47
  obtain ⟨z, hz⟩ := g_661 w h13
  refine ⟨z, fun KX => ?_⟩
  show B_LE_514 KX σ 0 w = _
  unfold B_LE_514
  rw [bcall_of (are_1 p q r), if_neg (show ¬ (1 : Int32) = 0 from by decide), bcall_of e1, if_pos rfl, bcall_of e2, if_pos rfl, bcall_of e3, if_pos rfl, bcall_of e4, if_pos rfl, bcall_of e5, if_pos rfl, bcall_of e6, if_neg (show ¬ (1 : Int32) = 0 from by decide), bcall_of e7, if_pos rfl, bcall_of e8, if_pos rfl, bcall_of e9, if_pos rfl, bcall_of e10, if_pos rfl, bcall_of e11, if_pos rfl, bcall_of e12, if_pos rfl, bcall_of e13, if_pos rfl]
  exact hz KX
theorem it_435 {KX : St → Option (St × Int32)} {n : Nat} {σ σ1 : St} {w : Nat × (Nat → Int32)} {x2 x3 : Int32} (c : ¬ (5 : Int32) ≤ x2) (e : M_X10_up σ 0 x2 9 = some (σ1, x3)) (hx : x2 + 1 = x3) : B_LE_435 KX (n + 1) σ 0 w x2 = B_LE_435 KX n σ1 0 w x3 := by
  subst hx
  simp only [B_LE_435]
  rw [if_neg c, bcall_of e, if_pos rfl, blet_eq]
theorem t_435 {σ : St} (w : Nat × (Nat → Int32)) (n : Nat) (h : Cy σ w34 8) : Ends (fun KX => B_LE_435 KX (n + 1) σ 0 w 5) := by
  obtain ⟨σ1, e1, h1, p1, q1, r1⟩ := N_up h kb_39
  obtain ⟨σ2, e2, h2⟩ := E_lift h1 (by decide) k_40
  obtain ⟨σ3, e3, h3, p3, q3, r3⟩ := N_lift h2 kb_41
  obtain ⟨z, hz⟩ := g_514 w h3 p3 q3 r3
  refine ⟨z, fun KX => ?_⟩
  show B_LE_435 KX (n + 1) σ 0 w 5 = _
  simp only [B_LE_435]
  rw [if_pos (show (5 : Int32) ≤ 5 from by decide), bcall_of e1, if_pos rfl, bcall_of (are_1 p1 q1 r1), if_neg (show ¬ (1 : Int32) = 0 from by decide), bcall_of e2, if_pos rfl, bcall_of e3, if_pos rfl]
  exact hz KX
theorem g_435 {σ : St} (w : Nat × (Nat → Int32)) (h : Cy σ w29 8) : Ends (fun KX => B_LE_435 KX FU σ 0 w 0) := by
  obtain ⟨σ1, e1, h1⟩ := E_up h (by decide) k_34
  obtain ⟨σ2, e2, h2⟩ := E_up h1 (by decide) k_35
  obtain ⟨σ3, e3, h3⟩ := E_up h2 (by decide) k_36
  obtain ⟨σ4, e4, h4⟩ := E_up h3 (by decide) k_37
  obtain ⟨σ5, e5, h5⟩ := E_up h4 (by decide) k_38
  obtain ⟨z, hz⟩ := t_435 w 994 h5
  refine ⟨z, fun KX => ?_⟩
  show B_LE_435 KX (999 + 1) σ 0 w 0 = _
  exact ((it_435 (n := 999) (x2 := 0) (x3 := 1) (by decide) e1 (by decide)).trans ((it_435 (n := 998) (x2 := 1) (x3 := 2) (by decide) e2 (by decide)).trans ((it_435 (n := 997) (x2 := 2) (x3 := 3) (by decide) e3 (by decide)).trans ((it_435 (n := 996) (x2 := 3) (x3 := 4) (by decide) e4 (by decide)).trans ((it_435 (n := 995) (x2 := 4) (x3 := 5) (by decide) e5 (by decide)).trans (hz KX))))))
theorem g_398 {σ : St} (w : Nat × (Nat → Int32)) (h : Cy σ w29 8) : Ends (fun KX => B_LE_398 KX σ 0 w) := by
  obtain ⟨σ1, e1, h1⟩ := G_strength h rfl ka1
  obtain ⟨σ2, e2, h2⟩ := G_oldest h1 ka2
  obtain ⟨z, hz⟩ := g_435 w h2
  refine ⟨z, fun KX => ?_⟩
  show B_LE_398 KX σ 0 w = _
  unfold B_LE_398
  rw [bcall_of h.ac18, if_pos rfl, bcall_of e1, if_pos rfl, bcall_of e2, if_pos rfl]
  exact hz KX
theorem it_326 {KX : St → Option (St × Int32)} {n : Nat} {σ σ1 : St} {w : Nat × (Nat → Int32)} {x2 x3 b : Int32} (c : ¬ (10 : Int32) ≤ x2) (hb : x2 - x2 / 8 * 8 = b) (e : M_X10_build σ 0 b 8 40 = some (σ1, x2)) (hx : x2 + 1 = x3) : B_LE_326 KX (n + 1) σ 0 w x2 = B_LE_326 KX n σ1 0 w x3 := by
  subst hx
  simp only [B_LE_326]
  rw [if_neg c, hb, bcall_of e, if_pos rfl, blet_eq]
theorem t_326 {σ : St} (w : Nat × (Nat → Int32)) (n : Nat) (h : Cy σ w29 8) : Ends (fun KX => B_LE_326 KX (n + 1) σ 0 w 10) := by
  obtain ⟨σ1, e1, h1, p1, q1, r1⟩ := N_build h kb_33
  obtain ⟨σ2, e2, h2⟩ := G_account h1 (by decide) ka0
  obtain ⟨z, hz⟩ := g_398 w h2
  refine ⟨z, fun KX => ?_⟩
  show B_LE_326 KX (n + 1) σ 0 w 10 = _
  simp only [B_LE_326]
  rw [if_pos (show (10 : Int32) ≤ 10 from by decide), bcall_of e1, if_pos rfl, bcall_of (are_1 p1 q1 r1), if_neg (show ¬ (1 : Int32) = 0 from by decide), bcall_of e2, if_pos rfl]
  exact hz KX
theorem g_326 {σ : St} (w : Nat × (Nat → Int32)) (h : Cy σ w19 8) : Ends (fun KX => B_LE_326 KX FU σ 0 w 0) := by
  obtain ⟨σ1, e1, h1⟩ := E_build h (by decide) k_23
  obtain ⟨σ2, e2, h2⟩ := E_build h1 (by decide) k_24
  obtain ⟨σ3, e3, h3⟩ := E_build h2 (by decide) k_25
  obtain ⟨σ4, e4, h4⟩ := E_build h3 (by decide) k_26
  obtain ⟨σ5, e5, h5⟩ := E_build h4 (by decide) k_27
  obtain ⟨σ6, e6, h6⟩ := E_build h5 (by decide) k_28
  obtain ⟨σ7, e7, h7⟩ := E_build h6 (by decide) k_29
  obtain ⟨σ8, e8, h8⟩ := E_build h7 (by decide) k_30
  obtain ⟨σ9, e9, h9⟩ := E_build h8 (by decide) k_31
  obtain ⟨σ10, e10, h10⟩ := E_build h9 (by decide) k_32
  obtain ⟨z, hz⟩ := t_326 w 989 h10
  refine ⟨z, fun KX => ?_⟩
  show B_LE_326 KX (999 + 1) σ 0 w 0 = _
  exact ((it_326 (n := 999) (x2 := 0) (x3 := 1) (by decide) (by decide) e1 (by decide)).trans ((it_326 (n := 998) (x2 := 1) (x3 := 2) (by decide) (by decide) e2 (by decide)).trans ((it_326 (n := 997) (x2 := 2) (x3 := 3) (by decide) (by decide) e3 (by decide)).trans ((it_326 (n := 996) (x2 := 3) (x3 := 4) (by decide) (by decide) e4 (by decide)).trans ((it_326 (n := 995) (x2 := 4) (x3 := 5) (by decide) (by decide) e5 (by decide)).trans ((it_326 (n := 994) (x2 := 5) (x3 := 6) (by decide) (by decide) e6 (by decide)).trans ((it_326 (n := 993) (x2 := 6) (x3 := 7) (by decide) (by decide) e7 (by decide)).trans ((it_326 (n := 992) (x2 := 7) (x3 := 8) (by decide) (by decide) e8 (by decide)).trans ((it_326 (n := 991) (x2 := 8) (x3 := 9) (by decide) (by decide) e9 (by decide)).trans ((it_326 (n := 990) (x2 := 9) (x3 := 10) (by decide) (by decide) e10 (by decide)).trans (hz KX)))))))))))
theorem it_243 {KX : St → Option (St × Int32)} {n : Nat} {σ σ1 : St} {w : Nat × (Nat → Int32)} {x2 x3 : Int32} (c : ¬ (3 : Int32) ≤ x2) (e : M_X10_inspector σ 0 9 = some (σ1, x2)) (hx : x2 + 1 = x3) : B_LE_243 KX (n + 1) σ 0 w x2 = B_LE_243 KX n σ1 0 w x3 := by
  subst hx
  simp only [B_LE_243]
  rw [if_neg c, bcall_of e, if_pos rfl, blet_eq]
theorem t_243 {σ : St} (w : Nat × (Nat → Int32)) (n : Nat) (h : Cy σ w19 8) : Ends (fun KX => B_LE_243 KX (n + 1) σ 0 w 3) := by
  obtain ⟨σ1, e1, h1, p1, q1, r1⟩ := N_crew h kb_21
  obtain ⟨σ2, e2, h2, p2, q2, r2⟩ := N_inspector h1 kb_22
  obtain ⟨z, hz⟩ := g_326 w h2
  refine ⟨z, fun KX => ?_⟩
  show B_LE_243 KX (n + 1) σ 0 w 3 = _
  simp only [B_LE_243]
  rw [if_pos (show (3 : Int32) ≤ 3 from by decide), bcall_of e1, if_pos rfl, bcall_of (are_1 p1 q1 r1), if_neg (show ¬ (1 : Int32) = 0 from by decide), bcall_of e2, if_pos rfl, bcall_of (are_1 p2 q2 r2), if_neg (show ¬ (1 : Int32) = 0 from by decide)]
  exact hz KX
theorem g_243 {σ : St} (w : Nat × (Nat → Int32)) (h : Cy σ w16 8) : Ends (fun KX => B_LE_243 KX FU σ 0 w 0) := by
  obtain ⟨σ1, e1, h1⟩ := E_inspector h (by decide) k_18
  obtain ⟨σ2, e2, h2⟩ := E_inspector h1 (by decide) k_19
  obtain ⟨σ3, e3, h3⟩ := E_inspector h2 (by decide) k_20
  obtain ⟨z, hz⟩ := t_243 w 996 h3
  refine ⟨z, fun KX => ?_⟩
  show B_LE_243 KX (999 + 1) σ 0 w 0 = _
  exact ((it_243 (n := 999) (x2 := 0) (x3 := 1) (by decide) e1 (by decide)).trans ((it_243 (n := 998) (x2 := 1) (x3 := 2) (by decide) e2 (by decide)).trans ((it_243 (n := 997) (x2 := 2) (x3 := 3) (by decide) e3 (by decide)).trans (hz KX))))
theorem it_219 {KX : St → Option (St × Int32)} {n : Nat} {σ σ1 : St} {w : Nat × (Nat → Int32)} {x2 x3 : Int32} (c : ¬ (5 : Int32) ≤ x2) (e : M_X10_crew σ 0 4 = some (σ1, x2)) (hx : x2 + 1 = x3) : B_LE_219 KX (n + 1) σ 0 w x2 = B_LE_219 KX n σ1 0 w x3 := by
  subst hx
  simp only [B_LE_219]
  rw [if_neg c, bcall_of e, if_pos rfl, blet_eq]
theorem t_219 {σ : St} (w : Nat × (Nat → Int32)) (n : Nat) (h : Cy σ w16 8) : Ends (fun KX => B_LE_219 KX (n + 1) σ 0 w 5) := by
  obtain ⟨z, hz⟩ := g_243 w h
  refine ⟨z, fun KX => ?_⟩
  show B_LE_219 KX (n + 1) σ 0 w 5 = _
  simp only [B_LE_219]
  rw [if_pos (show (5 : Int32) ≤ 5 from by decide)]
  exact hz KX
theorem g_219 {σ : St} (w : Nat × (Nat → Int32)) (h : Cy σ w11 8) : Ends (fun KX => B_LE_219 KX FU σ 0 w 0) := by
  obtain ⟨σ1, e1, h1⟩ := E_crew h (by decide) k_13
  obtain ⟨σ2, e2, h2⟩ := E_crew h1 (by decide) k_14
  obtain ⟨σ3, e3, h3⟩ := E_crew h2 (by decide) k_15
  obtain ⟨σ4, e4, h4⟩ := E_crew h3 (by decide) k_16
  obtain ⟨σ5, e5, h5⟩ := E_crew h4 (by decide) k_17
  obtain ⟨z, hz⟩ := t_219 w 994 h5
  refine ⟨z, fun KX => ?_⟩
  show B_LE_219 KX (999 + 1) σ 0 w 0 = _
  exact ((it_219 (n := 999) (x2 := 0) (x3 := 1) (by decide) e1 (by decide)).trans ((it_219 (n := 998) (x2 := 1) (x3 := 2) (by decide) e2 (by decide)).trans ((it_219 (n := 997) (x2 := 2) (x3 := 3) (by decide) e3 (by decide)).trans ((it_219 (n := 996) (x2 := 3) (x3 := 4) (by decide) e4 (by decide)).trans ((it_219 (n := 995) (x2 := 4) (x3 := 5) (by decide) e5 (by decide)).trans (hz KX))))))
theorem it_125 {KX : St → Option (St × Int32)} {n : Nat} {σ σ1 : St} {w : Nat × (Nat → Int32)} {x2 x3 : Int32} (c : ¬ (8 : Int32) ≤ x2) (e : M_X10_bundle σ 0 30 0 = some (σ1, x2)) (hx : x2 + 1 = x3) : B_LE_125 KX (n + 1) σ 0 w x2 = B_LE_125 KX n σ1 0 w x3 := by
  subst hx
  simp only [B_LE_125]
  rw [if_neg c, bcall_of e, if_pos rfl, blet_eq]
theorem t_125 {σ : St} (w : Nat × (Nat → Int32)) (n : Nat) (h : Cy σ w9 8) : Ends (fun KX => B_LE_125 KX (n + 1) σ 0 w 8) := by
  obtain ⟨σ1, e1, h1, p1, q1, r1⟩ := N_bundle h kb_9
  obtain ⟨σ2, e2, h2⟩ := E_strips h1 (by decide) k_10
  obtain ⟨σ3, e3, h3⟩ := E_strips h2 (by decide) k_11
  obtain ⟨σ4, e4, h4⟩ := E_strips h3 (by decide) k_12
  obtain ⟨z, hz⟩ := g_219 w h4
  refine ⟨z, fun KX => ?_⟩
  show B_LE_125 KX (n + 1) σ 0 w 8 = _
  simp only [B_LE_125]
  rw [if_pos (show (8 : Int32) ≤ 8 from by decide), bcall_of e1, if_pos rfl, bcall_of (are_1 p1 q1 r1), if_neg (show ¬ (1 : Int32) = 0 from by decide), bcall_of e2, if_pos rfl, bcall_of e3, if_pos rfl, bcall_of e4, if_pos rfl]
  exact hz KX
theorem g_125 {σ : St} (w : Nat × (Nat → Int32)) (h : Cy σ w1 1) : Ends (fun KX => B_LE_125 KX FU σ 0 w 0) := by
  obtain ⟨σ1, e1, h1⟩ := E_bundle h (by decide) k_1
  obtain ⟨σ2, e2, h2⟩ := E_bundle h1 (by decide) k_2
  obtain ⟨σ3, e3, h3⟩ := E_bundle h2 (by decide) k_3
  obtain ⟨σ4, e4, h4⟩ := E_bundle h3 (by decide) k_4
  obtain ⟨σ5, e5, h5⟩ := E_bundle h4 (by decide) k_5
  obtain ⟨σ6, e6, h6⟩ := E_bundle h5 (by decide) k_6
  obtain ⟨σ7, e7, h7⟩ := E_bundle h6 (by decide) k_7
  obtain ⟨σ8, e8, h8⟩ := E_bundle h7 (by decide) k_8
  obtain ⟨z, hz⟩ := t_125 w 991 h8
  refine ⟨z, fun KX => ?_⟩
  show B_LE_125 KX (999 + 1) σ 0 w 0 = _
  exact ((it_125 (n := 999) (x2 := 0) (x3 := 1) (by decide) e1 (by decide)).trans ((it_125 (n := 998) (x2 := 1) (x3 := 2) (by decide) e2 (by decide)).trans ((it_125 (n := 997) (x2 := 2) (x3 := 3) (by decide) e3 (by decide)).trans ((it_125 (n := 996) (x2 := 3) (x3 := 4) (by decide) e4 (by decide)).trans ((it_125 (n := 995) (x2 := 4) (x3 := 5) (by decide) e5 (by decide)).trans ((it_125 (n := 994) (x2 := 5) (x3 := 6) (by decide) e6 (by decide)).trans ((it_125 (n := 993) (x2 := 6) (x3 := 7) (by decide) e7 (by decide)).trans ((it_125 (n := 992) (x2 := 7) (x3 := 8) (by decide) e8 (by decide)).trans (hz KX)))))))))
theorem g_105 {σ : St} (w : Nat × (Nat → Int32)) (h : Cy σ w1 1) : Ends (fun KX => B_LE_105 KX σ 0 w) := by
  obtain ⟨z, hz⟩ := g_125 w h
  obtain ⟨nx, L, hc⟩ := h
  have e1 : M_X10_fault σ 0 = some (σ, 0) := by
    show some (σ, σ 0 9) = _
    rw [hc.flt]
  have e2 : M_X10_account σ 0 17 = some (σ, 0) := by
    rw [ac_17, hc.inp]
    rfl
  refine ⟨z, fun KX => ?_⟩
  show B_LE_105 KX σ 0 w = _
  unfold B_LE_105
  rw [bcall_of e1, if_pos rfl, bcall_of e2, if_pos rfl]
  exact hz KX
def c60 (j : Nat) : Nat := 32 + j
theorem sg60 : ∀ j, j < 60 → (((32 : Int32) + Int32.ofNat j).toUInt32 % 65536).toInt32 = Int32.ofNat (32 + j) := by decide +kernel
theorem g_56 (w : Nat × (Nat → Int32)) {nx : Nat} {L : Nat → Nat → Int32} : ∀ (d j n : Nat) (σ : St), j + d = 60 → d < n → Cs σ (rw w1) 1 nx L (some (rw w0)) j (-4) → (∀ i, i < j → σ 242 i = Int32.ofNat (c60 i)) → Ends (fun KX => B_LE_56 KX n σ 0 w (Int32.ofNat j)) := by
  intro d
  induction d with
  | zero =>
    intro j n σ hj hn h ht
    obtain ⟨n, rfl⟩ : ∃ k, n = k + 1 := ⟨n - 1, by omega⟩
    obtain rfl : j = 60 := by omega
    obtain ⟨σ1, e1, h1, -⟩ := h.bad (by decide) (c := c60) ht (by decide) (by decide +kernel) (by decide +kernel)
    rw [show odP c60 60 0 = 0 from by decide +kernel] at h1
    obtain ⟨z, hz⟩ := g_105 w ⟨nx, L, h1⟩
    refine ⟨z, fun KX => ?_⟩
    show B_LE_56 KX (n + 1) σ 0 w (Int32.ofNat 60) = _
    simp only [B_LE_56]
    rw [if_pos (show (60 : Int32) ≤ Int32.ofNat 60 from by decide), bcall_of (app_full h), if_pos rfl, bcall_of e1, if_pos rfl]
    exact hz KX
  | succ d ih =>
    intro j n σ hj hn h ht
    obtain ⟨n, rfl⟩ : ∃ k, n = k + 1 := ⟨n - 1, by omega⟩
    obtain ⟨σ1, e1, h1, f1, t1, t2⟩ := h.app (by omega) (c := 32 + j) ⟨by omega, by omega⟩
    obtain ⟨z, hz⟩ := ih (j + 1) n σ1 (by omega) (by omega) h1 (fun i hi => by
      by_cases e : i = j
      · rw [e]; exact t1
      · rw [t2 i e]; exact ht i (by omega))
    refine ⟨z, fun KX => ?_⟩
    show B_LE_56 KX (n + 1) σ 0 w (Int32.ofNat j) = _
    simp only [B_LE_56]
    rw [if_neg (fun q => by have := (ol (a := 60) (by omega) (by omega)).mp q; omega), blet_eq, sg60 j (by omega), bcall_of e1, oN_al, if_pos rfl, blet_eq]
    exact hz KX
theorem ini_c0 : Cs iniK bareR 0 0 (fun _ => bareR) none 0 (-4) := by
  have b : bareS iniK = iniK := by
    unfold bareS
    rw [u2_id (show iniK 6 2 = 0 from by decide +kernel), u2_id (show iniK 9 6 = 0 from by decide +kernel), u2_id (show iniK 16 3 = 0 from by decide +kernel), u2_id (show iniK 20 2 = 0 from by decide +kernel), u2_id (show iniK 5 4 = 0 from by decide +kernel), u2_id (show iniK 5 5 = 0 from by decide +kernel), u2_id (show iniK 5 6 = 60 from by decide +kernel), u2_id (show iniK 5 7 = 20 from by decide +kernel), u2_id (show iniK 5 8 = 0 from by decide +kernel), u2_id (show iniK 5 9 = 0 from by decide +kernel), u2_id (show iniK 5 10 = 0 from by decide +kernel), u2_id (show iniK 5 11 = 0 from by decide +kernel), u2_id (show iniK 5 12 = 0 from by decide +kernel), u2_id (show iniK 5 13 = 0 from by decide +kernel)]
  have s := bare_sc (σ := iniK) (τ := tz bareR) (fun q _ => by rw [tz_now]; rfl)
  rw [b, tz_now] at s
  have t9 : tauI 249 = bareR := by
    show (if (249 : Nat) = 248 then _ else _) = _
    rw [if_neg (by decide), tz_now]
  have i1 : iniK 0 8 = 0 := by decide +kernel
  have i2 : iniK 59 3 = 0 := by decide +kernel
  have i3 : iniK 59 2 = 0 := by decide +kernel
  have i4 : iniK 241 1 = 0 := by decide +kernel
  have i5 : iniK 243 1 = 0 := by decide +kernel
  have i6 : iniK 0 9 = -4 := by decide +kernel
  have i7 : iniK 2 2 = 0 := by decide +kernel
  refine ⟨⟨tauI, by rw [t9]; exact s, Or.inl ⟨i1, rfl⟩, ⟨0, 0, by omega, by omega, rfl, i2, i3, fun j hj => by omega⟩, ⟨0, by omega, i4, rfl, fun j hj => by omega⟩, ⟨0, by omega, i5, rfl, fun j hj => by omega⟩, ?_, ⟨0, by omega, i7, rfl, fun j hj => by omega⟩⟩, s, ⟨by omega, by omega, i2, i3⟩, fun j hj => by omega, i1, i4, i6⟩
  exact i6
theorem pure_e (w : Nat × (Nat → Int32)) : ∃ σ1, ∀ KX : St → Option (St × Int32), B_LE_8 KX iniK 0 w = KX σ1 := by
  have h0 : Cs iniK (rw w0) 0 0 (fun _ => bareR) none 0 (-4) := ini_c0.row bare_w0
  obtain ⟨σ1, e1, h1⟩ := h0.save
  obtain ⟨σ2, e2, h2⟩ := Cs.es (F := fun t => M_X11_day t 248 30) h1 (Z_day (tzc h1.cz) h1.hh (tz4 _) 30) (fun τ hC => (Q_day hC 30).co) (by decide) k_0
  have e3 : M_X10_account σ2 0 0 = some (σ2, 30) := by
    obtain ⟨nb, ns, nc, ni, rs, i⟩ := h2.sc
    rw [ac_0, rs.f4]
    rfl
  obtain ⟨z, hz⟩ := g_56 w 60 0 FU σ2 (by omega) (FU_lt (by decide)) h2 (fun i hi => by omega)
  refine ⟨z, fun KX => ?_⟩
  unfold B_LE_8
  rw [bcall_of h0.undo0, if_pos rfl, bcall_of h0.restore0, if_pos rfl, bcall_of e1, show rw w0 0 = 0 from rfl, if_pos rfl, bcall_of e2, if_pos rfl, bcall_of e3, if_pos rfl]
  exact hz KX
