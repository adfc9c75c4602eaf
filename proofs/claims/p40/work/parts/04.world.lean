/-! the world: 248 cells of the class, 10 of the reference, by index; E.1 gives the address of an index -/
abbrev St : Type := Nat → Nat → Int32
abbrev Ev : Type := (Nat → Nat) × (va_G × (ClassId × (ClassId × (ClassId × ((Nat → Nat) × ((Nat → Nat) × (Nat × (ClassId × (ClassId × ((Nat → Prop) × ((Nat → Nat × (Nat × (Nat → Int32))) × Nat)))))))))))
/-- the place of a text: 16 constants, and one that is made -/
def slS (z : Nat) : Nat := if z < 16 then z else 16
abbrev adK (E : Ev) : Nat → Nat := E.2.2.2.2.2.1
abbrev adV (E : Ev) : Nat → Nat := E.2.2.2.2.2.2.1
def eK (E : Ev) (z : Nat) : Nat := adK E (slS z)
def eV (E : Ev) (z : Nat) : Nat := adV E (slS z)
/-- 0, or 1 and the number of the text that was made -/
abbrev eT (E : Ev) : Nat := E.2.2.2.2.2.2.2.1
abbrev eB (E : Ev) : ClassId := E.2.2.2.2.2.2.2.2.1
abbrev eL (E : Ev) : ClassId := E.2.2.2.2.2.2.2.2.2.1
/-- the places that the world and what is made may take -/
abbrev AE (E : Ev) : Nat → Prop := E.2.2.2.2.2.2.2.2.2.2.1
/-- rows of whole numbers that stand outside: how many, where, how long, what they hold -/
abbrev eX (E : Ev) : Nat → Nat × (Nat × (Nat → Int32)) := E.2.2.2.2.2.2.2.2.2.2.2.1
abbrev nX (E : Ev) : Nat := E.2.2.2.2.2.2.2.2.2.2.2.2
def kdL : List Nat := [10, 8, 6, 13, 13, 7, 0, 13, 13, 9, 13, 13, 13, 13, 13, 13, 1, 13, 13, 13, 3, 13, 13, 7, 0, 13, 13, 9, 13, 13, 13, 13, 13, 13, 1, 13, 13, 13, 3, 13, 13, 7, 0, 13, 13, 9, 13, 13, 13, 13, 13, 13, 1, 13, 13, 13, 3, 13, 13, 2, 14, 7, 0, 13, 13, 9, 13, 13, 13, 13, 13, 13, 1, 13, 13, 13, 3, 13, 13, 7, 0, 13, 13, 9, 13, 13, 13, 13, 13, 13, 1, 13, 13, 13, 3, 13, 13, 7, 0, 13, 13, 9, 13, 13, 13, 13, 13, 13, 1, 13, 13, 13, 3, 13, 13, 7, 0, 13, 13, 9, 13, 13, 13, 13, 13, 13, 1, 13, 13, 13, 3, 13, 13, 7, 0, 13, 13, 9, 13, 13, 13, 13, 13, 13, 1, 13, 13, 13, 3, 13, 13, 7, 0, 13, 13, 9, 13, 13, 13, 13, 13, 13, 1, 13, 13, 13, 3, 13, 13, 7, 0, 13, 13, 9, 13, 13, 13, 13, 13, 13, 1, 13, 13, 13, 3, 13, 13, 7, 0, 13, 13, 9, 13, 13, 13, 13, 13, 13, 1, 13, 13, 13, 3, 13, 13, 7, 0, 13, 13, 9, 13, 13, 13, 13, 13, 13, 1, 13, 13, 13, 3, 13, 13, 7, 0, 13, 13, 9, 13, 13, 13, 13, 13, 13, 1, 13, 13, 13, 3, 13, 13, 4, 12, 4, 12, 5, 13, 13, 11, 13, 13, 13, 13, 13, 13, 12, 13, 13]
def lnL : List Nat := [0, 0, 0, 3, 3, 0, 0, 8, 8, 0, 10, 10, 10, 10, 10, 10, 0, 5, 5, 5, 0, 3, 3, 0, 0, 8, 8, 0, 10, 10, 10, 10, 10, 10, 0, 5, 5, 5, 0, 3, 3, 0, 0, 8, 8, 0, 10, 10, 10, 10, 10, 10, 0, 5, 5, 5, 0, 3, 3, 0, 9, 0, 0, 8, 8, 0, 10, 10, 10, 10, 10, 10, 0, 5, 5, 5, 0, 3, 3, 0, 0, 8, 8, 0, 10, 10, 10, 10, 10, 10, 0, 5, 5, 5, 0, 3, 3, 0, 0, 8, 8, 0, 10, 10, 10, 10, 10, 10, 0, 5, 5, 5, 0, 3, 3, 0, 0, 8, 8, 0, 10, 10, 10, 10, 10, 10, 0, 5, 5, 5, 0, 3, 3, 0, 0, 8, 8, 0, 10, 10, 10, 10, 10, 10, 0, 5, 5, 5, 0, 3, 3, 0, 0, 8, 8, 0, 10, 10, 10, 10, 10, 10, 0, 5, 5, 5, 0, 3, 3, 0, 0, 8, 8, 0, 10, 10, 10, 10, 10, 10, 0, 5, 5, 5, 0, 3, 3, 0, 0, 8, 8, 0, 10, 10, 10, 10, 10, 10, 0, 5, 5, 5, 0, 3, 3, 0, 0, 8, 8, 0, 10, 10, 10, 10, 10, 10, 0, 5, 5, 5, 0, 3, 3, 0, 0, 8, 8, 0, 10, 10, 10, 10, 10, 10, 0, 5, 5, 5, 0, 3, 3, 0, 60, 0, 200, 0, 20, 60, 0, 111, 111, 111, 888, 111, 180, 60, 3, 8]
def kd (k : Nat) : Nat := kdL.getD k 99
def ln (k : Nat) : Nat := lnL.getD k 0
def szc (ci : Nat) : Nat := ([3, 4, 182, 3, 2, 3, 3, 18, 22, 7, 248, 10] : List Nat).getD ci 0
def repc (ci : Nat) : Nat := ([6, 16, 59, 20, 241, 245, 2, 5, 1, 9, 0, 248] : List Nat).getD ci 0
def flds (ad : Nat → Nat) (k : Nat) (f : Nat → Int32) (ci : Nat) : List Value := match ci with
  | 0 => [.ref (ad (k + 1)), .ref (ad (k + 2)), .int (f 2)]
  | 1 => [.ref (ad (k + 1)), .ref (ad (k + 2)), .ref (ad (k + 3)), .int (f 3)]
  | 2 => [.ref (ad (k + 1)), .ref (ad (k + 2)), .int (f 2), .int (f 3)]
  | 3 => [.ref (ad (k + 1)), .ref (ad (k + 2)), .int (f 2)]
  | 4 => [.ref (ad (k + 1)), .int (f 1)]
  | 5 => [.ref (ad (k + 1)), .ref (ad (k + 2)), .int (f 2), .int (f 3)]
  | 6 => [.ref (ad (k + 1)), .ref (ad (k + 2)), .int (f 2)]
  | 7 => [.ref (ad (k + 1)), .ref (ad (k + 4)), .ref (ad (k + 11)), .ref (ad (k + 15)), .int (f 4), .int (f 5), .int (f 6), .int (f 7), .int (f 8), .int (f 9), .int (f 10), .int (f 11), .int (f 12), .int (f 13)]
  | 8 => [.ref (ad (k + 1)), .ref (ad (k + 4))]
  | 9 => [.ref (ad (k + 1)), .ref (ad (k + 2)), .ref (ad (k + 3)), .ref (ad (k + 4)), .ref (ad (k + 5)), .ref (ad (k + 6)), .int (f 6)]
  | 10 => [.ref (ad (k + 1)), .ref (ad (k + 5)), .ref (ad (k + 23)), .ref (ad (k + 41)), .ref (ad (k + 59)), .ref (ad (k + 241)), .ref (ad (k + 243)), .ref (ad (k + 245)), .int (f 8), .int (f 9)]
  | _ => []
def cellW (E : Ev) (k : Nat) (f : Nat → Int32) : va_E := if kd k < 12 then .inr (kd k, flds E.1 k f (kd k)) else if kd k = 12 then .inl (E.2.2.1, ln k, .inl f) else if kd k = 13 then .inl (E.2.2.2.1, ln k, .inl f) else .inl (E.2.2.2.2.1, ln k, .inr (.inr (.inr (.inr (fun i => if i < 9 then some (E.1 (k + 19 + 18 * i)) else none)))))
def gW (E : Ev) (σ : St) : va_W := (List.range 248).map (fun k => (E.1 k, cellW E k (σ k)))
def tysE (E : Ev) : List (ClassId × FieldType) := [(E.2.2.1, .char), (E.2.2.2.1, .int), (E.2.2.2.2.1, .object "BambooTower$Scaffold"), (eB E, .byte), (eL E, .long)]
def u2 (σ : St) (k j : Nat) (v : Int32) : St := va_up σ k (upd (σ k) j v)
def lay (ci k : Nat) : Prop := ci < 12 ∧ k + szc ci ≤ 248 ∧ ∀ r, r < szc ci → kd (k + r) = kd (repc ci + r)
def arr (t k : Nat) : Prop := k < 248 ∧ kd k = t
set_option maxRecDepth 20000 in
theorem rep_ok : ∀ ci, ci < 12 → kd (repc ci) = ci ∧ 0 < szc ci := by decide +kernel
theorem lay_kd {ci k : Nat} (h : lay ci k) : kd k = ci := by
  have h1 := h.2.2 0 (rep_ok ci h.1).2
  rw [Nat.add_zero, Nat.add_zero] at h1
  rw [h1]; exact (rep_ok ci h.1).1
theorem lay_lt {ci k : Nat} (h : lay ci k) : k < 248 := by
  have h1 := (rep_ok ci h.1).2
  have h2 := h.2.1
  omega
theorem lay_arr {ci k : Nat} (h : lay ci k) (r t : Nat) (hr : r < szc ci) (ht : kd (repc ci + r) = t) : arr t (k + r) := ⟨by have := h.2.1; omega, by rw [h.2.2 r hr]; exact ht⟩
theorem lay_sub {ci k : Nat} (h : lay ci k) (r cj : Nat) (hj : cj < 12) (hr : r + szc cj ≤ szc ci) (hs : ∀ q, q < szc cj → kd (repc ci + (r + q)) = kd (repc cj + q)) : lay cj (k + r) :=
  ⟨hj, by have := h.2.1; omega, fun q hq => by rw [Nat.add_assoc, h.2.2 (r + q) (by omega)]; exact hs q hq⟩
theorem cell_ob {E : Ev} {ci k : Nat} {f : Nat → Int32} (h : lay ci k) : cellW E k f = .inr (ci, flds E.1 k f ci) := by
  unfold cellW; rw [lay_kd h, if_pos h.1]
theorem cell_ob2 {E : Ev} {ci k : Nat} {f : Nat → Int32} (h : kd k = ci) (h2 : ci < 12) : cellW E k f = .inr (ci, flds E.1 k f ci) := by
  unfold cellW; rw [h, if_pos h2]
theorem cell_ch {E : Ev} {k : Nat} {f : Nat → Int32} (h : kd k = 12) : cellW E k f = .inl (E.2.2.1, ln k, .inl f) := by
  unfold cellW; rw [h]; rfl
theorem cell_in {E : Ev} {k : Nat} {f : Nat → Int32} (h : kd k = 13) : cellW E k f = .inl (E.2.2.2.1, ln k, .inl f) := by
  unfold cellW; rw [h]; rfl
theorem cell_sc {E : Ev} {k : Nat} {f : Nat → Int32} (h : kd k = 14) : cellW E k f = .inl (E.2.2.2.2.1, ln k, .inr (.inr (.inr (.inr (fun i => if i < 9 then some (E.1 (k + 19 + 18 * i)) else none))))) := by
  unfold cellW; rw [h]; rfl
theorem gW_at (E : Ev) (σ : St) {k : Nat} (h : k < 248) : (gW E σ)[k]? = some (E.1 k, cellW E k (σ k)) := by
  unfold gW; rw [List.getElem?_map, List.getElem?_range h]; rfl
theorem gW_len (E : Ev) (σ : St) : (gW E σ).length = 248 := by unfold gW; rw [List.length_map, List.length_range]
theorem gW_out (E : Ev) (σ : St) {k : Nat} (h : 248 ≤ k) : (gW E σ)[k]? = none := List.getElem?_eq_none (by rw [gW_len]; exact h)
theorem gW_set {E : Ev} {σ : St} {k : Nat} (h : k < 248) (f : Nat → Int32) {e : va_E} (he : e = cellW E k f) : (gW E σ).set k (E.1 k, e) = gW E (va_up σ k f) := by
  subst he
  apply List.ext_getElem?
  intro j
  by_cases hj : j < 248
  · by_cases hk : j = k
    · subst hk
      rw [List.getElem?_set_self (by rw [gW_len]; exact h), gW_at E _ h, va_up_self]
    · rw [List.getElem?_set_ne (Ne.symm hk), gW_at E _ hj, gW_at E _ hj, va_up_ne _ _ hk]
  · rw [gW_out E _ (by omega)]
    exact List.getElem?_eq_none (by rw [List.length_set, gW_len]; omega)
def bput {α : Type} (σ : St) (k j : Nat) (v : Int32) (K : St → Option α) : Option α := K (u2 σ k j v)
def blet {α : Type} (v : Int32) (K : Int32 → Option α) : Option α := K v
def bald {α : Type} (σ : St) (k : Nat) (i : Int32) (K : Int32 → Option α) : Option α := if 0 ≤ i.toInt ∧ i.toInt < ln k then K (σ k i.toNatClampNeg) else none
def bast {α : Type} (σ : St) (k : Nat) (i x : Int32) (K : St → Option α) : Option α := if 0 ≤ i.toInt ∧ i.toInt < ln k then K (u2 σ k i.toNatClampNeg x) else none
def bcast {α : Type} (σ : St) (k : Nat) (i x : Int32) (K : St → Option α) : Option α := if 0 ≤ i.toInt ∧ i.toInt < ln k then K (u2 σ k i.toNatClampNeg (vp_nar .char x)) else none
def bcall {α β : Type} (o : Option (St × β)) (K : St → β → Option α) : Option α := match o with
  | none => none
  | some q => K q.1 q.2
def bchk {α : Type} (c : Bool) (K : Option α) : Option α := if c = true then K else none
def okC (v : Int32) : Bool := decide (0 ≤ v) && decide (v ≤ 65535)
def okZ (v : Int32) : Bool := v == 0 || v == 1
def rmd (d : Nat) : Room := { frames := d, cells := 0, slots := 0, locals := 40 * d }
def isNest : Cond → Bool
  | .fieldLinkNest _ _ _ _ _ _ => true
  | .methodLinkNest _ _ _ _ => true
  | _ => false
/-- the words of nest mates' links: they aren't among the words that a contract asks for, so they are told of the state -/
def NW (U : State) : Prop := ∀ w : Cond, w ∈ lw_tbl → isNest w = true → va_Nw w U
theorem NW.warm {s U : State} (hW : s.WarmedH U.vm) (h : NW s) : NW U := by
  intro w hw hn
  have h1 := h w hw hn
  cases w <;> first | exact va_Nw.warmF hW h1 | exact va_Nw.warmM hW h1 | exact absurd hn (by simp [isNest])
theorem NW.same {u U : State} (e : u.vm = U.vm) (h : NW u) : NW U := by
  intro w hw hn
  have h1 := h w hw hn
  cases w <;> first | exact va_Nw.same rfl e h1 | exact absurd hn (by simp [isNest])
/-- the texts: where they come from, their bytes -/
def stO (i : Nat) : String := if i < 6 then "BambooTower$Orders" else "BambooTowerLaw"
def stI (i : Nat) : Nat := ([70, 72, 74, 76, 78, 80, 208, 149, 157, 163, 165, 167, 169, 179, 184, 200] : List Nat).getD i 0
def stT (i : Nat) : String := (["#*#:%", "#", "#@#", "#*#", "%", "", "bare", "n", ";t", "l", "*", ";u", "@", "z", "n1;n0", "9:8p1*****w32 8:8p1w40 7:8p1w40 6:8p1w40 5:8p1w40 4:8p1w40 3:8p1w40 2:8p1w40 1:8p1w40 0:8p1w40"] : List String).getD i ""
def lenS : List Nat := [5, 1, 3, 3, 1, 0, 4, 1, 2, 1, 1, 2, 1, 1, 5, 94]
def bytS : List (List Int32) := [[35, 42, 35, 58, 37], [35], [35, 64, 35], [35, 42, 35], [37], [], [98, 97, 114, 101], [110], [59, 116], [108], [42], [59, 117], [64], [122], [110, 49, 59, 110, 48], [57, 58, 56, 112, 49, 42, 42, 42, 42, 42, 119, 51, 50, 32, 56, 58, 56, 112, 49, 119, 52, 48, 32, 55, 58, 56, 112, 49, 119, 52, 48, 32, 54, 58, 56, 112, 49, 119, 52, 48, 32, 53, 58, 56, 112, 49, 119, 52, 48, 32, 52, 58, 56, 112, 49, 119, 52, 48, 32, 51, 58, 56, 112, 49, 119, 52, 48, 32, 50, 58, 56, 112, 49, 119, 52, 48, 32, 49, 58, 56, 112, 49, 119, 52, 48, 32, 48, 58, 56, 112, 49, 119, 52, 48]]
/-- the texts that are made: n, a number, ;t, a number: 0 to 35; l, a number, *, a number, ;u, a number, @, a number: from 36 on -/
def dynS (q : Nat) : List Int32 := if q < 36 then [110, Int32.ofNat (48 + q / 4), 59, 116, Int32.ofNat (48 + q % 4)] else [108, Int32.ofNat (48 + (q - 36) / 200), 42, Int32.ofNat (48 + (q - 36) / 20 % 10), 59, 117, Int32.ofNat (48 + (q - 36) / 4 % 5), 64, Int32.ofNat (48 + (q - 36) % 4)]
def lnD (q : Nat) : Nat := if q < 36 then 5 else 9
def lnS (z : Nat) : Nat := if z < 16 then lenS.getD z 0 else lnD (z - 16)
def byS (z : Nat) : List Int32 := if z < 16 then bytS.getD z [] else dynS (z - 16)
def nS (E : Ev) : Nat := if eT E = 0 then 16 else 17
def lnsE (E : Ev) : List Nat := lenS ++ [lnS (15 + eT E)]
def bysE (E : Ev) : List (List Int32) := bytS ++ [byS (15 + eT E)]
/-- a text that is there -/
def okS (E : Ev) (z : Nat) : Prop := z < 16 ∨ (eT E ≠ 0 ∧ z = 15 + eT E)
theorem okS_of {E : Ev} {z : Nat} (h : z < 16) : okS E z := Or.inl h
theorem okS_at {E : Ev} {z : Nat} (h : okS E z) : slS z < nS E ∧ (lnsE E).getD (slS z) 0 = lnS z ∧ (bysE E).getD (slS z) [] = byS z := by
  rcases h with h | ⟨h0, rfl⟩
  · have hs : slS z = z := if_pos h
    rw [hs]
    refine ⟨by unfold nS; split <;> omega, ?_, ?_⟩
    · unfold lnsE lnS
      rw [if_pos h, List.getD_eq_getElem?_getD, List.getElem?_append_left (by show z < 16; exact h), ← List.getD_eq_getElem?_getD]
    · unfold bysE byS
      rw [if_pos h, List.getD_eq_getElem?_getD, List.getElem?_append_left (by show z < 16; exact h), ← List.getD_eq_getElem?_getD]
  · have hs : slS (15 + eT E) = 16 := if_neg (by omega)
    rw [hs]
    refine ⟨by unfold nS; rw [if_neg h0]; decide, ?_, ?_⟩
    · unfold lnsE
      rw [List.getD_eq_getElem?_getD, List.getElem?_append_right (by decide)]; rfl
    · unfold bysE
      rw [List.getD_eq_getElem?_getD, List.getElem?_append_right (by decide)]; rfl
/-- the library's table of digits -/
def XD (A : Nat → Prop) (U : State) (H : Heap) : Prop := ∃ dg : Nat, va_Z "java/lang/Integer" "DigitOnes" "[B" (.ref dg) A U H ∧ va_T .byte dg 100 (fun j => .int (Int32.ofNat (48 + j % 10))) A U H
theorem XD.kept {A : Nat → Prop} {U : State} {H H1 : Heap} (h : XD A U H) (hq : ∀ a : Nat, a < H.size → ¬ A a → H1[a]? = H[a]?) : XD A U H1 := by
  obtain ⟨dg, h1, h2⟩ := h
  exact ⟨dg, h1.kept hq, h2.kept hq⟩
theorem XD.moved {A : Nat → Prop} {u U : State} {H : Heap} (hvm : u.vm.Alike U.vm) (h : XD A u H) : XD A U H := by
  obtain ⟨dg, h1, h2⟩ := h
  exact ⟨dg, va_Z.moved hvm h1, va_T.moved hvm h2⟩
def XX (E : Ev) (A : Nat → Prop) (U : State) (H : Heap) : Prop := ∀ i : Nat, i < nX E → va_X (eX E i).1 (eX E i).2.1 (eX E i).2.2 U H ∧ ¬ A (eX E i).1
theorem va_X.at_lt {b L : Nat} {xs : Nat → Int32} {U : State} {H : Heap} (h : va_X b L xs U H) : b < H.size := by
  obtain ⟨scr, h1, h2⟩ := h
  exact (Array.getElem?_eq_some_iff.mp h1).1
theorem XX.kept {E : Ev} {A : Nat → Prop} {U : State} {H H1 : Heap} (h : XX E A U H) (hq : ∀ a : Nat, a < H.size → ¬ A a → H1[a]? = H[a]?) : XX E A U H1 := fun i hi => ⟨(h i hi).1.kept (hq _ (h i hi).1.at_lt (h i hi).2), (h i hi).2⟩
theorem XX.moved {E : Ev} {A : Nat → Prop} {u U : State} {H : Heap} (hvm : u.vm.Alike U.vm) (h : XX E A u H) : XX E A U H := fun i hi => ⟨va_X.moved hvm (h i hi).1, (h i hi).2⟩
/-- what stands outside the world and stays, for the set A of the world's places: statics of the library, texts -/
def XZ (E : Ev) (A : Nat → Prop) (U : State) (H : Heap) : Prop := va_Z "java/lang/String" "COMPACT_STRINGS" "Z" (.int 1) A U H ∧ va_Zq "jdk/internal/util/Preconditions" "SIOOBE_FORMATTER" "Ljava/util/function/BiFunction;" A U H ∧ vk_S (nS E) (lnsE E) (bysE E) (adK E) (adV E) A U H ∧ (∀ i : Nat, i < 16 → vk_R (stO i) (stI i) (stT i) (adK E i) U) ∧ XD A U H ∧ XX E A U H
theorem XZ.kept {E : Ev} {A : Nat → Prop} {U : State} {H H1 : Heap} (h : XZ E A U H) (hq : ∀ a : Nat, a < H.size → ¬ A a → H1[a]? = H[a]?) : XZ E A U H1 := ⟨h.1.kept hq, h.2.1.kept hq, h.2.2.1.kept hq, h.2.2.2.1, h.2.2.2.2.1.kept hq, h.2.2.2.2.2.kept hq⟩
theorem XZ.warm {E : Ev} {A : Nat → Prop} {s U : State} {H : Heap} (hW : s.WarmedH U.vm) (h : XZ E A s H) : XZ E A U H := ⟨va_Z.moved hW.alike h.1, va_Zq.moved hW.alike h.2.1, vk_S.moved hW.alike h.2.2.1, fun i hi => vk_R.warm hW (h.2.2.2.1 i hi), h.2.2.2.2.1.moved hW.alike, h.2.2.2.2.2.moved hW.alike⟩
theorem XZ.same {E : Ev} {A : Nat → Prop} {u U : State} {H : Heap} (e : U.vm = u.vm) (h : XZ E A u H) : XZ E A U H := ⟨va_Z.moved (by rw [e]; exact Vm.Alike.refl _) h.1, va_Zq.moved (by rw [e]; exact Vm.Alike.refl _) h.2.1, vk_S.moved (by rw [e]; exact Vm.Alike.refl _) h.2.2.1, fun i hi => vk_R.same e (h.2.2.2.1 i hi), h.2.2.2.2.1.moved (by rw [e]; exact Vm.Alike.refl _), h.2.2.2.2.2.moved (by rw [e]; exact Vm.Alike.refl _)⟩
abbrev XW (E : Ev) (U : State) (H : Heap) : Prop := XZ E (AE E) U H
theorem XW.kept {E : Ev} {U : State} {H H1 : Heap} (h : XW E U H) (hq : ∀ a : Nat, a < H.size → ¬ AE E a → H1[a]? = H[a]?) : XW E U H1 := XZ.kept h hq
theorem XW.warm {E : Ev} {s U : State} {H : Heap} (hW : s.WarmedH U.vm) (h : XW E s H) : XW E U H := XZ.warm hW h
theorem XW.same {E : Ev} {u U : State} {H : Heap} (e : U.vm = u.vm) (h : XW E u H) : XW E U H := XZ.same e h
def GB (E : Ev) (σ : St) (U : State) : Prop := va_P E.2.1 vwCl (gW E σ) U.heap ∧ va_K E.2.1 vwCl (tysE E) U ∧ va_D (AE E) (gW E σ) ∧ NW U ∧ XW E U U.heap
def GS (E : Ev) (σ : St) (H0 H : Heap) (locs : List Loc) : Prop := va_P E.2.1 vwCl (gW E σ) H ∧ va_D (AE E) (gW E σ) ∧ va_S (AE E) H0 H locs
def wsM (y : MethodName) (cc : ByteArray) (nL : Nat) (ret : Option FieldType) : List Cond := .code y cc nL ret :: lw_tbl.filter goodWord
/-- the contract of a method that answers a whole number (or a boolean, a character) -/
def Mi (l : Launch) (E : Ev) (y : MethodName) (cc : ByteArray) (nL : Nat) (ret : Option FieldType) (d : Nat) (av : List Value) (σ σ' : St) (r : Int32) : Prop := Met l y (wsM y cc nL ret) (rmd d) (va_Pc av (GB E σ)) (va_Qi (fun (r' : Int32) (u : St) => r' = r ∧ u = σ') (GB E) (AE E)) 0 0 (AE E)
def Mv (l : Launch) (E : Ev) (y : MethodName) (cc : ByteArray) (nL : Nat) (d : Nat) (av : List Value) (σ σ' : St) : Prop := Met l y (wsM y cc nL none) (rmd d) (va_Pc av (GB E σ)) (va_Qv (fun (u : St) => u = σ') (GB E) (AE E)) 0 0 (AE E)
/-- .. that answers the object of index r -/
def Mr (l : Launch) (E : Ev) (y : MethodName) (cc : ByteArray) (nL : Nat) (ret : Option FieldType) (d : Nat) (av : List Value) (σ σ' : St) (r : Nat) : Prop := Met l y (wsM y cc nL ret) (rmd d) (va_Pc av (GB E σ)) (va_Qr (fun (u : St) => u = σ') (fun u ra t => ra = E.1 r ∧ GB E u t) (AE E)) 0 0 (AE E)
/-- .. that answers a text -/
def Ms (l : Launch) (E : Ev) (y : MethodName) (cc : ByteArray) (nL : Nat) (ret : Option FieldType) (d : Nat) (av : List Value) (σ σ' : St) (r : Nat) : Prop := Met l y (wsM y cc nL ret) (rmd d) (va_Pc av (GB E σ)) (va_Qr (fun (u : St) => u = σ') (fun u ra t => ra = eK E r ∧ GB E u t) (AE E)) 0 0 (AE E)
def Cx (E : Ev) (p : Program) (m : MethodId) (c : Code) (cc : ByteArray) (nL : Nat) (s : State) (args : Array Value) (own : String) : Prop := CallFix p m c cc nL s args (lw_tbl.filter goodWord) own ∧ va_K E.2.1 vwCl (tysE E) s ∧ NW s ∧ XW E s s.heap
theorem gw_in {w : Cond} (h : w ∈ lw_tbl) (hg : goodWord w = true) : w ∈ lw_tbl.filter goodWord := List.mem_filter.mpr ⟨h, hg⟩
theorem gw_ws {C : String} {T : u_T} {N : Nat} (h : ∀ w ∈ u_ws C T N, w ∈ lw_tbl) (hg : (u_ws C T N).all goodWord = true) : ∀ w ∈ u_ws C T N, w ∈ lw_tbl.filter goodWord := fun w hw => gw_in (h w hw) (List.all_eq_true.mp hg w hw)
theorem gw_ok {y : MethodName} {cc : ByteArray} {nL : Nat} {ret : Option FieldType} (h : Cond.code y cc nL ret ∈ lw_tbl) (hg : goodWord (Cond.code y cc nL ret) = true) : GoodIn (lw_tbl.filter goodWord) (wsM y cc nL ret) := by
  intro w hw
  rcases List.mem_cons.mp hw with rfl | hw
  · exact ⟨gw_in h hg, good_of_word hg⟩
  · exact ⟨hw, good_of_word (List.mem_filter.mp hw).2⟩
