/-! The invariant between class and model, and what a pair of calls owes. -/
abbrev gD : Type := Nat × Nat × Nat × Int32 × sD × (Nat → sD) × (Nat → Int32) × (Nat → Int32) × (Nat → Int32) × Nat × (Nat → Int32)
abbrev gMade (g : gD) : Nat := g.1
abbrev gNc (g : gD) : Nat := g.2.1
abbrev gHead (g : gD) : Nat := g.2.2.1
abbrev gTk (g : gD) : Int32 := g.2.2.2.1
abbrev gW (g : gD) : sD := g.2.2.2.2.1
abbrev gCs (g : gD) : Nat → sD := g.2.2.2.2.2.1
abbrev gFp (g : gD) : Nat → Int32 := g.2.2.2.2.2.2.1
abbrev gSq (g : gD) : Nat → Int32 := g.2.2.2.2.2.2.2.1
abbrev gRc (g : gD) : Nat → Int32 := g.2.2.2.2.2.2.2.2.1
abbrev gKc (g : gD) : Nat := g.2.2.2.2.2.2.2.2.2.1
abbrev gCf (g : gD) : Nat → Int32 := g.2.2.2.2.2.2.2.2.2.2
/-- whether a set has a member -/
def bi (x : Int32) (j : Nat) : Prop := ¬ ((x >>> (nI j &&& 31)) &&& (1 : Int32)) = 0
def JD (g : gD) : Prop := (1 ≤ gMade g ∧ gMade g ≤ 24) ∧ (1 ≤ gNc g ∧ gNc g ≤ 12) ∧ gHead g < gNc g ∧ (gTk g = -1 ∨ ∃ c, c < gNc g ∧ gTk g = nI c) ∧ Okd (gMade g) (gW g) ∧ (∀ c, c < gNc g → Okd (gMade g) (gCs g c) ∧ bi (gRc g c) 0 ∧ bi (gRc g c) c ∧ ∀ j, c < j → j < 12 → ¬ bi (gRc g c) j) ∧ gKc g ≤ 24
def JC (S : ab_S) (g : gD) : Prop := (S 0 0 4 = nI (gMade g) ∧ S 0 0 5 = nI (gHead g) ∧ S 0 0 6 = gTk g ∧ S 1 0 3 = nI (gNc g)) ∧ CTd S 0 (gW g) ∧ (∀ c, c < gNc g → CTd S (c + 1) (gCs g c) ∧ S 11 0 c = gFp g c ∧ S 12 0 c = gSq g c ∧ S 13 0 c = gRc g c) ∧ S 2 0 2 = nI (gKc g) ∧ ∀ k, k < gKc g → S 14 0 k = gCf g k
def JM (S : ab_S) (g : gD) : Prop := (S 21 0 5 = nI (gMade g) ∧ S 21 0 6 = nI (gNc g) ∧ S 21 0 10 = nI (gHead g) ∧ S 21 0 11 = gTk g) ∧ MTd S 12 (gW g) ∧ (∀ c, c < gNc g → MTd S c (gCs g c) ∧ S 26 0 c = gFp g c ∧ S 27 0 c = gSq g c ∧ S 28 0 c = gRc g c) ∧ S 21 0 12 = nI (gKc g) ∧ ∀ k, k < gKc g → S 29 0 k = gCf g k
def Jv (S : ab_S) : Prop := ∃ g, JD g ∧ JC S g ∧ JM S g
/-- another working tree, another number of nodes made -/
def gSet (g : gD) (made : Nat) (w : sD) : gD := (made, gNc g, gHead g, gTk g, w, gCs g, gFp g, gSq g, gRc g, gKc g, gCf g)
theorem Okd.mono {a b : Nat} {d : sD} (h : Okd a d) (hab : a ≤ b) : Okd b d := ⟨h.1, fun i hi => ⟨by have := (h.2 i hi).1; omega, (h.2 i hi).2⟩⟩
theorem JD.set {g : gD} {made : Nat} {w : sD} (h : JD g) (h1 : gMade g ≤ made) (h2 : made ≤ 24) (hw : Okd made w) : JD (gSet g made w) := by
  obtain ⟨a, b, c, d, e, f, k⟩ := h
  exact ⟨⟨by have : 1 ≤ made := by omega
             exact this, h2⟩, b, c, d, hw, fun i hi => ⟨(f i hi).1.mono h1, (f i hi).2⟩, k⟩
/-- the class's part is read off kinds below 21, the model's off kinds 21 to 29 -/
theorem JC.congr {S S' : ab_S} {g : gD} (h : JC S g) (hs : ∀ a, a < 21 → S' a = S a) : JC S' g := by
  unfold JC CTd Tr Ab
  rw [hs 0 (by decide), hs 1 (by decide), hs 2 (by decide), hs 4 (by decide), hs 5 (by decide), hs 6 (by decide), hs 7 (by decide), hs 8 (by decide), hs 11 (by decide), hs 12 (by decide), hs 13 (by decide), hs 14 (by decide)]
  exact h
theorem JM.congr {S S' : ab_S} {g : gD} (h : JM S g) (hs : ∀ a, 21 ≤ a → a < 30 → S' a = S a) : JM S' g := by
  unfold JM MTd TM
  rw [hs 21 (by decide) (by decide), hs 22 (by decide) (by decide), hs 23 (by decide) (by decide), hs 24 (by decide) (by decide), hs 25 (by decide) (by decide), hs 26 (by decide) (by decide), hs 27 (by decide) (by decide), hs 28 (by decide) (by decide), hs 29 (by decide) (by decide)]
  exact h
theorem JC.set {S S' : ab_S} {g : gD} {made : Nat} {w : sD} (h : JC S g) (ho : ∀ a b, ((a ≠ 0 ∧ (a < 4 ∨ 9 < a)) ∨ b ≠ 0) → S' a b = S a b) (h4 : S' 0 0 4 = nI made) (h5 : S' 0 0 5 = S 0 0 5) (h6 : S' 0 0 6 = S 0 0 6) (hw : CTd S' 0 w) : JC S' (gSet g made w) := by
  obtain ⟨⟨a1, a2, a3, a4⟩, b, c, d, e⟩ := h
  refine ⟨⟨h4, h5.trans a2, h6.trans a3, by rw [ho 1 0 (by omega)]; exact a4⟩, hw, fun i hi => ?_, by rw [ho 2 0 (by omega)]; exact d, by rw [ho 14 0 (by omega)]; exact e⟩
  obtain ⟨c1, c2, c3, c4⟩ := c i hi
  refine ⟨?_, by rw [ho 11 0 (by omega)]; exact c2, by rw [ho 12 0 (by omega)]; exact c3, by rw [ho 13 0 (by omega)]; exact c4⟩
  unfold CTd Tr Ab
  rw [ho 4 (i + 1) (by omega), ho 5 (i + 1) (by omega), ho 6 (i + 1) (by omega), ho 7 (i + 1) (by omega), ho 8 (i + 1) (by omega)]
  exact c1
theorem MTd.off {S S' : ab_S} {u : Nat} {d : sD} {made : Nat} (hk : Okd made d) (h : MTd S u d) (hu : u < 12) (ho : OffT S S') : MTd S' u d := by
  have o24 := hk.1.2.2.2.1
  refine ⟨fun i hi => ?_, ?_, fun i i0 hi => ?_, fun v hv hno => ?_⟩
  · have := o24 i hi
    rw [ho.2.1 22 _ (by decide) (by decide) (by omega), ho.2.1 23 _ (by decide) (by decide) (by omega)]; exact h.1 i hi
  · rw [ho.2.1 24 _ (by decide) (by decide) (by omega), ho.2.1 25 _ (by decide) (by decide) (by omega)]; exact h.2.1
  · have := o24 i hi
    rw [ho.2.1 24 _ (by decide) (by decide) (by omega), ho.2.1 25 _ (by decide) (by decide) (by omega)]; exact h.2.2.1 i i0 hi
  · rw [ho.2.1 22 _ (by decide) (by decide) (by omega)]; exact h.2.2.2 v hv hno
theorem JM.set {S S' : ab_S} {g : gD} {made : Nat} {w : sD} (hd : JD g) (h : JM S g) (ho : OffT S S') (h5 : S' 21 0 5 = nI made) (hw : MTd S' 12 w) : JM S' (gSet g made w) := by
  obtain ⟨⟨a1, a2, a3, a4⟩, b, c, d, e⟩ := h
  refine ⟨⟨h5, (ho.2.2 6 (by omega)).trans a2, (ho.2.2 10 (by omega)).trans a3, (ho.2.2 11 (by omega)).trans a4⟩, hw, fun i hi => ?_, (ho.2.2 12 (by omega)).trans d, by rw [ho.1 29 0 (by omega)]; exact e⟩
  have hi12 : i < 12 := by have : i < gNc g := hi; have := hd.2.1.2; omega
  obtain ⟨c1, c2, c3, c4⟩ := c i hi
  exact ⟨MTd.off (hd.2.2.2.2.2.1 i hi).1 c1 hi12 ho, by rw [ho.1 26 0 (by omega)]; exact c2, by rw [ho.1 27 0 (by omega)]; exact c3, by rw [ho.1 28 0 (by omega)]; exact c4⟩
theorem JM.same {S S' : ab_S} {g : gD} (hd : JD g) (h : JM S g) (ho : OffT S S') (h5 : S' 21 0 5 = S 21 0 5) (hw : MTd S' 12 (gW g)) : JM S' g := by
  have := h.set (made := gMade g) (w := gW g) hd ho (h5.trans h.1.1) hw
  exact this
/-- a call of the class, then one of the model: both say the same, and the invariant holds again -/
def Op2 (τc : ab_TR) (vc : List ab_V) (τm : ab_TR) (vm : List ab_V) (cd : Nat → Int32) (S : ab_S) : Prop :=
  τc vc S (fun o1 S1 => ∀ S1', (∀ a, a ≠ 41 → S1' a = S1 a) → τm vm S1' (fun o2 S2 => Jv S2 ∧ match o1 with
    | .inr E => S2 21 0 0 = cd E
    | .inl r => S2 21 0 0 = 0 ∧ ∀ x, r = some x → o2 = .inl (some x)))
theorem not_in {d : sD} {x : Int32} {s : Nat} {P : Prop} (hs : s < d.1) (e : x = nI (d.2.1 s)) (z : ∀ s, s < d.1 → x ≠ nI (d.2.1 s)) : P := absurd e (z s hs)
theorem same_s {made : Nat} {d : sD} {x : Int32} {s t : Nat} (hk : Okd made d) (hs : s < d.1) (ht : t < d.1) (e : x = nI (d.2.1 s)) (e' : x = nI (d.2.1 t)) : s = t := by
  have a := hk.1.2.2.2.1 s hs
  have b := hk.1.2.2.2.1 t ht
  exact hk.1.2.2.2.2.1 s t hs ht ((nI_eq (by omega) (by omega)).mp (e.symm.trans e'))
theorem same_k {x : Int32} {j k m : Nat} (hm : m < 2 ^ 31) (hj : j ≤ m) (hk : k ≤ m) (e : x = nI j) (e' : x = nI k) : j = k := (nI_eq (by omega) (by omega)).mp (e.symm.trans e')
def cd4 : Nat → Int32
  | 0 => 1 | 1 => 2 | 2 => 3 | _ => 4
theorem op_insert {S : ab_S} {x1 x2 x3 : Int32} (hJ : Jv S) : Op2 Sp_X5_insert [.inr (0, 0), .inl x1, .inl x2, .inl x3] Sp_X6_insert [.inr (21, 0), .inl x1, .inl x2, .inl x3] cd4 S := by
  obtain ⟨g, hd, hc, hm⟩ := hJ
  have hw := hd.2.2.2.2.1
  have hck : ∀ s, ck (gW g).2.2.1 s (gW g).1 < 2 ^ 31 := fun s => by have := ck_le (pp := (gW g).2.2.1) (s := s) (gW g).1; have := hw.1.2.1; omega
  -- a throw: nothing has changed
  have err : ∀ (S1' : ab_S) (c : Int32), (∀ a, a ≠ 41 → S1' a = S a) → Jv (ab_su S1' 21 0 0 c) ∧ (ab_su S1' 21 0 0 c) 21 0 0 = c := fun S1' c hs => by
    refine ⟨⟨g, hd, (hc.congr (fun a ha => hs a (by omega))).congr (fun a ha => by funext b; exact su_o (Or.inl (by omega))), ?_⟩, su_at _ _ _ _ _⟩
    have hm1 := hm.congr (fun a h1 h2 => hs a (by omega))
    exact hm1.same hd (OffT.su (by decide)) (su_j (by decide)) (MTd.su hm1.2.1)
  have mk : ∀ S1', (∀ a, a ≠ 41 → S1' a = S a) → MTd S1' 12 (gW g) ∧ S1' 21 0 5 = nI (gMade g) := fun S1' hs => by
    have hm1 := hm.congr (S' := S1') (fun a h1 h2 => hs a (by omega))
    exact ⟨hm1.2.1, hm1.1.1⟩
  refine sp_c_insert hw hc.2.1 hc.1.1 hd.1.2 (fun z S1' hs => ?_) (fun s hs1 e1 z S1' hs => ?_) (fun s k hs1 e1 hk e2 z S1' hs => ?_) (fun s k c hs1 e1 hk e2 hcc e3 z S1' hs => ?_) (fun s k c sl S1 hs1 e1 hk e2 hcc e3 hlt hsl f1 f2 f3 f4 S1' hs => ?_)
  · exact sp_m_insert hw (mk S1' hs).1 (mk S1' hs).2 hd.1.2 (fun _ => err S1' _ hs) (fun t ht e _ => not_in ht e z) (fun t k ht e _ _ _ => not_in ht e z) (fun t k c ht e _ _ _ _ _ => not_in ht e z) (fun t k c S' ht e _ _ _ _ _ _ _ _ _ => not_in ht e z)
  · exact sp_m_insert hw (mk S1' hs).1 (mk S1' hs).2 hd.1.2 (fun y => not_in hs1 e1 y) (fun _ _ _ _ => err S1' _ hs) (fun t k ht e hk e2 _ => by have := same_s hw hs1 ht e1 e; subst this; exact absurd e2 (z k hk)) (fun t k c ht e hk e2 _ _ _ => by have := same_s hw hs1 ht e1 e; subst this; exact absurd e2 (z k hk)) (fun t k c S' ht e hk e2 _ _ _ _ _ _ _ => by have := same_s hw hs1 ht e1 e; subst this; exact absurd e2 (z k hk))
  · exact sp_m_insert hw (mk S1' hs).1 (mk S1' hs).2 hd.1.2 (fun y => not_in hs1 e1 y) (fun t ht e y => by have := same_s hw hs1 ht e1 e; subst this; exact absurd e2 (y k hk)) (fun _ _ _ _ _ _ _ => err S1' _ hs) (fun t j c ht e _ _ hcc e3 _ => absurd e3 (z c hcc)) (fun t j c S' ht e _ _ hcc e3 _ _ _ _ _ => absurd e3 (z c hcc))
  · exact sp_m_insert hw (mk S1' hs).1 (mk S1' hs).2 hd.1.2 (fun y => not_in hs1 e1 y) (fun t ht e y => by have := same_s hw hs1 ht e1 e; subst this; exact absurd e2 (y k hk)) (fun t j ht e _ _ y => absurd e3 (y c hcc)) (fun _ _ _ _ _ _ _ _ _ _ => err S1' _ hs) (fun t j c S' ht e _ _ hcc e3 y _ _ _ _ => by omega)
  · have hmk : MTd S1' 12 (gW g) ∧ S1' 21 0 5 = nI (gMade g) := by
      have hm1 := hm.congr (S' := S1') (fun a h1 h2 => by rw [hs a (by omega)]; funext b; exact f1 a b (by omega))
      exact ⟨hm1.2.1, hm1.1.1⟩
    refine sp_m_insert hw hmk.1 hmk.2 hd.1.2 (fun y => not_in hs1 e1 y) (fun t ht e y => by have := same_s hw hs1 ht e1 e; subst this; exact absurd e2 (y k hk)) (fun t j ht e _ _ y => absurd e3 (y c hcc)) (fun t j c ht e _ _ hcc e3 y => by omega) (fun t j c' S' ht e hj e2' hcc' e3' _ o1 o2 o3 o4 => ?_)
    have et := same_s hw hs1 ht e1 e
    subst et
    have ej := same_k (hck s) hk hj e2 e2'
    subst ej
    refine ⟨⟨gSet g (gMade g + 1) (insD (gW g) (gMade g) s sl x3), hd.set (by omega) (by omega) f3, ?_, ?_⟩, o2, fun x hx => by cases hx; rfl⟩
    · have h1 : JC S1 (gSet g (gMade g + 1) (insD (gW g) (gMade g) s sl x3)) := hc.set f1 (by rw [f2]; exact pk_us) (by rw [f2]; exact pk_un (by decide)) (by rw [f2]; exact pk_un (by decide)) f4
      exact h1.congr (fun a ha => by rw [← hs a (by omega)]; funext b; exact o1.1 a b (by omega))
    · have hm1 := hm.congr (S' := S1') (fun a h1 h2 => by rw [hs a (by omega)]; funext b; exact f1 a b (by omega))
      exact hm1.set hd o1 o3 (o4 sl hsl)
