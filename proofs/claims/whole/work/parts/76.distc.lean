/-! The class's distance: rests of parts. -/
def Iv (i e : Nat) (a : Nat) : Prop := i ≤ a ∧ a < e
def D0 (n : Nat) (pp : Nat → Nat) (la : Nat → Int32) (n' : Nat) (pp' : Nat → Nat) (lb : Nat → Int32) (i e j f d : Nat) : Prop := Ds (An n pp) (An n' pp') la lb (Iv i e) (e - i) (Iv j f) (f - j) d
def Ends (n : Nat) (pp eA : Nat → Nat) : Prop := ∀ i, i < n → En n pp i (eA i)
theorem Ds.le {an an' : Nat → Nat → Prop} {la lb : Nat → Int32} {X Y : Nat → Prop} {sx sy d : Nat} (h : Ds an an' la lb X sx Y sy d) : d ≤ sx + sy := by
  obtain ⟨⟨M, _, e⟩, _⟩ := h
  omega
theorem D0.base {n : Nat} {pp : Nat → Nat} {la : Nat → Int32} {n' : Nat} {pp' : Nat → Nat} {lb : Nat → Int32} {i e j f : Nat} (h : e ≤ i ∨ f ≤ j) : D0 n pp la n' pp' lb i e j f ((e - i) + (f - j)) := by
  refine Ds.nil (h.elim (fun h => Or.inl (fun a z => ?_)) (fun h => Or.inr (fun a z => ?_)))
  · have := z.1; have := z.2; omega
  · have := z.1; have := z.2; omega
theorem an_iff {n : Nat} {pp eA : Nat → Nat} (hE : Ends n pp eA) {i a : Nat} (hi : i < n) : An n pp i a ↔ i < a ∧ a < eA i := by
  constructor
  · rintro ⟨h, e, he, h2⟩
    have := En_one (hE i hi) he
    exact ⟨h, by omega⟩
  · rintro ⟨h, h2⟩
    exact ⟨h, eA i, hE i hi, h2⟩
theorem D0.span {n : Nat} {pp eA : Nat → Nat} {la : Nat → Int32} {n' : Nat} {pp' eB : Nat → Nat} {lb : Nat → Int32} {i j d1 d2 d3 : Nat} (hA : Ends n pp eA) (hB : Ends n' pp' eB) (hi : i < n) (hj : j < n') (h1 : D0 n pp la n' pp' lb (i + 1) (eA i) j (eB j) d1) (h2 : D0 n pp la n' pp' lb i (eA i) (j + 1) (eB j) d2) (h3 : D0 n pp la n' pp' lb (i + 1) (eA i) (j + 1) (eB j) d3) :
    D0 n pp la n' pp' lb i (eA i) j (eB j) (min (min d1 d2 + 1) (d3 + chg la lb i j)) := by
  have a1 := (hA i hi).1
  have b1 := (hB j hj).1
  unfold D0 at *
  rw [show eA i - i = (eA i - (i + 1)) + 1 by omega] at h2 ⊢
  rw [show eB j - j = (eB j - (j + 1)) + 1 by omega] at h1 ⊢
  refine Ds.span (fun a => ?_) (fun b => ?_) (fun a ha => ?_) (fun b hb => ?_) h1 h2 h3
  · unfold Iv; omega
  · unfold Iv; omega
  · have := ha.1; have := ha.2; exact ⟨by omega, (an_iff hA hi).mpr ⟨by omega, by omega⟩⟩
  · have := hb.1; have := hb.2; exact ⟨by omega, (an_iff hB hj).mpr ⟨by omega, by omega⟩⟩
theorem no_an {n : Nat} {pp eA : Nat → Nat} (hL : Lp n pp) (hE : Ends n pp eA) {i a a' : Nat} (hi : i < n) (h1 : i ≤ a) (h2 : a < eA i) (h3 : eA i ≤ a') : ¬ An n pp a a' := by
  rintro ⟨h, e, he, h4⟩
  have := En_le hL (hE i hi) he h1 h2
  omega
theorem D0.split {n : Nat} {pp eA : Nat → Nat} {la : Nat → Int32} {n' : Nat} {pp' eB : Nat → Nat} {lb : Nat → Int32} {i e j f d1 d2 d3 d4 : Nat} (hL : Lp n pp) (hL' : Lp n' pp') (hA : Ends n pp eA) (hB : Ends n' pp' eB) (hi : i < n) (hj : j < n') (he : eA i ≤ e) (hf : eB j ≤ f) (h1 : D0 n pp la n' pp' lb (i + 1) e j f d1) (h2 : D0 n pp la n' pp' lb i e (j + 1) f d2) (h3 : D0 n pp la n' pp' lb i (eA i) j (eB j) d3) (h4 : D0 n pp la n' pp' lb (eA i) e (eB j) f d4) :
    D0 n pp la n' pp' lb i e j f (min (min d1 d2 + 1) (d4 + d3)) := by
  have a1 := (hA i hi).1
  have b1 := (hB j hj).1
  unfold D0 at *
  rw [show e - i = (e - (i + 1)) + 1 by omega] at h2 ⊢
  rw [show f - j = (f - (j + 1)) + 1 by omega] at h1 ⊢
  refine Ds.split (r := i) (r' := j) (T := Iv i (eA i)) (T' := Iv j (eB j)) (R := Iv (eA i) e) (R' := Iv (eB j) f) (fun a => ?_) (fun b => ?_) (fun a => ?_) (fun b => ?_) (by omega) (by omega) (fun M hM c1 c2 => ?_) (Or.inl ⟨fun a a' ha ha' => ?_, fun b b' hb hb' => ?_⟩) h1 h2 h3 h4
  · unfold Iv; omega
  · unfold Iv; omega
  · unfold Iv; omega
  · unfold Iv; omega
  · obtain ⟨b, hb⟩ := c1
    obtain ⟨a, ha⟩ := c2
    have bx := (hM.2 _ hb).2
    have ax := (hM.2 _ ha).1
    have hij : (i, j) ∈ M := by
      rcases hM.cmp hb ha with z | z | z
      · have z1 : b = j := (Prod.mk.inj z).2
        rw [z1] at hb; exact hb
      · have z1 : b < j := z.2.1
        have := bx.1
        exact absurd z1 (by show ¬ b < j; omega)
      · have z1 : a < i := z.1
        have := ax.1
        exact absurd z1 (by show ¬ a < i; omega)
    intro p hp
    obtain ⟨x1, x2⟩ := hM.2 p hp
    rcases hM.cmp hij hp with z | z | z
    · subst z; exact Or.inl ⟨⟨Nat.le_refl _, a1⟩, Nat.le_refl _, b1⟩
    · have z1 : i < p.1 := z.1
      have z2 : j < p.2 := z.2.1
      have z3 : An n pp i p.1 ↔ An n' pp' j p.2 := z.2.2
      rw [an_iff hA hi, an_iff hB hj] at z3
      unfold Iv at *
      by_cases q : p.1 < eA i
      · have := (z3.mp ⟨z1, q⟩).2
        exact Or.inl ⟨⟨by omega, q⟩, by omega, this⟩
      · have : ¬ p.2 < eB j := fun w => q (z3.mpr ⟨z2, w⟩).2
        exact Or.inr ⟨⟨by omega, x1.2⟩, by omega, x2.2⟩
    · have z1 : p.1 < i := z.1
      have := x1.1
      omega
  · exact ⟨by have := ha.2; have := ha'.1; omega, no_an hL hA hi ha.1 ha.2 ha'.1⟩
  · exact ⟨by have := hb.2; have := hb'.1; omega, no_an hL' hB hj hb.1 hb.2 hb'.1⟩
/-! Its rows. -/
theorem sp_noteEnds {Q : ab_Po} {S : ab_S} {t x n : Nat} {o pp eA : Nat → Nat} {lb : Nat → Int32} (hS : Sh n o pp) (hT : Tr S t n o pp lb) (hE : Ends n pp eA) (hQ : ∀ S', (∀ a b, (a ≠ 19 ∨ b ≠ x) → S' a b = S a b) → (∀ i, i < n → S' 19 x i = nI (eA i)) → Q (.inl none) S') : Sp_X0_noteEnds [.inr (4, t), .inr (19, x)] S Q := by
  refine ⟨Nat.le_of_ble_eq_true rfl, fun G hG => ?_⟩
  have hn := hS.2.1
  refine bl_X0_noteEnds_0 hG t x S ?_
  have key : ∀ k, k ≤ n → ∀ S1 : ab_S, (∀ a b, (a ≠ 19 ∨ b ≠ x) → S1 a b = S a b) → (∀ i, i < k → S1 19 x i = nI (eA i)) → G 2 [some (.inr (4, t)), some (.inr (19, x)), some (.inl (nI k))] [] S1 0 := by
    refine ind_up _ ?_ ?_
    · intro S1 f1 h1
      refine bl_X0_noteEnds_2 hG t x _ S1 ?_
      rw [f1 4 t (by omega), hT.1]
      exact pk_le n n (fun _ => hQ S1 f1 h1) (fun z => by omega)
    · intro k hk ih S1 f1 h1
      have hT1 : Tr S1 t n o pp lb := by
        unfold Tr
        rw [f1 4 t (by omega), f1 5 t (by omega), f1 6 t (by omega), f1 7 t (by omega), f1 8 t (by omega)]
        exact hT
      refine bl_X0_noteEnds_2 hG t x _ S1 ?_
      rw [hT1.1]
      refine pk_le n k (fun z => by omega) (fun _ => sp_endOf (hT1.rw hS) (hT1.pa hS) hk (fun e he => ?_))
      have := En_one he (hE k hk)
      subst this
      refine bl_X0_noteEnds_17 hG t x _ _ _ x S1 ⟨vp_in_nI (by omega) (by decide), fun S2 e2 => ?_⟩
      rw [nI_clamp (by omega)] at e2
      rw [nI_1]
      refine ih S2 (fun a b z => by rw [e2, su_o z]; exact f1 a b z) (fun i hi => ?_)
      by_cases q : i = k
      · subst q; rw [e2, su_at]
      · rw [e2, su_j q]; exact h1 i (by omega)
  exact key 0 (by omega) S (fun _ _ _ => rfl) (fun i hi => absurd hi (Nat.not_lt_zero i))
def Wd (pp eA : Nat → Nat) (i : Nat) : Prop := i = 0 ∨ eA (pp i) ≠ eA i
theorem sp_isWidest {Q : ab_Po} {S : ab_S} {t x n i : Nat} {o pp eA : Nat → Nat} {lb : Nat → Int32} (hS : Sh n o pp) (hT : Tr S t n o pp lb) (hE : Ends n pp eA) (hx : ∀ i, i < n → S 19 x i = nI (eA i)) (hi : i < n) (h1 : Wd pp eA i → Q (.inl (some 1)) S) (h0 : ¬ Wd pp eA i → Q (.inl (some 0)) S) : Sp_X0_isWidest [.inr (4, t), .inr (19, x), .inl (nI i)] S Q := by
  refine ⟨Nat.le_of_ble_eq_true rfl, fun G hG => ?_⟩
  have hn := hS.2.1
  refine bl_X0_isWidest_0 hG t x _ S (pk_eq i 0 (fun e => h1 (Or.inl e)) (fun e => ?_))
  have hp := hS.2.2.2.2.2.1 i (by omega) hi
  refine sp_parentSpot (hT.rw hS) (hT.pa hS) (by omega) hi ?_
  refine bl_X0_isWidest_10 hG t x _ _ x S ?_
  have e1 := (hE i hi).2.1
  have e2 := (hE (pp i) (by omega)).2.1
  rw [nI_clamp (by omega), nI_clamp (by omega), hx i hi, hx (pp i) (by omega)]
  exact ⟨vp_in_nI (by omega) (by decide), vp_in_nI (by omega) (by decide), pk_eq (eA (pp i)) (eA i) (fun z => h0 (fun w => w.elim e (fun y => y z))) (fun z => h1 (Or.inr z))⟩
theorem sp_c_least {Q : ab_Po} {S : ab_S} {i j d1 d2 k : Nat} (hi : i < 24) (hj : j < 24) (h1 : S 18 (i + 1) j = nI d1) (h2 : S 18 i (j + 1) = nI d2) (b1 : d1 ≤ 100) (b2 : d2 ≤ 100) (bk : k ≤ 1000) (hQ : Q (.inl (some (nI (min (min d1 d2 + 1) k)))) S) : Sp_X0_least [.inr (3, 0), .inl (nI i), .inl (nI j), .inl (nI k)] S Q := by
  refine ⟨Nat.le_of_ble_eq_true rfl, fun G hG => ?_⟩
  refine bl_X0_least_0 hG _ _ _ S ?_
  rw [nI_1, nI_1, nI_clamp (by omega), nI_clamp (by omega), nI_clamp (by omega), nI_clamp (by omega), h1, h2]
  refine ⟨vp_in_nI (by omega) (by decide), vp_in_nI (by omega) (by decide), vp_in_nI (by omega) (by decide), vp_in_nI (by omega) (by decide), ?_⟩
  have e : (if nI d2 < nI d1 then nI d2 else nI d1) = nI (min d1 d2) := by
    by_cases q : d2 < d1
    · rw [if_pos (nI_lt q (by omega)), Nat.min_eq_right (by omega)]
    · rw [if_neg (nI_nlt (by omega) (by omega)), Nat.min_eq_left (by omega)]
  rw [e, nI_1]
  by_cases q : k < min d1 d2 + 1
  · rw [if_pos (nI_lt q (by omega))]
    rw [Nat.min_eq_right (by omega)] at hQ; exact hQ
  · rw [if_neg (nI_nlt (by omega) (by omega))]
    rw [Nat.min_eq_left (by omega)] at hQ; exact hQ
theorem sub1_lt {m s : Nat} (h : m ≤ s) (hs : s < 2 ^ 31) : nI m - 1 < nI s := by
  rcases m with _ | m
  · rw [Int32.lt_iff_toInt_lt, nI_toInt hs, show (nI 0 - 1).toInt = -1 by decide]; omega
  · rw [nI_pred]; exact nI_lt (by omega) hs
def OffD (S S' : ab_S) : Prop := ∀ a b, a ≠ 16 → a ≠ 18 → S' a b = S a b
theorem su_no {S : ab_S} {κ i j a b c : Nat} {v : Int32} (h : ¬ (a = κ ∧ b = i ∧ c = j)) : ab_su S κ i j v a b c = S a b c := by
  by_cases q : a = κ ∧ b = i
  · obtain ⟨rfl, rfl⟩ := q
    exact su_j (fun e => h ⟨rfl, rfl, e⟩)
  · rw [su_o (by omega)]
def PV (n : Nat) (pp eA : Nat → Nat) (la : Nat → Int32) (n' : Nat) (pp' eB : Nat → Nat) (lb : Nat → Int32) (S : ab_S) (i j : Nat) : Prop := ∃ d, S 16 i j = nI d ∧ D0 n pp la n' pp' lb i (eA i) j (eB j) d
def RV (n : Nat) (pp : Nat → Nat) (la : Nat → Int32) (n' : Nat) (pp' : Nat → Nat) (lb : Nat → Int32) (e f : Nat) (S : ab_S) (i j : Nat) : Prop := ∃ d, S 18 i j = nI d ∧ D0 n pp la n' pp' lb i e j f d
theorem sp_compareParts {Q : ab_Po} {S : ab_S} {t t' n n' sA sB : Nat} {o pp eA o' pp' eB : Nat → Nat} {lb lb' : Nat → Int32} (hS : Sh n o pp) (hS' : Sh n' o' pp') (hT : Tr S t n o pp lb) (hT' : Tr S t' n' o' pp' lb') (hA : Ends n pp eA) (hB : Ends n' pp' eB) (xA : ∀ i, i < n → S 19 0 i = nI (eA i)) (xB : ∀ i, i < n' → S 19 1 i = nI (eB i)) (hsA : sA < n) (hsB : sB < n')
    (hP : ∀ i j, sA ≤ i → i < eA sA → sB ≤ j → j < eB sB → ¬ (eA i = eA sA ∧ eB j = eB sB) → PV n pp eA (fun a => lb (o a)) n' pp' eB (fun a => lb' (o' a)) S i j)
    (hQ : ∀ S', OffD S S' → (∀ i j, sA ≤ i → i < eA sA → sB ≤ j → j < eB sB → eA i = eA sA → eB j = eB sB → PV n pp eA (fun a => lb (o a)) n' pp' eB (fun a => lb' (o' a)) S' i j) → (∀ i j, ¬ (sA ≤ i ∧ i < eA sA ∧ sB ≤ j ∧ j < eB sB ∧ eA i = eA sA ∧ eB j = eB sB) → S' 16 i j = S 16 i j) → Q (.inl none) S') : Sp_X0_compareParts [.inr (3, 0), .inr (4, t), .inr (4, t'), .inl (nI sA), .inl (nI sB)] S Q := by
  refine ⟨Nat.le_of_ble_eq_true rfl, fun G hG => ?_⟩
  have hn := hS.2.1
  have hn' := hS'.2.1
  have hL := hS.2.2.2.2.2
  have hL' := hS'.2.2.2.2.2
  have eA1 := (hA sA hsA).1
  have eA2 := (hA sA hsA).2.1
  have eB1 := (hB sB hsB).1
  have eB2 := (hB sB hsB).2.1
  refine bl_X0_compareParts_0 hG t t' _ _ S ?_
  rw [nI_clamp (by omega), nI_clamp (by omega), xA sA hsA, xB sB hsB]
  refine ⟨vp_in_nI (by omega) (by decide), vp_in_nI (by omega) (by decide), ?_⟩
  -- what holds of a part's end inside
  have inA : ∀ i, sA ≤ i → i < eA sA → i < eA i ∧ eA i ≤ eA sA ∧ eA i ≤ 24 := fun i h1 h2 => ⟨(hA i (by omega)).1, En_le hL (hA sA hsA) (hA i (by omega)) h1 h2, by have := (hA i (by omega)).2.1; omega⟩
  have inB : ∀ j, sB ≤ j → j < eB sB → j < eB j ∧ eB j ≤ eB sB ∧ eB j ≤ 24 := fun j h1 h2 => ⟨(hB j (by omega)).1, En_le hL' (hB sB hsB) (hB j (by omega)) h1 h2, by have := (hB j (by omega)).2.1; omega⟩
  -- parts: done below row m, and in row m from column q on
  have inner : ∀ m, sA ≤ m → m ≤ eA sA →
      (∀ T : ab_S, OffD S T → (∀ i j, m ≤ i → i ≤ eA sA → sB ≤ j → j ≤ eB sB → RV n pp (fun a => lb (o a)) n' pp' (fun a => lb' (o' a)) (eA sA) (eB sB) T i j) → (∀ i j, m ≤ i → i < eA sA → sB ≤ j → j < eB sB → eA i = eA sA → eB j = eB sB → PV n pp eA (fun a => lb (o a)) n' pp' eB (fun a => lb' (o' a)) T i j) → (∀ i j, ¬ (sA ≤ i ∧ i < eA sA ∧ sB ≤ j ∧ j < eB sB ∧ eA i = eA sA ∧ eB j = eB sB) → T 16 i j = S 16 i j) → G 21 [some (.inr (3, 0)), some (.inr (4, t)), some (.inr (4, t')), some (.inl (nI sA)), some (.inl (nI sB)), some (.inl (nI (eA sA))), some (.inl (nI (eB sB))), some (.inl (nI m - 1)), none, none] [] T 0) →
      ∀ q, sB ≤ q → q ≤ eB sB + 1 → ∀ T : ab_S, OffD S T → (∀ i j, m < i → i ≤ eA sA → sB ≤ j → j ≤ eB sB → RV n pp (fun a => lb (o a)) n' pp' (fun a => lb' (o' a)) (eA sA) (eB sB) T i j) → (∀ j, q ≤ j → j ≤ eB sB → RV n pp (fun a => lb (o a)) n' pp' (fun a => lb' (o' a)) (eA sA) (eB sB) T m j) → (∀ i j, m < i → i < eA sA → sB ≤ j → j < eB sB → eA i = eA sA → eB j = eB sB → PV n pp eA (fun a => lb (o a)) n' pp' eB (fun a => lb' (o' a)) T i j) → (∀ j, q ≤ j → m < eA sA → j < eB sB → eA m = eA sA → eB j = eB sB → PV n pp eA (fun a => lb (o a)) n' pp' eB (fun a => lb' (o' a)) T m j) → (∀ i j, ¬ (sA ≤ i ∧ i < eA sA ∧ sB ≤ j ∧ j < eB sB ∧ eA i = eA sA ∧ eB j = eB sB) → T 16 i j = S 16 i j) → G 31 [some (.inr (3, 0)), some (.inr (4, t)), some (.inr (4, t')), some (.inl (nI sA)), some (.inl (nI sB)), some (.inl (nI (eA sA))), some (.inl (nI (eB sB))), some (.inl (nI m)), some (.inl (nI q - 1)), none] [] T 0 := by
    intro m hm1 hm2 nextRow q
    induction q with
    | zero =>
      intro hq _ T fT r1 r2 p1 p2 p3
      have sB0 : sB = 0 := by omega
      refine bl_X0_compareParts_31 hG t t' _ _ _ _ _ _ T ⟨fun _ => ?_, fun z => absurd (sub1_lt (Nat.zero_le sB) (by omega)) z⟩
      rw [i_sub1]
      refine nextRow T fT (fun i j i1 i2 j1 j2 => ?_) (fun i j i1 i2 j1 j2 x1 x2 => ?_) p3
      · by_cases w : i = m
        · subst w; exact r2 j (by omega) j2
        · exact r1 i j (by omega) i2 j1 j2
      · by_cases w : i = m
        · subst w; exact p2 j (by omega) i2 j2 x1 x2
        · exact p1 i j (by omega) i2 j1 j2 x1 x2
    | succ j ih =>
      intro hq hq2 T fT r1 r2 p1 p2 p3
      by_cases hjs : j < sB
      · -- the row is done
        refine bl_X0_compareParts_31 hG t t' _ _ _ _ _ _ T ⟨fun _ => ?_, fun z => absurd (sub1_lt (by omega) (by omega)) z⟩
        rw [i_sub1]
        refine nextRow T fT (fun i j' i1 i2 j1 j2 => ?_) (fun i j' i1 i2 j1 j2 x1 x2 => ?_) p3
        · by_cases w : i = m
          · subst w; exact r2 j' (by omega) j2
          · exact r1 i j' (by omega) i2 j1 j2
        · by_cases w : i = m
          · subst w; exact p2 j' (by omega) i2 j2 x1 x2
          · exact p1 i j' (by omega) i2 j1 j2 x1 x2
      · rw [nI_pred]
        have ih' := ih (by omega) (by omega)
        refine bl_X0_compareParts_31 hG t t' _ _ _ _ _ _ T ⟨fun z => absurd z (nI_nlt (by omega) (by omega)), fun _ => ?_⟩
        -- a cell of the rests is put down
        have put : ∀ (T1 : ab_S) (v : Nat), T1 = ab_su T 18 m j (nI v) → D0 n pp (fun a => lb (o a)) n' pp' (fun a => lb' (o' a)) m (eA sA) j (eB sB) v → (m < eA sA → j < eB sB → eA m = eA sA → eB j = eB sB → False) → G 31 [some (.inr (3, 0)), some (.inr (4, t)), some (.inr (4, t')), some (.inl (nI sA)), some (.inl (nI sB)), some (.inl (nI (eA sA))), some (.inl (nI (eB sB))), some (.inl (nI m)), some (.inl (nI j - 1)), none] [] T1 0 := fun T1 v e1 hv hno => by
          refine ih' T1 (fun a b z1 z2 => by rw [e1, su_o (Or.inl z2)]; exact fT a b z1 z2) (fun i j' i1 i2 j1 j2 => ?_) (fun j' j1 j2 => ?_) (fun i j' i1 i2 j1 j2 x1 x2 => ?_) (fun j' j1 i2 j2 x1 x2 => ?_) (fun i j' z => by rw [e1, su_no (by omega)]; exact p3 i j' z)
          · obtain ⟨d, y1, y2⟩ := r1 i j' i1 i2 j1 j2
            exact ⟨d, by rw [e1, su_no (by omega)]; exact y1, y2⟩
          · by_cases w : j' = j
            · subst w; exact ⟨v, by rw [e1, su_at], hv⟩
            · obtain ⟨d, y1, y2⟩ := r2 j' (by omega) j2
              exact ⟨d, by rw [e1, su_no (by omega)]; exact y1, y2⟩
          · obtain ⟨d, y1, y2⟩ := p1 i j' i1 i2 j1 j2 x1 x2
            exact ⟨d, by rw [e1, su_no (by omega)]; exact y1, y2⟩
          · by_cases w : j' = j
            · subst w; exact absurd x2 (fun _ => hno i2 j2 x1 x2)
            · obtain ⟨d, y1, y2⟩ := p2 j' (by omega) i2 j2 x1 x2
              exact ⟨d, by rw [e1, su_no (by omega)]; exact y1, y2⟩
        have edge : ∀ T1, T1 = ab_su T 18 (nI m).toNatClampNeg (nI j).toNatClampNeg (((nI (eA sA) - nI m) + nI (eB sB)) - nI j) → (m = eA sA ∨ j = eB sB) → G 31 [some (.inr (3, 0)), some (.inr (4, t)), some (.inr (4, t')), some (.inl (nI sA)), some (.inl (nI sB)), some (.inl (nI (eA sA))), some (.inl (nI (eB sB))), some (.inl (nI m)), some (.inl (nI j + -1)), none] [] T1 0 := fun T1 e1 hor => by
          rw [nI_clamp (by omega), nI_clamp (by omega), pk_sub hm2, nI_add, pk_sub (by omega)] at e1
          rw [i_sub1]
          have ev : eA sA - m + eB sB - j = (eA sA - m) + (eB sB - j) := by omega
          rw [ev] at e1
          exact put T1 _ e1 (D0.base (by omega)) (fun z1 z2 _ _ => by omega)
        refine ⟨fun em => ?_, fun em => ⟨fun ej => ?_, fun ej => ?_⟩⟩
        · have em' := (nI_eq (by omega) (by omega)).mp em
          exact ⟨vp_in_nI (by omega) (by decide), vp_in_nI (by omega) (by decide), fun T1 e1 => edge T1 e1 (Or.inl em')⟩
        · have ej' := (nI_eq (by omega) (by omega)).mp ej
          exact ⟨vp_in_nI (by omega) (by decide), vp_in_nI (by omega) (by decide), fun T1 e1 => edge T1 e1 (Or.inr ej')⟩
        have ml : m < eA sA := by
          rcases Nat.lt_or_ge m (eA sA) with w | w
          · exact w
          · exact absurd (by rw [show m = eA sA by omega]) em
        have jl : j < eB sB := by
          rcases Nat.lt_or_ge j (eB sB) with w | w
          · exact w
          · exact absurd (by rw [show j = eB sB by omega]) ej
        obtain ⟨am1, am2, am3⟩ := inA m hm1 ml
        obtain ⟨bj1, bj2, bj3⟩ := inB j (by omega) jl
        have t0 : T 19 0 m = nI (eA m) := by rw [fT 19 0 (by decide) (by decide)]; exact xA m (by omega)
        have t1 : T 19 1 j = nI (eB j) := by rw [fT 19 1 (by decide) (by decide)]; exact xB j (by omega)
        have om := hS.2.2.2.1 m (by omega)
        have oj := hS'.2.2.2.1 j (by omega)
        have l5 : T 5 t m = nI (o m) := by rw [fT 5 t (by decide) (by decide)]; exact (hT.2.1 m (by omega)).1
        have l5' : T 5 t' j = nI (o' j) := by rw [fT 5 t' (by decide) (by decide)]; exact (hT'.2.1 j (by omega)).1
        have l8 : T 8 t (o m) = lb (o m) := by rw [fT 8 t (by decide) (by decide)]; exact (hT.2.1 m (by omega)).2.2
        have l8' : T 8 t' (o' j) = lb' (o' j) := by rw [fT 8 t' (by decide) (by decide)]; exact (hT'.2.1 j (by omega)).2.2
        obtain ⟨d1, y1, D1⟩ := r1 (m + 1) j (by omega) (by omega) (by omega) (by omega)
        obtain ⟨d2, y2, D2⟩ := r2 (j + 1) (by omega) (by omega)
        have b1 : d1 ≤ 100 := by have := Ds.le D1; omega
        have b2 : d2 ≤ 100 := by have := Ds.le D2; omega
        rw [nI_clamp (by omega), nI_clamp (by omega), t0, t1, l5, l5', nI_clamp (by omega), nI_clamp (by omega), l8, l8', nI_1, nI_1, nI_clamp (by omega), nI_clamp (by omega), nI_clamp (by omega), nI_clamp (by omega)]
        -- the case with what the parts have
        have notspan : ¬ (eA m = eA sA ∧ eB j = eB sB) → vp_in (nI m) 25 ∧ vp_in (nI m) 24 ∧ vp_in (nI (eA m)) 25 ∧ vp_in (nI j) 24 ∧ vp_in (nI (eB j)) 25 ∧ vp_in (nI m) 24 ∧ vp_in (nI j) 24 ∧ Sp_X0_least [.inr (3, 0), .inl (nI m), .inl (nI j), .inl (T 18 (eA m) (eB j) + T 16 m j)] T (ab_back Q G 240 [some (.inr (3, 0)), some (.inr (4, t)), some (.inr (4, t')), some (.inl (nI sA)), some (.inl (nI sB)), some (.inl (nI (eA sA))), some (.inl (nI (eB sB))), some (.inl (nI m)), some (.inl (nI j)), none] [.inl (nI j), .inr (18, m)] 0) := fun hns => by
          refine ⟨vp_in_nI (by omega) (by decide), vp_in_nI (by omega) (by decide), vp_in_nI (by omega) (by decide), vp_in_nI (by omega) (by decide), vp_in_nI (by omega) (by decide), vp_in_nI (by omega) (by decide), vp_in_nI (by omega) (by decide), ?_⟩
          obtain ⟨d4, y4, D4⟩ := r1 (eA m) (eB j) (by omega) am2 (by omega) bj2
          obtain ⟨d3, y3, D3⟩ := hP m j hm1 ml (by omega) jl hns
          have y3' : T 16 m j = nI d3 := by rw [p3 m j (fun z => hns ⟨z.2.2.2.2.1, z.2.2.2.2.2⟩)]; exact y3
          have b3 := Ds.le D3
          have b4 := Ds.le D4
          rw [y4, y3', nI_add]
          refine sp_c_least (by omega) (by omega) y1 y2 b1 b2 (by omega) ?_
          refine bl_X0_compareParts_240 hG t t' _ _ _ _ _ _ _ _ m T ⟨vp_in_nI (by omega) (by decide), fun T1 e1 => ?_⟩
          rw [nI_clamp (by omega)] at e1
          rw [i_sub1]
          exact put T1 _ e1 (D0.split hL hL' hA hB (by omega) (by omega) am2 bj2 D1 D2 D3 D4) (fun _ _ z1 z2 => hns ⟨z1, z2⟩)
        refine ⟨vp_in_nI (by omega) (by decide), fun ea => ⟨vp_in_nI (by omega) (by decide), fun eb => ?_, fun eb => ?_⟩, fun ea => ?_⟩
        · have ea' := (nI_eq (by omega) (by omega)).mp ea
          have eb' := (nI_eq (by omega) (by omega)).mp eb
          obtain ⟨d3, y3, D3⟩ := r1 (m + 1) (j + 1) (by omega) (by omega) (by omega) (by omega)
          have b3 := Ds.le D3
          rw [y3]
          have fin : ∀ (ch : Nat) (x9 : Int32), ch = chg (fun a => lb (o a)) (fun a => lb' (o' a)) m j → Sp_X0_least [.inr (3, 0), .inl (nI m), .inl (nI j), .inl (nI (d3 + ch))] T (ab_back Q G 168 [some (.inr (3, 0)), some (.inr (4, t)), some (.inr (4, t')), some (.inl (nI sA)), some (.inl (nI sB)), some (.inl (nI (eA sA))), some (.inl (nI (eB sB))), some (.inl (nI m)), some (.inl (nI j)), some (.inl x9)] [.inl (nI j), .inr (18, m)] 0) := fun ch x9 hch => by
            have c1 : ch ≤ 1 := by
              rw [hch]; unfold chg
              by_cases w : lb (o m) = lb' (o' j)
              · rw [if_pos w]; decide
              · rw [if_neg w]; decide
            refine sp_c_least (by omega) (by omega) y1 y2 b1 b2 (by omega) ?_
            refine bl_X0_compareParts_168 hG t t' _ _ _ _ _ _ _ _ _ m T ⟨vp_in_nI (by omega) (by decide), fun T1 e1 => ⟨vp_in_nI (by omega) (by decide), vp_in_nI (by omega) (by decide), vp_in_nI (by omega) (by decide), vp_in_nI (by omega) (by decide), fun T2 e2 => ?_⟩⟩
            rw [nI_clamp (by omega)] at e1
            have v1 : T1 18 m j = nI (min (min d1 d2 + 1) (d3 + ch)) := by rw [e1, su_at]
            rw [nI_clamp (by omega), nI_clamp (by omega), v1] at e2
            rw [i_sub1]
            have DD : D0 n pp (fun a => lb (o a)) n' pp' (fun a => lb' (o' a)) m (eA sA) j (eB sB) (min (min d1 d2 + 1) (d3 + ch)) := by
              rw [hch, ← ea', ← eb']
              rw [← ea', ← eb'] at D1 D2 D3
              exact D0.span hA hB (by omega) (by omega) D1 D2 D3
            refine ih' T2 (fun a b z1 z2 => by rw [e2, su_o (Or.inl z1), e1, su_o (Or.inl z2)]; exact fT a b z1 z2) (fun i j' i1 i2 j1 j2 => ?_) (fun j' j1 j2 => ?_) (fun i j' i1 i2 j1 j2 x1 x2 => ?_) (fun j' j1 i2 j2 x1 x2 => ?_) (fun i j' z => ?_)
            · obtain ⟨d, w1, w2⟩ := r1 i j' i1 i2 j1 j2
              exact ⟨d, by rw [e2, su_no (by omega), e1, su_no (by omega)]; exact w1, w2⟩
            · by_cases w : j' = j
              · subst w; exact ⟨_, by rw [e2, su_no (by omega)]; exact v1, DD⟩
              · obtain ⟨d, w1, w2⟩ := r2 j' (by omega) j2
                exact ⟨d, by rw [e2, su_no (by omega), e1, su_no (by omega)]; exact w1, w2⟩
            · obtain ⟨d, w1, w2⟩ := p1 i j' i1 i2 j1 j2 x1 x2
              exact ⟨d, by rw [e2, su_no (by omega), e1, su_no (by omega)]; exact w1, w2⟩
            · by_cases w : j' = j
              · subst w
                refine ⟨_, by rw [e2, su_at], ?_⟩
                rw [ea', eb']; exact DD
              · obtain ⟨d, w1, w2⟩ := p2 j' (by omega) i2 j2 x1 x2
                exact ⟨d, by rw [e2, su_no (by omega), e1, su_no (by omega)]; exact w1, w2⟩
            · have : ¬ (i = m ∧ j' = j) := fun w => z ⟨by omega, by omega, by omega, by omega, by rw [w.1]; exact ea', by rw [w.2]; exact eb'⟩
              rw [e2, su_no (by omega), e1, su_no (by omega)]; exact p3 i j' z
          refine ⟨vp_in_nI (by omega) (by decide), vp_in_nI (by omega) (by decide), vp_in_nI (by omega) (by decide), vp_in_nI (by omega) (by decide), fun el => ⟨vp_in_nI (by omega) (by decide), vp_in_nI (by omega) (by decide), vp_in_nI (by omega) (by decide), ?_⟩, fun el => ⟨vp_in_nI (by omega) (by decide), vp_in_nI (by omega) (by decide), vp_in_nI (by omega) (by decide), ?_⟩⟩
          · rw [Int32.add_zero]
            exact fin 0 0 (by unfold chg; rw [if_pos el])
          · rw [nI_1]
            exact fin 1 1 (by unfold chg; rw [if_neg el])
        · exact notspan (fun z => eb (by rw [z.2]))
        · exact notspan (fun z => ea (by rw [z.1]))
  -- all rows
  have outer : ∀ k m, sA ≤ m → m + k = eA sA + 1 → ∀ T : ab_S, OffD S T → (∀ i j, m ≤ i → i ≤ eA sA → sB ≤ j → j ≤ eB sB → RV n pp (fun a => lb (o a)) n' pp' (fun a => lb' (o' a)) (eA sA) (eB sB) T i j) → (∀ i j, m ≤ i → i < eA sA → sB ≤ j → j < eB sB → eA i = eA sA → eB j = eB sB → PV n pp eA (fun a => lb (o a)) n' pp' eB (fun a => lb' (o' a)) T i j) → (∀ i j, ¬ (sA ≤ i ∧ i < eA sA ∧ sB ≤ j ∧ j < eB sB ∧ eA i = eA sA ∧ eB j = eB sB) → T 16 i j = S 16 i j) → G 21 [some (.inr (3, 0)), some (.inr (4, t)), some (.inr (4, t')), some (.inl (nI sA)), some (.inl (nI sB)), some (.inl (nI (eA sA))), some (.inl (nI (eB sB))), some (.inl (nI m - 1)), none, none] [] T 0 := by
    intro k m
    induction m generalizing k with
    | zero =>
      intro h1 h2 T fT r p p3
      refine bl_X0_compareParts_21 hG t t' _ _ _ _ _ T ⟨fun _ => hQ T fT (fun i j i1 i2 j1 j2 x1 x2 => p i j (by omega) i2 j1 j2 x1 x2) p3, fun z => absurd (sub1_lt (Nat.zero_le sA) (by omega)) z⟩
    | succ m ih =>
      intro h1 h2 T fT r p p3
      by_cases hm : m < sA
      · refine bl_X0_compareParts_21 hG t t' _ _ _ _ _ T ⟨fun _ => hQ T fT (fun i j i1 i2 j1 j2 x1 x2 => p i j (by omega) i2 j1 j2 x1 x2) p3, fun z => absurd (sub1_lt (by omega) (by omega)) z⟩
      · rw [nI_pred]
        refine bl_X0_compareParts_21 hG t t' _ _ _ _ _ T ⟨fun z => absurd z (nI_nlt (by omega) (by omega)), fun _ => ?_⟩
        have := inner m (by omega) (by omega) (fun T1 f1 r1 p1 p3' => ih (k + 1) (by omega) (by omega) T1 f1 r1 p1 p3') (eB sB + 1) (by omega) (by omega) T fT (fun i j i1 i2 j1 j2 => r i j (by omega) i2 j1 j2) (fun j j1 j2 => by omega) (fun i j i1 i2 j1 j2 x1 x2 => p i j (by omega) i2 j1 j2 x1 x2) (fun j j1 i2 j2 x1 x2 => by omega) p3
        rw [nI_pred] at this
        exact this
  have := outer 0 (eA sA + 1) (by omega) (by omega) S (fun _ _ _ _ => rfl) (fun i j i1 i2 => by omega) (fun i j i1 i2 => by omega) (fun _ _ _ => rfl)
  rw [nI_pred] at this
  exact this
