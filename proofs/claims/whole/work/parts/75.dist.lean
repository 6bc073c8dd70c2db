/-! The distance of two sets of nodes: the least cost of a mapping. -/
def MpR (an an' : Nat → Nat → Prop) (p q : Nat × Nat) : Prop := p.1 < q.1 ∧ p.2 < q.2 ∧ (an p.1 q.1 ↔ an' p.2 q.2)
def Mp (an an' : Nat → Nat → Prop) (X Y : Nat → Prop) (M : List (Nat × Nat)) : Prop := M.Pairwise (MpR an an') ∧ ∀ p, p ∈ M → X p.1 ∧ Y p.2
def gn (la lb : Nat → Int32) (p : Nat × Nat) : Nat := if la p.1 = lb p.2 then 2 else 1
def vl (la lb : Nat → Int32) : List (Nat × Nat) → Nat
  | [] => 0
  | p :: M => gn la lb p + vl la lb M
theorem vl_app {la lb : Nat → Int32} : ∀ (L M : List (Nat × Nat)), vl la lb (L ++ M) = vl la lb L + vl la lb M
  | [], M => (Nat.zero_add _).symm
  | p :: L, M => by
    show gn la lb p + vl la lb (L ++ M) = gn la lb p + vl la lb L + vl la lb M
    rw [vl_app L M, Nat.add_assoc]
theorem vl_fil {la lb : Nat → Int32} (f : Nat × Nat → Bool) : ∀ L : List (Nat × Nat), vl la lb L = vl la lb (L.filter f) + vl la lb (L.filter (fun p => !f p))
  | [] => rfl
  | p :: L => by
    have ih := vl_fil (la := la) (lb := lb) f L
    by_cases h : f p = true
    · rw [List.filter_cons_of_pos h, List.filter_cons_of_neg (by simp [h])]
      show gn la lb p + vl la lb L = gn la lb p + vl la lb (L.filter f) + _
      omega
    · rw [List.filter_cons_of_neg h, List.filter_cons_of_pos (by simp [h])]
      show gn la lb p + vl la lb L = _ + (gn la lb p + vl la lb (L.filter (fun p => !f p)))
      omega
theorem Mp.mono {an an' : Nat → Nat → Prop} {X Y X' Y' : Nat → Prop} {M : List (Nat × Nat)} (h : Mp an an' X Y M) (h' : ∀ p, p ∈ M → X' p.1 ∧ Y' p.2) : Mp an an' X' Y' M := ⟨h.1, h'⟩
theorem Mp.fil {an an' : Nat → Nat → Prop} {X Y X' Y' : Nat → Prop} {M : List (Nat × Nat)} (h : Mp an an' X Y M) (f : Nat × Nat → Bool) (h' : ∀ p, p ∈ M → f p = true → X' p.1 ∧ Y' p.2) : Mp an an' X' Y' (M.filter f) := ⟨h.1.filter f, fun p hp => h' p (List.mem_filter.mp hp).1 (List.mem_filter.mp hp).2⟩
def Ds (an an' : Nat → Nat → Prop) (la lb : Nat → Int32) (X : Nat → Prop) (sx : Nat) (Y : Nat → Prop) (sy d : Nat) : Prop := (∃ M, Mp an an' X Y M ∧ vl la lb M + d = sx + sy) ∧ ∀ M, Mp an an' X Y M → vl la lb M + d ≤ sx + sy
theorem Ds.one {an an' : Nat → Nat → Prop} {la lb : Nat → Int32} {X Y : Nat → Prop} {sx sy d d' : Nat} (h : Ds an an' la lb X sx Y sy d) (h' : Ds an an' la lb X sx Y sy d') : d = d' := by
  obtain ⟨⟨M, m1, m2⟩, b⟩ := h
  obtain ⟨⟨M', m1', m2'⟩, b'⟩ := h'
  have := b M' m1'
  have := b' M m1
  omega
theorem Ds.cg {an an' : Nat → Nat → Prop} {la lb : Nat → Int32} {X Y X' Y' : Nat → Prop} {sx sy d : Nat} (h : Ds an an' la lb X sx Y sy d) (hx : ∀ a, X a ↔ X' a) (hy : ∀ a, Y a ↔ Y' a) : Ds an an' la lb X' sx Y' sy d := by
  obtain ⟨⟨M, m1, m2⟩, b⟩ := h
  exact ⟨⟨M, m1.mono (fun p hp => ⟨(hx _).mp (m1.2 p hp).1, (hy _).mp (m1.2 p hp).2⟩), m2⟩, fun M' h' => b M' (h'.mono (fun p hp => ⟨(hx _).mpr (h'.2 p hp).1, (hy _).mpr (h'.2 p hp).2⟩))⟩
theorem Ds.nil {an an' : Nat → Nat → Prop} {la lb : Nat → Int32} {X Y : Nat → Prop} {sx sy : Nat} (h : (∀ a, ¬ X a) ∨ ∀ a, ¬ Y a) : Ds an an' la lb X sx Y sy (sx + sy) := by
  refine ⟨⟨[], ⟨List.Pairwise.nil, fun p hp => absurd hp List.not_mem_nil⟩, Nat.zero_add _⟩, fun M hM => ?_⟩
  have : M = [] := by
    rcases M with _ | ⟨p, M⟩
    · rfl
    · have := hM.2 p List.mem_cons_self
      rcases h with h | h
      · exact absurd this.1 (h _)
      · exact absurd this.2 (h _)
  subst this
  show 0 + _ ≤ _
  omega
theorem vl_one {la lb : Nat → Int32} {an an' : Nat → Nat → Prop} {r r' : Nat} {L : List (Nat × Nat)} (hp : L.Pairwise (MpR an an')) (h : ∀ p, p ∈ L → p.1 = r ∧ p.2 = r') : vl la lb L ≤ gn la lb (r, r') := by
  rcases L with _ | ⟨p, L⟩
  · exact Nat.zero_le _
  · rcases L with _ | ⟨q, L⟩
    · have := h p List.mem_cons_self
      have e : p = (r, r') := Prod.ext this.1 this.2
      subst e
      show gn la lb (r, r') + 0 ≤ _
      omega
    · have a := h p List.mem_cons_self
      have b := h q (List.mem_cons_of_mem _ List.mem_cons_self)
      have := (List.pairwise_cons.mp hp).1 q List.mem_cons_self
      have := this.1
      omega
def chg (la lb : Nat → Int32) (r r' : Nat) : Nat := if la r = lb r' then 0 else 1
theorem gn_ch {la lb : Nat → Int32} {r r' : Nat} : gn la lb (r, r') + chg la lb r r' = 2 := by
  unfold gn chg
  by_cases h : la r = lb r'
  · rw [if_pos h, if_pos h]
  · rw [if_neg h, if_neg h]
theorem min3 (a b c : Nat) : min (min a b + 1) c = a + 1 ∨ min (min a b + 1) c = b + 1 ∨ min (min a b + 1) c = c := by omega
/-- two whole parts -/
theorem Ds.span {an an' : Nat → Nat → Prop} {la lb : Nat → Int32} {X Y X' Y' : Nat → Prop} {sx sy d1 d2 d3 r r' : Nat} (hX : ∀ a, X a ↔ a = r ∨ X' a) (hY : ∀ b, Y b ↔ b = r' ∨ Y' b) (hr : ∀ a, X' a → r < a ∧ an r a) (hr' : ∀ b, Y' b → r' < b ∧ an' r' b)
    (h1 : Ds an an' la lb X' sx Y (sy + 1) d1) (h2 : Ds an an' la lb X (sx + 1) Y' sy d2) (h3 : Ds an an' la lb X' sx Y' sy d3) : Ds an an' la lb X (sx + 1) Y (sy + 1) (min (min d1 d2 + 1) (d3 + chg la lb r r')) := by
  refine ⟨?_, fun M hM => ?_⟩
  · rcases min3 d1 d2 (d3 + chg la lb r r') with e | e | e
    · obtain ⟨⟨M, m1, m2⟩, _⟩ := h1
      exact ⟨M, m1.mono (fun p hp => ⟨(hX _).mpr (Or.inr (m1.2 p hp).1), (m1.2 p hp).2⟩), by omega⟩
    · obtain ⟨⟨M, m1, m2⟩, _⟩ := h2
      exact ⟨M, m1.mono (fun p hp => ⟨(m1.2 p hp).1, (hY _).mpr (Or.inr (m1.2 p hp).2)⟩), by omega⟩
    · obtain ⟨⟨M, m1, m2⟩, _⟩ := h3
      refine ⟨(r, r') :: M, ⟨List.pairwise_cons.mpr ⟨fun q hq => ?_, m1.1⟩, fun p hp => ?_⟩, ?_⟩
      · obtain ⟨x1, x2⟩ := m1.2 q hq
        exact ⟨(hr _ x1).1, (hr' _ x2).1, fun _ => (hr' _ x2).2, fun _ => (hr _ x1).2⟩
      · rcases List.mem_cons.mp hp with q | q
        · subst q; exact ⟨(hX _).mpr (Or.inl rfl), (hY _).mpr (Or.inl rfl)⟩
        · exact ⟨(hX _).mpr (Or.inr (m1.2 p q).1), (hY _).mpr (Or.inr (m1.2 p q).2)⟩
      · have := gn_ch (la := la) (lb := lb) (r := r) (r' := r')
        show gn la lb (r, r') + vl la lb M + _ = _
        omega
  · by_cases c1 : ∃ b, (r, b) ∈ M
    · by_cases c2 : ∃ a, (a, r') ∈ M
      · -- both are matched: with each other
        obtain ⟨b, hb⟩ := c1
        obtain ⟨a, ha⟩ := c2
        have cmp : ∀ p q, p ∈ M → q ∈ M → p = q ∨ MpR an an' p q ∨ MpR an an' q p := by
          intro p q hp hq
          have : ∀ L : List (Nat × Nat), L.Pairwise (MpR an an') → p ∈ L → q ∈ L → p = q ∨ MpR an an' p q ∨ MpR an an' q p := by
            intro L
            induction L with
            | nil => intro _ h; exact absurd h List.not_mem_nil
            | cons x L ih =>
              intro hP h1 h2
              obtain ⟨k1, k2⟩ := List.pairwise_cons.mp hP
              rcases List.mem_cons.mp h1 with e1 | e1 <;> rcases List.mem_cons.mp h2 with e2 | e2
              · exact Or.inl (e1.trans e2.symm)
              · subst e1; exact Or.inr (Or.inl (k1 q e2))
              · subst e2; exact Or.inr (Or.inr (k1 p e1))
              · exact ih k2 e1 e2
          exact this M hM.1 hp hq
        have lX : ∀ p, p ∈ M → r ≤ p.1 := fun p hp => by
          rcases (hX _).mp (hM.2 p hp).1 with e | e
          · omega
          · have := (hr _ e).1; omega
        have lY : ∀ p, p ∈ M → r' ≤ p.2 := fun p hp => by
          rcases (hY _).mp (hM.2 p hp).2 with e | e
          · omega
          · have := (hr' _ e).1; omega
        have rr : ∀ p, p ∈ M → (p.1 = r ↔ p.2 = r') := fun p hp => by
          constructor
          · intro e
            rcases cmp p (a, r') hp ha with z | z | z
            · rw [z]
            · have z1 : p.2 < r' := z.2.1; have z2 := lY p hp; omega
            · have z1 : a < p.1 := z.1; have z2 : r ≤ a := lX _ ha; omega
          · intro e
            rcases cmp p (r, b) hp hb with z | z | z
            · rw [z]
            · have z1 : p.1 < r := z.1; have z2 := lX p hp; omega
            · have z1 : b < p.2 := z.2.1; have z2 : r' ≤ b := lY _ hb; omega
        have hs := vl_fil (la := la) (lb := lb) (fun p => decide (p.1 = r)) M
        have v1 : vl la lb (M.filter (fun p => decide (p.1 = r))) ≤ gn la lb (r, r') := vl_one (hM.1.filter _) (fun p hp => by
          obtain ⟨z1, z2⟩ := List.mem_filter.mp hp
          have z2' : p.1 = r := by simpa using z2
          exact ⟨z2', (rr p z1).mp z2'⟩)
        have v2 := h3.2 _ (hM.fil (X' := X') (Y' := Y') (fun p => !decide (p.1 = r)) (fun p hp hf => by
          have hf' : p.1 ≠ r := by simpa using hf
          exact ⟨((hX _).mp (hM.2 p hp).1).resolve_left hf', ((hY _).mp (hM.2 p hp).2).resolve_left (fun e => hf' ((rr p hp).mpr e))⟩))
        have := gn_ch (la := la) (lb := lb) (r := r) (r' := r')
        omega
      · have := h2.2 M (hM.mono (fun p hp => ⟨(hM.2 p hp).1, ((hY _).mp (hM.2 p hp).2).resolve_left (fun e => c2 ⟨p.1, by rw [← e]; exact hp⟩)⟩))
        omega
    · have := h1.2 M (hM.mono (fun p hp => ⟨((hX _).mp (hM.2 p hp).1).resolve_left (fun e => c1 ⟨p.2, by rw [← e]; exact hp⟩), (hM.2 p hp).2⟩))
      omega
theorem Mp.cmp {an an' : Nat → Nat → Prop} {X Y : Nat → Prop} {M : List (Nat × Nat)} (hM : Mp an an' X Y M) {p q : Nat × Nat} (hp : p ∈ M) (hq : q ∈ M) : p = q ∨ MpR an an' p q ∨ MpR an an' q p := by
  have : ∀ L : List (Nat × Nat), L.Pairwise (MpR an an') → p ∈ L → q ∈ L → p = q ∨ MpR an an' p q ∨ MpR an an' q p := by
    intro L
    induction L with
    | nil => intro _ h; exact absurd h List.not_mem_nil
    | cons x L ih =>
      intro hP h1 h2
      obtain ⟨k1, k2⟩ := List.pairwise_cons.mp hP
      rcases List.mem_cons.mp h1 with e1 | e1 <;> rcases List.mem_cons.mp h2 with e2 | e2
      · exact Or.inl (e1.trans e2.symm)
      · subst e1; exact Or.inr (Or.inl (k1 q e2))
      · subst e2; exact Or.inr (Or.inr (k1 p e1))
      · exact ih k2 e1 e2
  exact this M hM.1 hp hq
/-- the sets fall into the parts of r and r', and the rest -/
theorem Ds.split {an an' : Nat → Nat → Prop} {la lb : Nat → Int32} {X Y X' Y' T T' R R' : Nat → Prop} {sx sy st st' sr sr' d1 d2 d3 d4 r r' : Nat} (hX : ∀ a, X a ↔ a = r ∨ X' a) (hY : ∀ b, Y b ↔ b = r' ∨ Y' b) (hT : ∀ a, X a ↔ T a ∨ R a) (hT' : ∀ b, Y b ↔ T' b ∨ R' b) (es : sx + 1 = st + sr) (es' : sy + 1 = st' + sr')
    (force : ∀ M, Mp an an' X Y M → (∃ b, (r, b) ∈ M) → (∃ a, (a, r') ∈ M) → ∀ p, p ∈ M → (T p.1 ∧ T' p.2) ∨ (R p.1 ∧ R' p.2))
    (join : ((∀ a a', T a → R a' → a < a' ∧ ¬ an a a') ∧ (∀ b b', T' b → R' b' → b < b' ∧ ¬ an' b b')) ∨ ((∀ a a', T a → R a' → a' < a ∧ ¬ an a' a) ∧ (∀ b b', T' b → R' b' → b' < b ∧ ¬ an' b' b)))
    (h1 : Ds an an' la lb X' sx Y (sy + 1) d1) (h2 : Ds an an' la lb X (sx + 1) Y' sy d2) (h3 : Ds an an' la lb T st T' st' d3) (h4 : Ds an an' la lb R sr R' sr' d4) : Ds an an' la lb X (sx + 1) Y (sy + 1) (min (min d1 d2 + 1) (d4 + d3)) := by
  classical
  refine ⟨?_, fun M hM => ?_⟩
  · rcases min3 d1 d2 (d4 + d3) with e | e | e
    · obtain ⟨⟨M, m1, m2⟩, _⟩ := h1
      exact ⟨M, m1.mono (fun p hp => ⟨(hX _).mpr (Or.inr (m1.2 p hp).1), (m1.2 p hp).2⟩), by omega⟩
    · obtain ⟨⟨M, m1, m2⟩, _⟩ := h2
      exact ⟨M, m1.mono (fun p hp => ⟨(m1.2 p hp).1, (hY _).mpr (Or.inr (m1.2 p hp).2)⟩), by omega⟩
    · obtain ⟨⟨M, m1, m2⟩, _⟩ := h3
      obtain ⟨⟨N, n1, n2⟩, _⟩ := h4
      rcases join with ⟨j1, j2⟩ | ⟨j1, j2⟩
      · refine ⟨M ++ N, ⟨List.pairwise_append.mpr ⟨m1.1, n1.1, fun p hp q hq => ?_⟩, fun p hp => ?_⟩, by rw [vl_app]; omega⟩
        · obtain ⟨x1, x2⟩ := m1.2 p hp
          obtain ⟨y1, y2⟩ := n1.2 q hq
          exact ⟨(j1 _ _ x1 y1).1, (j2 _ _ x2 y2).1, fun z => absurd z (j1 _ _ x1 y1).2, fun z => absurd z (j2 _ _ x2 y2).2⟩
        · rcases List.mem_append.mp hp with q | q
          · exact ⟨(hT _).mpr (Or.inl (m1.2 p q).1), (hT' _).mpr (Or.inl (m1.2 p q).2)⟩
          · exact ⟨(hT _).mpr (Or.inr (n1.2 p q).1), (hT' _).mpr (Or.inr (n1.2 p q).2)⟩
      · refine ⟨N ++ M, ⟨List.pairwise_append.mpr ⟨n1.1, m1.1, fun p hp q hq => ?_⟩, fun p hp => ?_⟩, by rw [vl_app]; omega⟩
        · obtain ⟨x1, x2⟩ := m1.2 q hq
          obtain ⟨y1, y2⟩ := n1.2 p hp
          exact ⟨(j1 _ _ x1 y1).1, (j2 _ _ x2 y2).1, fun z => absurd z (j1 _ _ x1 y1).2, fun z => absurd z (j2 _ _ x2 y2).2⟩
        · rcases List.mem_append.mp hp with q | q
          · exact ⟨(hT _).mpr (Or.inr (n1.2 p q).1), (hT' _).mpr (Or.inr (n1.2 p q).2)⟩
          · exact ⟨(hT _).mpr (Or.inl (m1.2 p q).1), (hT' _).mpr (Or.inl (m1.2 p q).2)⟩
  · by_cases c1 : ∃ b, (r, b) ∈ M
    · by_cases c2 : ∃ a, (a, r') ∈ M
      · have hf := force M hM c1 c2
        have hs := vl_fil (la := la) (lb := lb) (fun p => decide (T p.1 ∧ T' p.2)) M
        have v1 := h3.2 _ (hM.fil (X' := T) (Y' := T') (fun p => decide (T p.1 ∧ T' p.2)) (fun p _ hf => by simpa using hf))
        have v2 := h4.2 _ (hM.fil (X' := R) (Y' := R') (fun p => !decide (T p.1 ∧ T' p.2)) (fun p hp hn => (hf p hp).resolve_left (fun z => by rw [decide_eq_true z] at hn; exact absurd hn (by decide))))
        omega
      · have := h2.2 M (hM.mono (fun p hp => ⟨(hM.2 p hp).1, ((hY _).mp (hM.2 p hp).2).resolve_left (fun e => c2 ⟨p.1, by rw [← e]; exact hp⟩)⟩))
        omega
    · have := h1.2 M (hM.mono (fun p hp => ⟨((hX _).mp (hM.2 p hp).1).resolve_left (fun e => c1 ⟨p.2, by rw [← e]; exact hp⟩), (hM.2 p hp).2⟩))
      omega
