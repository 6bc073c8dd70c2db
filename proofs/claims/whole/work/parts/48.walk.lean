/-! The model's walk finds the row. -/
theorem ck_kth {pp : Nat → Nat} {s k : Nat} : ∀ n, k < ck pp s n → ∃ a, 0 < a ∧ a < n ∧ pp a = s ∧ ck pp s a = k
  | 0, h => absurd h (Nat.not_lt_zero k)
  | n + 1, h => by
    by_cases c : 0 < n ∧ pp n = s
    · rw [ck_yes c.1 c.2] at h
      by_cases d : k = ck pp s n
      · exact ⟨n, c.1, Nat.lt_succ_self n, c.2, d.symm⟩
      · obtain ⟨a, h1, h2, h3, h4⟩ := ck_kth (pp := pp) (s := s) (k := k) n (by omega)
        exact ⟨a, h1, by omega, h3, h4⟩
    · rw [ck_no c] at h
      obtain ⟨a, h1, h2, h3, h4⟩ := ck_kth n h
      exact ⟨a, h1, by omega, h3, h4⟩
/-- behind a child's part the next child begins, or the parent's part has ended -/
theorem kid_next {n : Nat} {pp : Nat → Nat} {s a e e' : Nat} (hL : Lp n pp) (a0 : 0 < a) (ha : a < n) (hp : pp a = s) (he : En n pp a e) (he' : En n pp s e') : (e < n ∧ pp e = s ∧ ck pp s e = ck pp s a + 1) ∨ (e = e' ∧ ck pp s n = ck pp s a + 1) := by
  have hpa := hL.1 a a0 ha
  have hsa : s < a := by omega
  have hae' : a < e' := by
    rcases Nat.lt_or_ge a e' with q | q
    · exact q
    · have := En_out hL he' q ha
      have := he'.1
      omega
  have hle := En_le hL he' he (by omega) hae'
  have hck : ck pp s e = ck pp s a + 1 := by
    rw [ck_same (a := a + 1) e (by have := he.1; omega) (fun j q1 q2 q3 => by have := he.2.2.1 j (by omega) q2; omega), ck_yes a0 hp]
  rcases Nat.lt_or_ge e e' with q | q
  · left
    have hen : e < n := by have := he'.2.1; omega
    have h1 : pp e < a := by have := he.2.2.2; omega
    have h2 := hL.2 a e a0 he.1 hen h1
    have h3 := he'.2.2.1 e (by have := he.1; omega) q
    exact ⟨hen, by omega, hck⟩
  · right
    have ee : e = e' := by omega
    exact ⟨ee, by rw [ck_end hL he', ← ee, hck]⟩
theorem kid_first {n : Nat} {pp : Nat → Nat} {s e : Nat} (hL : Lp n pp) (hs : s < n) (he : En n pp s e) : (ck pp s n = 0 → e = s + 1) ∧ ∀ a, 0 < a → a < n → pp a = s → ck pp s a = 0 → a = s + 1 := by
  have h1 := he.1
  have h2 := he.2.1
  constructor
  · intro h
    rcases Nat.lt_or_ge (s + 1) e with q | q
    · exfalso
      have h3 := he.2.2.1 (s + 1) (by omega) q
      have h4 := hL.1 (s + 1) (by omega) (by omega)
      have h5 := ck_yes (pp := pp) (s := s) (i := s + 1) (by omega) (by omega)
      have h6 := ck_mono (pp := pp) (s := s) (a := s + 1 + 1) n (by omega)
      omega
    · omega
  · intro a a0 ha hp hk
    have hpa := hL.1 a a0 ha
    rcases Nat.lt_or_ge (s + 1) a with q | q
    · exfalso
      have h3 : s ≤ pp (s + 1) := by
        have := hL.2 (s + 1) a (by omega) q ha (by omega)
        omega
      have h4 := hL.1 (s + 1) (by omega) (by omega)
      have h5 := ck_yes (pp := pp) (s := s) (i := s + 1) (by omega) (by omega)
      have h6 := ck_mono (pp := pp) (s := s) (a := s + 1 + 1) a (by omega)
      omega
    · omega
/-- the stack: each one's part ends where the next one below begins -/
def Ch (n : Nat) (pp : Nat → Nat) (q : Nat → Nat) : Nat → Nat → Prop
  | 0, x => x = n
  | T + 1, x => q T = x ∧ x < n ∧ ∃ y, En n pp x y ∧ Ch n pp q T y
theorem Ch_le {n : Nat} {pp q : Nat → Nat} : ∀ T x, Ch n pp q T x → T + x ≤ n
  | 0, x, h => by have : x = n := h; omega
  | T + 1, x, h => by
    obtain ⟨-, h2, y, hy, hc⟩ := h
    have := Ch_le T y hc
    have := hy.1
    omega
theorem Ch_congr {n : Nat} {pp q q' : Nat → Nat} : ∀ T x, (∀ j, j < T → q' j = q j) → Ch n pp q T x → Ch n pp q' T x
  | 0, _, _, h => h
  | T + 1, x, hq, h => by
    obtain ⟨h1, h2, y, hy, hc⟩ := h
    exact ⟨by rw [hq T (by omega)]; exact h1, h2, y, hy, Ch_congr T y (fun j hj => hq j (by omega)) hc⟩
theorem i_sub1 (x : Int32) : x + -1 = x - 1 := by rw [Int32.sub_eq_add_neg]
/-- what walk leaves alone -/
def OffW (S S' : ab_S) : Prop := (∀ a b, ((a ≠ 21 ∧ a ≠ 34 ∧ a ≠ 35) ∨ b ≠ 0) → S' a b = S a b) ∧ ∀ f, f ≠ 18 → f ≠ 21 → S' 21 0 f = S 21 0 f
theorem OffW.tm {S S' : ab_S} {u n : Nat} {o pp : Nat → Nat} {lb : Nat → Int32} (h : OffW S S') (hT : TM S u n o pp lb) : TM S' u n o pp lb := by
  unfold TM
  rw [h.1 22 0 (Or.inl (by decide)), h.1 23 0 (Or.inl (by decide)), h.1 24 0 (Or.inl (by decide)), h.1 25 0 (Or.inl (by decide))]
  exact hT
theorem sp_m_walk {Q : ab_Po} {S : ab_S} {u n : Nat} {o pp : Nat → Nat} {lb : Nat → Int32} (hS : Sh n o pp) (hT : TM S u n o pp lb) (hu : u < 14)
    (hQ : ∀ S', OffW S S' → S' 21 0 18 = nI n → (∀ j, j < n → S' 34 0 j = nI (o j)) → Q (.inl none) S') : Sp_X6_walk [.inr (21, 0), .inl (nI u)] S Q := by
  refine ⟨Nat.le_of_ble_eq_true rfl, fun G hG => ?_⟩
  have hn := hS.2.1
  have hL := hS.2.2.2.2.2
  refine bl_X6_walk_0 hG _ S (fun S1 e1 => ⟨pk_in 0 24 (by omega), fun S2 e2 S3 e3 => ?_⟩)
  -- the loop
  have key : ∀ m, m ≤ n → ∀ (T : Nat) (q : Nat → Nat) (S1 : ab_S), OffW S S1 → S1 21 0 18 = nI m → S1 21 0 21 = nI T → (∀ j, j < m → S1 34 0 j = nI (o j)) → (∀ j, j < T → S1 35 0 j = nI (o (q j))) → Ch n pp q T m → G 17 [some (.inr (21, 0)), some (.inl (nI u)), none, none] [] S1 0 := by
    refine ind_up _ ?_ ?_
    · intro T q S1 w1 w2 w3 w4 w5 w6
      have hT0 := Ch_le T n w6
      refine bl_X6_walk_17 hG _ S1 ?_
      rw [w3]
      exact pk_le T 0 (fun _ => hQ S1 w1 w2 w4) (fun h => by omega)
    · intro m hm ih T q S1 w1 w2 w3 w4 w5 w6
      have hTl := Ch_le T m w6
      match T, w6, w3, w5, hTl with
      | 0, w6, _, _, _ =>
        have : m = n := w6
        omega
      | T + 1, w6, w3, w5, hTl =>
        obtain ⟨q1, -, y, hy, hc⟩ := w6
        refine bl_X6_walk_17 hG _ S1 ?_
        rw [w3]
        refine pk_le (T + 1) 0 (fun h => by omega) (fun _ => ?_)
        rw [nI_pred]
        intro S2 e2
        have a18 : S2 21 0 18 = nI m := by rw [e2, su_j (by decide)]; exact w2
        have a21 : S2 21 0 21 = nI T := by rw [e2, su_at]
        have a35 : S2 35 0 = S1 35 0 := by rw [e2]; exact su_o (Or.inl (by decide))
        have om := hS.2.2.2.1 m hm
        rw [a18, a21, a35, nI_clamp (show T < 2 ^ 31 by omega), nI_clamp (show m < 2 ^ 31 by omega), w5 T (by omega), q1]
        refine ⟨vp_in_nI (by omega) (by decide), vp_in_nI (by omega) (by decide), ?_⟩
        intro S3 e3
        have b18 : S3 21 0 18 = nI m := by rw [e3, su_o (Or.inl (by decide))]; exact a18
        rw [b18, nI_1]
        intro S4 e4
        have o4 : OffW S S4 := by
          refine ⟨fun a b z => ?_, fun f f1 f2 => ?_⟩
          · rw [e4, su_o (by omega), e3, su_o (by omega), e2, su_o (by omega)]; exact w1.1 a b z
          · rw [e4, su_j f1, e3, su_o (Or.inl (by decide)), e2, su_j f2]; exact w1.2 f f1 f2
        have c18 : S4 21 0 18 = nI (m + 1) := by rw [e4, su_at]
        have c21 : S4 21 0 21 = nI T := by rw [e4, su_j (by decide), e3, su_o (Or.inl (by decide))]; exact a21
        have c34 : ∀ j, j < m + 1 → S4 34 0 j = nI (o j) := fun j hj => by
          rw [e4, su_o (Or.inl (by decide)), e3]
          by_cases ej : j = m
          · subst ej; rw [su_at]
          · rw [su_j ej, e2, su_o (Or.inl (by decide))]; exact w4 j (by omega)
        have c35 : ∀ j, j < T → S4 35 0 j = nI (o (q j)) := fun j hj => by
          rw [e4, su_o (Or.inl (by decide)), e3, su_o (Or.inl (by decide)), a35]; exact w5 j (by omega)
        refine sp_m_children hS (o4.tm hT) hu hm ?_
        refine bl_X6_walk_70 hG _ _ _ S4 ?_
        -- pushing the children, the last one first
        have push : ∀ k, k ≤ ck pp m n → ∀ (T' : Nat) (q' : Nat → Nat) (x : Nat) (S5 : ab_S), OffW S S5 → S5 21 0 18 = nI (m + 1) → S5 21 0 21 = nI T' → (∀ j, j < m + 1 → S5 34 0 j = nI (o j)) → (∀ j, j < T' → S5 35 0 j = nI (o (q' j))) → Ch n pp q' T' x → ((k = ck pp m n ∧ x = y) ∨ (0 < x ∧ x < n ∧ pp x = m ∧ ck pp m x = k)) → G 73 [some (.inr (21, 0)), some (.inl (nI u)), some (.inl (nI (o m))), some (.inl (nI k - 1))] [] S5 0 := by
          intro k
          induction k with
          | zero =>
            intro hk T' q' x S5 d1 d2 d3 d4 d5 d6 d7
            refine bl_X6_walk_73 hG _ _ _ S5 ⟨fun _ => ?_, fun h => absurd (by decide) h⟩
            have hx : x = m + 1 := by
              rcases d7 with ⟨z1, z2⟩ | ⟨z1, z2, z3, z4⟩
              · rw [z2]; exact (kid_first hL hm hy).1 z1.symm
              · exact (kid_first hL hm hy).2 x z1 z2 z3 z4
            subst hx
            exact ih T' q' S5 d1 d2 d3 d4 d5 d6
          | succ k ihk =>
            intro hk T' q' x S5 d1 d2 d3 d4 d5 d6 d7
            obtain ⟨a, a0, ha, hpa, hka⟩ := ck_kth (pp := pp) (s := m) (k := k) n (by omega)
            have hckn := ck_le (pp := pp) (s := m) n
            have hT' := Ch_le T' x d6
            obtain ⟨e, he⟩ := En_ex (pp := pp) ha
            have hex : e = x := by
              rcases kid_next hL a0 ha hpa he hy with ⟨z1, z2, z3⟩ | ⟨z1, z2⟩
              · rcases d7 with ⟨y1, y2⟩ | ⟨y1, y2, y3, y4⟩
                · exfalso
                  have := ck_inj (pp := pp) (s := m) (i := e) (j := n) (by have := he.1; omega) z1 z2
                  omega
                · rcases Nat.lt_trichotomy e x with w | w | w
                  · have := ck_inj (pp := pp) (s := m) (i := e) (j := x) (by have := he.1; omega) w z2; omega
                  · exact w
                  · have := ck_inj (pp := pp) (s := m) (i := x) (j := e) y1 w y3; omega
              · rcases d7 with ⟨y1, y2⟩ | ⟨y1, y2, y3, y4⟩
                · rw [y2]; exact z1
                · exfalso
                  have := ck_inj (pp := pp) (s := m) (i := x) (j := n) y1 y2 y3
                  omega
            rw [hex] at he
            have hax : a < x := he.1
            refine bl_X6_walk_73 hG _ _ _ S5 ?_
            rw [nI_pred]
            refine ⟨fun h => absurd h (nI_pos (by omega)), fun _ => ?_⟩
            rw [← hka]
            refine sp_m_childAt hS (d1.tm hT) hu hm a0 ha hpa ?_
            refine bl_X6_walk_92 hG _ _ _ _ _ S5 ?_
            rw [d3, nI_clamp (show T' < 2 ^ 31 by omega), i_sub1]
            refine ⟨vp_in_nI (by omega) (by decide), fun S6 e6 S7 e7 => ?_⟩
            rw [hka]
            have f21 : S6 21 0 = S5 21 0 := by rw [e6]; exact su_o (Or.inl (by decide))
            rw [f21, d3, nI_1] at e7
            refine ihk (by omega) (T' + 1) (fun j => if j = T' then a else q' j) a S7 ⟨fun z1 z2 z => ?_, fun f f1 f2 => ?_⟩ ?_ ?_ (fun j hj => ?_) (fun j hj => ?_) ⟨if_pos rfl, ha, x, he, Ch_congr T' x (fun j hj => if_neg (by omega)) d6⟩ (Or.inr ⟨a0, ha, hpa, hka⟩)
            · rw [e7, su_o (by omega), e6, su_o (by omega)]; exact d1.1 z1 z2 z
            · rw [e7, su_j f2, f21]; exact d1.2 f f1 f2
            · rw [e7, su_j (by decide), f21]; exact d2
            · rw [e7, su_at]
            · rw [e7, su_o (Or.inl (by decide)), e6, su_o (Or.inl (by decide))]; exact d4 j hj
            · rw [e7, su_o (Or.inl (by decide)), e6]
              show _ = nI (o (if j = T' then a else q' j))
              by_cases ej : j = T'
              · subst ej; rw [su_at, if_pos rfl]
              · rw [su_j ej, if_neg ej]; exact d5 j (by omega)
        exact push _ (Nat.le_refl _) T q y S4 o4 c18 c21 c34 c35 hc (Or.inl ⟨rfl, rfl⟩)
  have o3 : OffW S S3 := by
    refine ⟨fun a b z => ?_, fun f f1 f2 => ?_⟩
    · rw [e3, su_o (by omega), e2, su_o (by omega), e1, su_o (by omega)]
    · rw [e3, su_j f2, e2, su_o (Or.inl (by decide)), e1, su_j f1]
  refine key 0 (by omega) 1 (fun _ => 0) S3 o3 ?_ ?_ (fun j hj => by omega) (fun j hj => ?_) ⟨rfl, hS.1, n, ⟨hS.1, Nat.le_refl _, fun j _ _ => Nat.zero_le _, Or.inl rfl⟩, rfl⟩
  · rw [e3, su_j (by decide), e2, su_o (Or.inl (by decide)), e1, su_at]; rfl
  · rw [e3, su_at]; rfl
  · have : j = 0 := by omega
    subst this
    rw [e3, su_o (Or.inl (by decide)), e2, sb_cl0, su_at, hS.2.2.1]; rfl
