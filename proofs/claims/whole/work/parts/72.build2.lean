/-! The model's build as a whole, and its merge. -/
def OffE (S S' : ab_S) : Prop := (∀ a b, (a < 22 ∨ 25 < a ∨ b ≠ 0) → S' a b = S a b) ∧ ∀ a j, j < 288 → S' a 0 j = S a 0 j
theorem MI.next {S : ab_S} {M : Nat → Nat} {C : Nat → Nat → Nat} {rl rp : Nat → Int32} {p : Nat} {c0 : Nat → Nat} (h : MI S M C rl rp p (M p) (C p)) (hr : rl p ≠ -2) : MI S M C rl rp (p + 1) 0 c0 := by
  have e : ∀ w, Plc M C rl (p + 1) 0 c0 w ↔ Plc M C rl p (M p) (C p) w := fun w => by
    unfold Plc
    constructor
    · rintro (⟨k, hk, _⟩ | ⟨p', hp', hr', z⟩)
      · omega
      · by_cases q : p' = p
        · subst q; exact Or.inl z
        · exact Or.inr ⟨p', by omega, hr', z⟩
    · rintro (z | ⟨p', hp', hr', z⟩)
      · exact Or.inr ⟨p, by omega, hr, z⟩
      · exact Or.inr ⟨p', by omega, hr', z⟩
  refine ⟨h.1, fun w w0 hw => ⟨fun y => (h.2.1 w w0 hw).1 ((e w).mp y), fun y => (h.2.1 w w0 hw).2 (fun z => y ((e w).mpr z))⟩, fun p' k hp' hr' hk => ?_, fun k hk => absurd hk (Nat.not_lt_zero k)⟩
  by_cases q : p' = p
  · subst q; exact h.2.2.2 k hk
  · exact h.2.2.1 p' k (by omega) hr' hk
theorem MI.skip {S : ab_S} {M : Nat → Nat} {C : Nat → Nat → Nat} {rl rp : Nat → Int32} {p : Nat} {c0 : Nat → Nat} (h : MI S M C rl rp p 0 c0) (hr : rl p = -2) : MI S M C rl rp (p + 1) 0 c0 := by
  have e : ∀ w, Plc M C rl (p + 1) 0 c0 w ↔ Plc M C rl p 0 c0 w := fun w => by
    unfold Plc
    constructor
    · rintro (z | ⟨p', hp', hr', z⟩)
      · exact Or.inl z
      · by_cases q : p' = p
        · subst q; exact absurd hr hr'
        · exact Or.inr ⟨p', by omega, hr', z⟩
    · rintro (z | ⟨p', hp', hr', z⟩)
      · exact Or.inl z
      · exact Or.inr ⟨p', by omega, hr', z⟩
  refine ⟨h.1, fun w w0 hw => ⟨fun y => (h.2.1 w w0 hw).1 ((e w).mp y), fun y => (h.2.1 w w0 hw).2 (fun z => y ((e w).mpr z))⟩, fun p' k hp' hr' hk => ?_, fun k hk => absurd hk (Nat.not_lt_zero k)⟩
  by_cases q : p' = p
  · subst q; exact absurd hr hr'
  · exact h.2.2.1 p' k (by omega) hr' hk
theorem MTd.offC13 {S S' : ab_S} {u made : Nat} {d : sD} (hk : Okd made d) (h : MTd S u d) (hu : u < 13) (ho : OffC S S' 13) : MTd S' u d := h.offC hk (by omega) ho
theorem OffB.c {S S' : ab_S} (h : OffB S S') : OffC S S' 13 := ⟨fun a b z => h.1 a b (by omega), fun a j z => h.2 a j z⟩
theorem OffC.tr {S S1 S2 : ab_S} {u : Nat} (h : OffC S S1 u) (h2 : OffC S1 S2 u) : OffC S S2 u := ⟨fun a b z => (h2.1 a b z).trans (h.1 a b z), fun a j z => (h2.2 a j z).trans (h.2 a j z)⟩
theorem sp_m_build {Q : ab_Po} {S : ab_S} {hO cT made n : Nat} {dO dT : sD} {po pt rl rp : Nat → Int32} {o pp : Nat → Nat} (kO : Okd made dO) (kT : Okd made dT) (hM : MD dO.1 dT.1 dO.2.1 dT.2.1 po pt) (pO : PPd dO po) (pT : PPd dT pt) (hh : S 21 0 10 = nI hO) (h12 : hO < 12) (c12 : cT < 12) (mO : MTd S hO dO) (mT : MTd S cT dT) (hs : StI S rl rp) (hrl : ∀ v, v < 24 → rl v = -2 → rp v = -2) (r0 : rp 0 = -1)
    (hS : Sh n o pp) (hst : ∀ a, a < n → rl (o a) ≠ -2) (hpar : ∀ a, 0 < a → a < n → rp (o a) = nI (o (pp a))) (hK : PK (Mq dO.1 dT.1 dO.2.1 dT.2.1 po pt rp) (Cq dO.1 dT.1 dO.2.1 dT.2.1 po pt rp) n n o pp) (hall : ∀ v, v < 24 → rl v ≠ -2 → ∃ a, a < n ∧ o a = v)
    (hok : ∀ a, a < n → o a < made ∧ ∃ c, c ≤ 5 ∧ rl (o a) = nI c)
    (hQ : ∀ S', OffE S S' → MTd S' 12 (n, o, pp, rl) → Q (.inl none) S') : Sp_X6_build [.inr (21, 0), .inl (nI cT)] S Q := by
  refine ⟨Nat.le_of_ble_eq_true rfl, fun G hG => ?_⟩
  refine bl_X6_build_0 hG _ S ?_
  -- the loop over the parents
  have loop : ∀ p, p ≤ 24 → ∀ S1 : ab_S, OffC S S1 13 → (∀ v, v < 24 → rl v ≠ -2 → S1 23 0 (24 * 13 + v) = rl v) → MI S1 (Mq dO.1 dT.1 dO.2.1 dT.2.1 po pt rp) (Cq dO.1 dT.1 dO.2.1 dT.2.1 po pt rp) rl rp p 0 (fun _ => 0) → G 86 [some (.inr (21, 0)), some (.inl (nI cT)), some (.inl (nI p))] [] S1 0 := by
    refine ind_up _ ?_ ?_
    · intro S1 f1 l1 I1
      refine bl_X6_build_86 hG _ _ S1 ⟨fun _ => ?_, fun z => absurd (by decide) z⟩
      have hT13 : MTd S1 13 (n, o, pp, rl) := by
        have plc : ∀ i, 0 < i → i < n → Plc (Mq dO.1 dT.1 dO.2.1 dT.2.1 po pt rp) (Cq dO.1 dT.1 dO.2.1 dT.2.1 po pt rp) rl 24 0 (fun _ => 0) (o i) ∧ S1 25 0 (24 * 13 + o i) = nI (ck pp (pp i) i) := fun i i0 hi => by
          have hpi := hS.2.2.2.2.2.1 i i0 hi
          obtain ⟨k1, k2⟩ := hK (pp i) (by omega)
          have e := k2 i i0 hi rfl
          have lt : ck pp (pp i) i < Mq dO.1 dT.1 dO.2.1 dT.2.1 po pt rp (o (pp i)) := by
            rw [← k1]
            have := ck_mono (pp := pp) (s := pp i) (a := i + 1) n (by omega)
            rw [ck_yes i0 rfl] at this
            omega
          have o1 := hS.2.2.2.1 (pp i) (by omega)
          refine ⟨Or.inr ⟨o (pp i), o1, hst _ (by omega), _, lt, e.symm⟩, ?_⟩
          have := I1.2.2.1 (o (pp i)) _ o1 (hst _ (by omega)) lt
          rw [← e] at this
          exact this
        refine ⟨fun i hi => ?_, ⟨I1.1.2.1, I1.1.2.2⟩, fun i i0 hi => ?_, fun v hv hno => ?_⟩
        · refine ⟨?_, l1 _ (hS.2.2.2.1 i hi) (hst i hi)⟩
          rcases Nat.eq_zero_or_pos i with q | q
          · subst q; show S1 22 0 (24 * 13 + o 0) = 1; rw [hS.2.2.1]; exact I1.1.1
          · have o0 : 0 < o i := by
              rcases Nat.eq_zero_or_pos (o i) with w | w
              · have := hS.2.2.2.2.1 i 0 hi hS.1 (w.trans hS.2.2.1.symm); omega
              · exact w
            exact ((I1.2.1 (o i) o0 (hS.2.2.2.1 i hi)).1 (plc i q hi).1).1
        · have o0 : 0 < o i := by
            rcases Nat.eq_zero_or_pos (o i) with w | w
            · have := hS.2.2.2.2.1 i 0 hi hS.1 (w.trans hS.2.2.1.symm); omega
            · exact w
          refine ⟨?_, (plc i i0 hi).2⟩
          show S1 24 0 (24 * 13 + o i) = nI (o (pp i))
          rw [((I1.2.1 (o i) o0 (hS.2.2.2.1 i hi)).1 (plc i i0 hi).1).2]
          exact hpar i i0 hi
        · have v0 : 0 < v := by
            rcases Nat.eq_zero_or_pos v with w | w
            · subst w; exact absurd hS.2.2.1 (hno 0 hS.1)
            · exact w
          refine (I1.2.1 v v0 hv).2 ?_
          rintro (⟨k, hk, _⟩ | ⟨p', hp', hr', k, hk, e⟩)
          · omega
          · have := ((Tq_ok (rp := rp) hM hp' dT.1 (Nat.le_refl _)).2.1 k hk).2.1
            have e' : (Tq (Oq dO.2.1 po rp p' dO.1) dT.2.1 po pt rp p' dT.1).2.1 k = v := e
            rw [e'] at this
            have hrv : rl v ≠ -2 := fun z => by rw [hrl v hv z] at this; exact nu_ne (by omega) (by decide) this.symm
            obtain ⟨a, ha, ea⟩ := hall v hv hrv
            exact hno a ha ea
      refine sp_m_copy (u := 13) (w := 12) (by decide) (by decide) (by decide) (fun S2 o2 cc => ?_)
      refine bl_X6_build_121 hG _ _ S2 (hQ S2 ⟨fun a b z => by rw [o2.1 a b z, f1.1 a b z], fun a j hj => by rw [o2.2 a j (by omega), f1.2 a j (by omega)]⟩ ?_)
      exact MTd.cp (made := made) (d := (n, o, pp, rl)) ⟨hS, hok⟩ hT13 cc
    · intro p hp ih S1 f1 l1 I1
      refine bl_X6_build_86 hG _ _ S1 ⟨fun z => absurd z (nI_ge (b := 24) hp (by decide)), fun _ => ⟨vp_in_nI hp (by decide), ?_⟩⟩
      have hs1 : StI S1 rl rp := hs.cg (f1.1 30 0 (by omega)) (f1.1 32 0 (by omega)) (f1.1 33 0 (by omega))
      rw [nI_clamp (by omega), (hs1 p hp).1, nI_1]
      by_cases c : rl p = -2
      · rw [if_pos c]; exact ⟨fun _ => ih S1 f1 l1 (I1.skip c), fun z => absurd rfl z⟩
      · rw [if_neg c]
        refine ⟨fun z => absurd z (by decide), fun _ => ?_⟩
        refine sp_m_putChildren kO kT hM pO pT (by rw [f1.1 21 0 (by omega)]; exact hh) h12 c12 (mO.offC13 kO (by omega) f1) (mT.offC13 kT (by omega) f1) hs1 hrl r0 hp I1 (fun S2 f2 I2 => ?_)
        refine bl_X6_build_107 hG _ _ S2 ?_
        rw [nI_1]
        exact ih S2 (f1.tr f2.c) (fun v hv hr => by rw [f2.1 23 0 (by omega)]; exact l1 v hv hr) (I2.next c)
  -- the start
  have init : ∀ v, v ≤ 24 → ∀ S1 : ab_S, OffC S S1 13 → (∀ w, w < v → (S1 22 0 (24 * 13 + w) = if w = 0 then 1 else 0) ∧ (rl w ≠ -2 → S1 23 0 (24 * 13 + w) = rl w) ∧ S1 24 0 (24 * 13 + w) = -1 ∧ S1 25 0 (24 * 13 + w) = 0) → G 2 [some (.inr (21, 0)), some (.inl (nI cT)), some (.inl (nI v))] [] S1 0 := by
    refine ind_up _ ?_ ?_
    · intro S1 f1 h1
      refine bl_X6_build_2 hG _ _ S1 ⟨fun _ => loop 0 (by omega) S1 f1 (fun v hv hr => (h1 v hv).2.1 hr) ⟨?_, fun w w0 hw => ⟨?_, fun _ => ?_⟩, fun p' k hp' => absurd hp' (Nat.not_lt_zero p'), fun k hk => absurd hk (Nat.not_lt_zero k)⟩, fun z => absurd (by decide) z⟩
      · have := h1 0 (by decide)
        rw [if_pos rfl] at this
        exact ⟨this.1, this.2.2.1, this.2.2.2⟩
      · rintro (⟨k, hk, _⟩ | ⟨p', hp', _⟩)
        · omega
        · omega
      · have := (h1 w hw).1
        rw [if_neg (by omega)] at this
        exact this
    · intro v hv ih S1 f1 h1
      have iv : vp_in (nI v) 24 := vp_in_nI hv (by decide)
      have i13 : vp_in (nI (24 * 13 + v)) 336 := vp_in_nI (by omega) (by decide)
      have hs1 : StI S1 rl rp := hs.cg (f1.1 30 0 (by omega)) (f1.1 32 0 (by omega)) (f1.1 33 0 (by omega))
      -- one step
      have step : ∀ (x l : Int32) (T1 T2 T3 T4 : ab_S), T1 = ab_su S1 22 0 (24 * 13 + v) x → T2 = ab_su T1 23 0 (24 * 13 + v) l → T3 = ab_su T2 24 0 (24 * 13 + v) (-1) → T4 = ab_su T3 25 0 (24 * 13 + v) 0 → (x = if v = 0 then 1 else 0) → (rl v ≠ -2 → l = rl v) → G 2 [some (.inr (21, 0)), some (.inl (nI cT)), some (.inl (nI (v + 1)))] [] T4 0 := fun x l T1 T2 T3 T4 e1 e2 e3 e4 hx hl => by
        refine ih T4 ⟨fun a b z => by rw [e4, su_o (by omega), e3, su_o (by omega), e2, su_o (by omega), e1, su_o (by omega)]; exact f1.1 a b z, fun a j z => ?_⟩ (fun w hw => ?_)
        · have u1 : ∀ (T : ab_S) (κ : Nat) (y : Int32), ab_su T κ 0 (24 * 13 + v) y a 0 j = T a 0 j := fun T κ y => by
            by_cases q : a = κ
            · subst q; exact su_j (by omega)
            · rw [su_o (Or.inl q)]
          rw [e4, u1, e3, u1, e2, u1, e1, u1]; exact f1.2 a j z
        · by_cases q : w = v
          · subst q
            refine ⟨?_, fun hr => ?_, ?_, ?_⟩
            · rw [e4, su_o (by omega), e3, su_o (by omega), e2, su_o (by omega), e1, su_at]; exact hx
            · rw [e4, su_o (by omega), e3, su_o (by omega), e2, su_at]; exact hl hr
            · rw [e4, su_o (by omega), e3, su_at]
            · rw [e4, su_at]
          · obtain ⟨b1, b2, b3, b4⟩ := h1 w (by omega)
            refine ⟨?_, fun hr => ?_, ?_, ?_⟩
            · rw [e4, su_o (by omega), e3, su_o (by omega), e2, su_o (by omega), e1, su_j (by omega)]; exact b1
            · rw [e4, su_o (by omega), e3, su_o (by omega), e2, su_j (by omega), e1, su_o (by omega)]; exact b2 hr
            · rw [e4, su_o (by omega), e3, su_j (by omega), e2, su_o (by omega), e1, su_o (by omega)]; exact b3
            · rw [e4, su_j (by omega), e3, su_o (by omega), e2, su_o (by omega), e1, su_o (by omega)]; exact b4
      refine bl_X6_build_2 hG _ _ S1 ⟨fun z => absurd z (nI_ge (b := 24) hv (by decide)), fun _ => ?_⟩
      rw [m312, nI_clamp (by omega), nI_clamp (by omega), nI_1]
      have branch : ∀ (x : Int32) (T1 : ab_S), T1 = ab_su S1 22 0 (24 * 13 + v) x → (x = if v = 0 then 1 else 0) → (T1 30 0 v = if rl v = -2 then 0 else 1) ∧ (rl v ≠ -2 → T1 32 0 v = rl v) := fun x T1 e1 _ => by
        rw [e1, su_o (by omega), su_o (by omega)]
        exact ⟨(hs1 v hv).1, fun z => ((hs1 v hv).2 z).1⟩
      refine ⟨fun z => ⟨i13, fun T1 e1 => ⟨iv, fun y => ⟨i13, fun T2 e2 => ⟨i13, fun T3 e3 => ⟨i13, fun T4 e4 => ?_⟩⟩⟩, fun y => ⟨iv, i13, fun T2 e2 => ⟨i13, fun T3 e3 => ⟨i13, fun T4 e4 => ?_⟩⟩⟩⟩⟩, fun z => ⟨i13, fun T1 e1 => ⟨iv, fun y => ⟨i13, fun T2 e2 => ⟨i13, fun T3 e3 => ⟨i13, fun T4 e4 => ?_⟩⟩⟩, fun y => ⟨iv, i13, fun T2 e2 => ⟨i13, fun T3 e3 => ⟨i13, fun T4 e4 => ?_⟩⟩⟩⟩⟩⟩
      all_goals have hx1 := nar1
      all_goals have hx0 := nar0
      · have v0 : v = 0 := (nI_eq (b := 0) (by omega) (by decide)).mp z
        rw [hx1] at e1
        have hb := branch _ T1 e1 (by rw [if_pos v0])
        refine step _ _ T1 T2 T3 T4 e1 e2 e3 e4 (by rw [if_pos v0]) (fun hr => ?_)
        rw [hb.1, if_neg hr] at y; exact absurd y (by decide)
      · have v0 : v = 0 := (nI_eq (b := 0) (by omega) (by decide)).mp z
        rw [hx1] at e1
        have hb := branch _ T1 e1 (by rw [if_pos v0])
        exact step _ _ T1 T2 T3 T4 e1 e2 e3 e4 (by rw [if_pos v0]) hb.2
      · have v0 : ¬ v = 0 := fun q => z (by rw [q]; rfl)
        rw [hx0] at e1
        have hb := branch _ T1 e1 (by rw [if_neg v0])
        refine step _ _ T1 T2 T3 T4 e1 e2 e3 e4 (by rw [if_neg v0]) (fun hr => ?_)
        rw [hb.1, if_neg hr] at y; exact absurd y (by decide)
      · have v0 : ¬ v = 0 := fun q => z (by rw [q]; rfl)
        rw [hx0] at e1
        have hb := branch _ T1 e1 (by rw [if_neg v0])
        exact step _ _ T1 T2 T3 T4 e1 e2 e3 e4 (by rw [if_neg v0]) hb.2
  exact init 0 (by omega) S ⟨fun _ _ _ => rfl, fun _ _ _ => rfl⟩ (fun w hw => absurd hw (Nat.not_lt_zero w))
