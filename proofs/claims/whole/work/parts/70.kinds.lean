/-! The model's kinds of conflicts. -/
theorem sp_m_countKinds {Q : ab_Po} {S : ab_S} {kd : Nat → Nat} (hk : ∀ v, v < 24 → S 31 0 v = nI (kd v) ∧ kd v ≤ 5) (hQ : Q (.inl (some (nI (cf kd 24)))) S) : Sp_X6_countKinds [.inr (21, 0)] S Q := by
  refine ⟨Nat.le_of_ble_eq_true rfl, fun G hG => ?_⟩
  refine bl_X6_countKinds_0 hG S ?_
  have key : ∀ v, v ≤ 24 → G 4 [some (.inr (21, 0)), some (.inl (nI (cf kd v))), some (.inl (nI v))] [] S 0 := by
    refine ind_up _ ?_ ?_
    · exact bl_X6_countKinds_4 hG _ _ S ⟨fun _ => hQ, fun z => absurd (by decide) z⟩
    · intro v hv ih
      refine bl_X6_countKinds_4 hG _ _ S ⟨fun z => absurd z (nI_ge (b := 24) hv (by decide)), fun _ => ⟨vp_in_nI hv (by decide), ?_⟩⟩
      obtain ⟨e, h5⟩ := hk v hv
      rw [nI_clamp (by omega), e, nI_1, nI_1]
      rcases Nat.eq_zero_or_pos (kd v) with q | q
      · rw [cf_0 q] at ih
        rw [q]; exact ⟨fun _ => ih, fun z => absurd (by decide) z⟩
      · rw [cf_1 q] at ih
        exact ⟨fun z => absurd z (nI_nle q (by omega)), fun _ => ih⟩
  exact key 0 (by omega)
theorem K2_le (rl rp : Nat → Int32) (v : Nat) : K2 rl rp v ≤ 5 := by
  unfold K2
  by_cases h : 0 < v ∧ rl v ≠ -2 ∧ hlR rl (rp v) = 0
  · rw [if_pos h]; decide
  · rw [if_neg h]; decide
theorem K3_le (rl rp : Nat → Int32) (v : Nat) : K3 rl rp v ≤ 5 := by
  unfold K3
  by_cases h : 0 < v ∧ rl v ≠ -2 ∧ cm rp 24 (nI v) ≠ 0
  · rw [if_pos h]; decide
  · rw [if_neg h]; decide
theorem oK_le (lo po lt pt lb pb : Int32) : oK lo po lt pt lb pb ≤ 5 := by
  unfold oK
  by_cases h1 : lo = -2 ∧ lt = -2
  · rw [if_pos h1]; decide
  rw [if_neg h1]
  by_cases h2 : (lo = -2 ∨ lt = -2) ∧ lb ≠ -2
  · rw [if_pos h2]
    by_cases h3 : (if lo = -2 then lt else lo) = lb ∧ (if lo = -2 then pt else po) = pb
    · rw [if_pos h3]; decide
    · rw [if_neg h3]; decide
  rw [if_neg h2]
  by_cases h3 : agr lo lt lb = -3
  · rw [if_pos h3]; decide
  rw [if_neg h3]
  by_cases h4 : agr po pt pb = -3
  · rw [if_pos h4]; decide
  rw [if_neg h4]; decide
/-- what the model has of the staying nodes -/
def StI (S : ab_S) (rl rp : Nat → Int32) : Prop := ∀ v, v < 24 → (S 30 0 v = if rl v = -2 then 0 else 1) ∧ (rl v ≠ -2 → S 32 0 v = rl v ∧ S 33 0 v = rp v)
theorem StI.cg {S S' : ab_S} {rl rp : Nat → Int32} (h : StI S rl rp) (h30 : S' 30 0 = S 30 0) (h32 : S' 32 0 = S 32 0) (h33 : S' 33 0 = S 33 0) : StI S' rl rp := fun v hv => by rw [h30, h32, h33]; exact h v hv
def Off31 (S S' : ab_S) : Prop := ∀ a b, (a ≠ 31 ∨ b ≠ 0) → S' a b = S a b
theorem sp_m_findOrphans {Q : ab_Po} {S : ab_S} {rl rp : Nat → Int32} (hs : StI S rl rp) (h0 : ∀ v, v < 24 → S 31 0 v = nI 0) (hp : ∀ v, 0 < v → v < 24 → rl v ≠ -2 → ∃ w, w < 24 ∧ rp v = nI w) (hQ : ∀ S', Off31 S S' → (∀ v, v < 24 → S' 31 0 v = nI (K2 rl rp v)) → Q (.inl none) S') : Sp_X6_findOrphans [.inr (21, 0)] S Q := by
  refine ⟨Nat.le_of_ble_eq_true rfl, fun G hG => ?_⟩
  refine bl_X6_findOrphans_0 hG S ?_
  have key : ∀ v, v ≤ 24 → 1 ≤ v → ∀ S1 : ab_S, Off31 S S1 → (∀ w, w < 24 → S1 31 0 w = if w < v then nI (K2 rl rp w) else nI 0) → G 2 [some (.inr (21, 0)), some (.inl (nI v))] [] S1 0 := by
    refine ind_up _ ?_ ?_
    · intro _ S1 f1 h1
      exact bl_X6_findOrphans_2 hG _ S1 ⟨fun _ => hQ S1 f1 (fun v hv => by have := h1 v hv; rw [if_pos hv] at this; exact this), fun z => absurd (by decide) z⟩
    · intro v hv ih v1 S1 f1 h1
      have hs1 := hs.cg (S' := S1) (f1 30 0 (by omega)) (f1 32 0 (by omega)) (f1 33 0 (by omega))
      have iv : vp_in (nI v) 24 := vp_in_nI hv (by decide)
      have e31 := h1 v hv
      rw [if_neg (by omega)] at e31
      have go : ∀ (S2 : ab_S) (x : Int32), S2 = ab_su S1 31 0 v x → x = nI (K2 rl rp v) → G 2 [some (.inr (21, 0)), some (.inl (nI (v + 1)))] [] S2 0 := fun S2 x e2 hx => by
        refine ih (by omega) S2 (fun a b z => by rw [e2, su_o z]; exact f1 a b z) (fun w hw => ?_)
        by_cases q : w = v
        · subst q; rw [e2, su_at, if_pos (by omega)]; exact hx
        · rw [e2, su_j q]
          have := h1 w hw
          by_cases y : w < v
          · rw [if_pos y] at this; rw [if_pos (by omega)]; exact this
          · rw [if_neg y] at this; rw [if_neg (by omega)]; exact this
      refine bl_X6_findOrphans_2 hG _ S1 ⟨fun z => absurd z (nI_ge (b := 24) hv (by decide)), fun _ => ?_⟩
      rw [nI_clamp (by omega), (hs1 v hv).1, e31, nI_1]
      by_cases c : rl v = -2
      · rw [if_pos c]
        refine ⟨iv, fun _ => ⟨iv, iv, fun S2 e2 => go S2 _ e2 ?_⟩, fun z => absurd rfl z⟩
        unfold K2; rw [if_neg (fun z => z.2.1 c)]
      · rw [if_neg c]
        obtain ⟨w, hw, ew⟩ := hp v (by omega) hv c
        rw [((hs1 v hv).2 c).2, ew, nI_clamp (by omega), (hs1 w hw).1]
        have hh : hlR rl (nI w) = if rl w = -2 then 0 else 1 := by
          unfold hlR
          rw [if_neg (nI_pos (by omega)), if_neg (show ¬ (24 : Int32) ≤ nI w from nI_ge (b := 24) hw (by decide)), nI_clamp (by omega)]
        refine ⟨iv, fun z => absurd z (by decide), fun _ => ⟨iv, vp_in_nI hw (by decide), fun z => ⟨iv, fun S2 e2 => go S2 _ e2 ?_⟩, fun z => ⟨iv, iv, fun S2 e2 => go S2 _ e2 ?_⟩⟩⟩
        · unfold K2; rw [ew, hh, if_pos ⟨by omega, c, z⟩]; rfl
        · unfold K2; rw [ew, hh, if_neg (fun y => z y.2.2)]
  exact key 1 (by omega) (by omega) S (fun _ _ _ => rfl) (fun w hw => by
    by_cases y : w < 1
    · rw [if_pos y, h0 w hw]; unfold K2; rw [if_neg (fun z => by omega)]
    · rw [if_neg y]; exact h0 w hw)
theorem sp_m_comes {Q : ab_Po} {S : ab_S} {rl rp : Nat → Int32} {v : Nat} (hs : StI S rl rp) (hc : Cl3 rl rp) (hv : v < 24) (hr : rl v ≠ -2) (hQ : Q (.inl (some (if cm rp 24 (nI v) = 0 then 1 else 0))) S) : Sp_X6_comes [.inr (21, 0), .inl (nI v)] S Q := by
  refine ⟨Nat.le_of_ble_eq_true rfl, fun G hG => ?_⟩
  refine bl_X6_comes_0 hG _ S ?_
  have key : ∀ k, k ≤ 24 → ∀ w, w < 24 → rl w ≠ -2 → cm rp (24 - k) (nI w) = cm rp 24 (nI v) → G 4 [some (.inr (21, 0)), some (.inl (nI v)), some (.inl (nI w)), some (.inl (nI k))] [] S 0 := by
    have res : ∀ w, nI w = cm rp 24 (nI v) → (nI w = 0 → Q (.inl (some (1 : Int32))) S) ∧ (¬ nI w = 0 → Q (.inl (some (0 : Int32))) S) := fun w e => by
      rw [← e] at hQ
      exact ⟨fun z => by rw [if_pos z] at hQ; exact hQ, fun z => by rw [if_neg z] at hQ; exact hQ⟩
    refine ind_up _ ?_ ?_
    · intro w hw _ e
      exact bl_X6_comes_4 hG _ _ _ S ⟨fun _ => res w e, fun z => absurd (by decide) z⟩
    · intro k hk ih w hw hrw e
      rw [show 24 - k = (24 - (k + 1)) + 1 by omega] at e
      refine bl_X6_comes_4 hG _ _ _ S ⟨fun z => absurd z (nI_ge (b := 24) hk (by decide)), fun _ => ⟨fun z => ?_, fun z => ⟨vp_in_nI hw (by decide), ?_⟩⟩⟩
      · unfold cm at e; rw [if_pos z] at e; exact res w e
      · unfold cm at e
        rw [if_neg z, nI_clamp (by omega)] at e
        rw [nI_clamp (by omega), ((hs w hw).2 hrw).2, nI_1]
        have w0 : 0 < w := by
          rcases Nat.eq_zero_or_pos w with q | q
          · subst q; exact absurd (by decide) z
          · exact q
        obtain ⟨u, hu, eu, hru⟩ := hc w w0 hw hrw
        rw [eu] at e ⊢
        exact ih u hu hru e
  exact key 0 (by omega) v hv hr rfl
theorem sp_m_findRings {Q : ab_Po} {S : ab_S} {rl rp : Nat → Int32} (hs : StI S rl rp) (hc : Cl3 rl rp) (h0 : ∀ v, v < 24 → S 31 0 v = nI 0) (hQ : ∀ S', Off31 S S' → (∀ v, v < 24 → S' 31 0 v = nI (K3 rl rp v)) → Q (.inl none) S') : Sp_X6_findRings [.inr (21, 0)] S Q := by
  refine ⟨Nat.le_of_ble_eq_true rfl, fun G hG => ?_⟩
  refine bl_X6_findRings_0 hG S ?_
  have key : ∀ v, v ≤ 24 → 1 ≤ v → ∀ S1 : ab_S, Off31 S S1 → (∀ w, w < 24 → S1 31 0 w = if w < v then nI (K3 rl rp w) else nI 0) → G 2 [some (.inr (21, 0)), some (.inl (nI v))] [] S1 0 := by
    refine ind_up _ ?_ ?_
    · intro _ S1 f1 h1
      exact bl_X6_findRings_2 hG _ S1 ⟨fun _ => hQ S1 f1 (fun v hv => by have := h1 v hv; rw [if_pos hv] at this; exact this), fun z => absurd (by decide) z⟩
    · intro v hv ih v1 S1 f1 h1
      have hs1 := hs.cg (S' := S1) (f1 30 0 (by omega)) (f1 32 0 (by omega)) (f1 33 0 (by omega))
      have iv : vp_in (nI v) 24 := vp_in_nI hv (by decide)
      have e31 := h1 v hv
      rw [if_neg (by omega)] at e31
      have go : ∀ (S2 : ab_S) (x : Int32), S2 = ab_su S1 31 0 v x → x = nI (K3 rl rp v) → G 2 [some (.inr (21, 0)), some (.inl (nI (v + 1)))] [] S2 0 := fun S2 x e2 hx => by
        refine ih (by omega) S2 (fun a b z => by rw [e2, su_o z]; exact f1 a b z) (fun w hw => ?_)
        by_cases q : w = v
        · subst q; rw [e2, su_at, if_pos (by omega)]; exact hx
        · rw [e2, su_j q]
          have := h1 w hw
          by_cases y : w < v
          · rw [if_pos y] at this; rw [if_pos (by omega)]; exact this
          · rw [if_neg y] at this; rw [if_neg (by omega)]; exact this
      refine bl_X6_findRings_2 hG _ S1 ⟨fun z => absurd z (nI_ge (b := 24) hv (by decide)), fun _ => ?_⟩
      rw [nI_clamp (by omega), (hs1 v hv).1, e31, nI_1]
      by_cases c : rl v = -2
      · rw [if_pos c]
        refine ⟨iv, fun _ => ⟨iv, iv, fun S2 e2 => go S2 _ e2 ?_⟩, fun z => absurd rfl z⟩
        unfold K3; rw [if_neg (fun z => z.2.1 c)]
      · rw [if_neg c]
        refine ⟨iv, fun z => absurd z (by decide), fun _ => sp_m_comes hs1 hc hv c ?_⟩
        refine bl_X6_findRings_27 hG _ _ _ S1 ?_
        rw [nI_clamp (by omega), e31, nI_1]
        by_cases e : cm rp 24 (nI v) = 0
        · rw [if_pos e]
          refine ⟨fun z => absurd z (by decide), fun _ => ⟨iv, iv, fun S2 e2 => go S2 _ e2 ?_⟩⟩
          unfold K3; rw [if_neg (fun z => z.2.2 e)]
        · rw [if_neg e]
          refine ⟨fun _ => ⟨iv, fun S2 e2 => go S2 _ e2 ?_⟩, fun z => absurd rfl z⟩
          unfold K3; rw [if_pos ⟨by omega, c, e⟩]; rfl
  exact key 1 (by omega) (by omega) S (fun _ _ _ => rfl) (fun w hw => by
    by_cases y : w < 1
    · rw [if_pos y, h0 w hw]; unfold K3; rw [if_neg (fun z => by omega)]
    · rw [if_neg y]; exact h0 w hw)
