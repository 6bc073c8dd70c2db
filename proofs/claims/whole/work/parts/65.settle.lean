/-! Merging: what becomes of each node. -/
def agr (a b c : Int32) : Int32 := if a = b then a else if b = -2 then a else if a = -2 then b else if a = c then b else if b = c then a else -3
def oK (lo po lt pt lb pb : Int32) : Nat := if lo = -2 ∧ lt = -2 then 0 else if (lo = -2 ∨ lt = -2) ∧ lb ≠ -2 then (if (if lo = -2 then lt else lo) = lb ∧ (if lo = -2 then pt else po) = pb then 0 else 1) else if agr lo lt lb = -3 then 2 else if agr po pt pb = -3 then 3 else 0
def oL (lo po lt pt lb pb : Int32) : Int32 := if lo = -2 ∧ lt = -2 then -2 else if (lo = -2 ∨ lt = -2) ∧ lb ≠ -2 then -2 else if agr lo lt lb = -3 then -2 else if agr po pt pb = -3 then -2 else agr lo lt lb
def oP (lo po lt pt lb pb : Int32) : Int32 := if lo = -2 ∧ lt = -2 then -2 else if (lo = -2 ∨ lt = -2) ∧ lb ≠ -2 then -2 else if agr lo lt lb = -3 then -2 else if agr po pt pb = -3 then -2 else agr po pt pb
def cf (kd : Nat → Nat) (v : Nat) : Nat := fb_ct (fun w => decide (0 < kd w)) v
theorem cf_0 {kd : Nat → Nat} {v : Nat} (h : kd v = 0) : cf kd (v + 1) = cf kd v := by
  unfold cf; rw [fb_ct_succ]; simp [h]
theorem cf_1 {kd : Nat → Nat} {v : Nat} (h : 0 < kd v) : cf kd (v + 1) = cf kd v + 1 := by
  unfold cf; rw [fb_ct_succ]; simp [h]
theorem cf_le (kd : Nat → Nat) (v : Nat) : cf kd v ≤ v := fb_ct_le _ v
theorem cf_lt {kd : Nat → Nat} {w v : Nat} (h : 0 < kd w) (hw : w < v) : cf kd w < cf kd v := by
  have a := fb_ct_mono (fun w => decide (0 < kd w)) (show w + 1 ≤ v by omega)
  have b := cf_1 h
  unfold cf at *
  omega
def CLg (cnt : Int32) (row : Nat → Int32) (kd : Nat → Nat) (v : Nat) : Prop := cnt = nI (cf kd v) ∧ ∀ w, w < v → 0 < kd w → row (cf kd w) = nI (w + 32 * kd w)
theorem CLg.z {cnt : Int32} {row : Nat → Int32} {kd : Nat → Nat} {v : Nat} (h : CLg cnt row kd v) (h0 : kd v = 0) : CLg cnt row kd (v + 1) := ⟨by rw [cf_0 h0]; exact h.1, fun w hw hk => h.2 w (by
  by_cases q : w = v
  · subst q; omega
  · omega) hk⟩
theorem CLg.s {cnt : Int32} {row row' : Nat → Int32} {kd : Nat → Nat} {v : Nat} (h : CLg cnt row kd v) (h0 : 0 < kd v) (h1 : row' (cf kd v) = nI (v + 32 * kd v)) (h2 : ∀ j, j ≠ cf kd v → row' j = row j) : CLg (nI (cf kd v + 1)) row' kd (v + 1) := ⟨by rw [cf_1 h0], fun w hw hk => by
  by_cases q : w = v
  · subst q; exact h1
  · have := cf_lt hk (show w < v by omega)
    rw [h2 _ (by omega)]; exact h.2 w (by omega) hk⟩
theorem CLg.nil {row : Nat → Int32} {kd : Nat → Nat} : CLg 0 row kd 0 := ⟨rfl, fun w hw => by omega⟩
theorem sp_name {Q : ab_Po} {S : ab_S} {k v c : Nat} (hk : S 2 0 2 = nI k) (hk24 : k < 24) (hQ : ∀ S', (∀ a b, (a ≠ 2 ∨ b ≠ 0) → (a ≠ 14 ∨ b ≠ 0) → S' a b = S a b) → S' 2 0 2 = nI (k + 1) → S' 14 0 k = nI (v + 32 * c) → (∀ j, j ≠ k → S' 14 0 j = S 14 0 j) → Q (.inl none) S') : Sp_X2_name [.inr (2, 0), .inl (nI v), .inl (nI c)] S Q := by
  refine ⟨Nat.le_of_ble_eq_true rfl, fun G hG => ?_⟩
  refine bl_X2_name_0 hG _ _ S ?_
  rw [hk, nI_clamp (by omega), show (32 : Int32) = nI 32 from rfl, pk_mul, nI_add]
  refine ⟨vp_in_nI hk24 (by decide), fun S1 e1 S2 e2 => ?_⟩
  have h1 : S1 2 0 2 = nI k := by rw [e1, su_o (Or.inl (by decide))]; exact hk
  rw [h1, nI_1] at e2
  refine hQ S2 (fun a b z1 z2 => by rw [e2, su_o z1, e1, su_o z2]) (by rw [e2, su_at]) (by rw [e2, su_o (Or.inl (by decide)), e1, su_at]) (fun j hj => by rw [e2, su_o (Or.inl (by decide)), e1, su_j hj])
theorem sp_agreed {Q : ab_Po} {S : ab_S} {a b c : Int32} (hQ : Q (.inl (some (agr a b c))) S) : Sp_X2_agreed [.inl a, .inl b, .inl c] S Q := by
  refine ⟨Nat.le_of_ble_eq_true rfl, fun G hG => ?_⟩
  refine bl_X2_agreed_0 hG _ _ _ S ?_
  unfold agr at hQ
  refine ⟨fun h => by rw [if_pos h] at hQ; exact hQ, fun h => ?_⟩
  rw [if_neg h] at hQ
  refine ⟨fun h => by rw [if_pos h] at hQ; exact hQ, fun h => ?_⟩
  rw [if_neg h] at hQ
  refine ⟨fun h => by rw [if_pos h] at hQ; exact hQ, fun h => ?_⟩
  rw [if_neg h] at hQ
  refine ⟨fun h => by rw [if_pos h] at hQ; exact hQ, fun h => ?_⟩
  rw [if_neg h] at hQ
  refine ⟨fun h => by rw [if_pos h] at hQ; exact hQ, fun h => ?_⟩
  rw [if_neg h] at hQ
  exact hQ
/-- what settle leaves -/
def Stl (S S' : ab_S) (v k kd : Nat) (rl rp : Int32) : Prop := (∀ a b, (a ≠ 2 ∨ b ≠ 0) → (a ≠ 14 ∨ b ≠ 0) → ((a ≠ 7 ∧ a ≠ 8) ∨ b ≠ 13) → S' a b = S a b) ∧ (∀ j, j ≠ v → S' 7 13 j = S 7 13 j ∧ S' 8 13 j = S 8 13 j) ∧ S' 7 13 v = rp ∧ S' 8 13 v = rl ∧ (kd = 0 → S' 2 0 2 = S 2 0 2 ∧ S' 14 0 = S 14 0) ∧ (0 < kd → S' 2 0 2 = nI (k + 1) ∧ S' 14 0 k = nI (v + 32 * kd) ∧ ∀ j, j ≠ k → S' 14 0 j = S 14 0 j)
theorem sp_settle {Q : ab_Po} {S : ab_S} {v k tO tT tB : Nat} (hv : v < 24) (hk : S 2 0 2 = nI k) (hk24 : k < 24) (h7 : S 7 13 v = -2) (h8 : S 8 13 v = -2) (hne : ¬ (S 8 tO v = -2 ∧ S 8 tT v = -2))
    (hQ : ∀ S', Stl S S' v k (oK (S 8 tO v) (S 7 tO v) (S 8 tT v) (S 7 tT v) (S 8 tB v) (S 7 tB v)) (oL (S 8 tO v) (S 7 tO v) (S 8 tT v) (S 7 tT v) (S 8 tB v) (S 7 tB v)) (oP (S 8 tO v) (S 7 tO v) (S 8 tT v) (S 7 tT v) (S 8 tB v) (S 7 tB v)) → Q (.inl none) S') : Sp_X2_settle [.inr (2, 0), .inl (nI v), .inr (4, tO), .inr (4, tT), .inr (4, tB)] S Q := by
  refine ⟨Nat.le_of_ble_eq_true rfl, fun G hG => ?_⟩
  unfold oK oL oP at hQ
  rw [if_neg hne, if_neg hne, if_neg hne] at hQ
  have iv : vp_in (nI v) 24 := vp_in_nI hv (by decide)
  -- both are asked
  have ag : ∀ x5 : Int32, ¬ ((S 8 tO v = -2 ∨ S 8 tT v = -2) ∧ S 8 tB v ≠ -2) → vp_in (nI v) 24 ∧ vp_in (nI v) 24 ∧ vp_in (nI v) 24 ∧ Sp_X2_agreed [.inl (S 8 tO (nI v).toNatClampNeg), .inl (S 8 tT (nI v).toNatClampNeg), .inl (S 8 tB (nI v).toNatClampNeg)] S (ab_back Q G 92 [some (.inr (2, 0)), some (.inl (nI v)), some (.inr (4, tO)), some (.inr (4, tT)), some (.inr (4, tB)), some (.inl x5), none, none] [] 0) := fun x5 hc => by
    rw [if_neg hc, if_neg hc, if_neg hc] at hQ
    refine ⟨iv, iv, iv, ?_⟩
    rw [nI_clamp (by omega)]
    refine sp_agreed ?_
    refine bl_X2_settle_92 hG _ tO tT tB _ _ S ⟨iv, iv, iv, ?_⟩
    rw [nI_clamp (by omega)]
    refine sp_agreed ?_
    refine bl_X2_settle_116 hG _ tO tT tB _ _ _ S ⟨fun h => ?_, fun h => ⟨fun h' => ?_, fun h' => ⟨iv, fun S1 e1 => ⟨iv, fun S2 e2 => ?_⟩⟩⟩⟩
    · rw [if_pos h, if_pos h, if_pos h] at hQ
      refine sp_name (v := v) (c := 2) hk hk24 (fun S' a1 a2 a3 a4 => bl_X2_settle_131 hG _ tO tT tB _ _ _ S' (hQ S' ⟨fun a b z1 z2 _ => a1 a b z1 z2, fun j _ => ?_, ?_, ?_, fun z => absurd z (by decide), fun _ => ⟨a2, a3, a4⟩⟩))
      · rw [a1 7 13 (by omega) (by omega), a1 8 13 (by omega) (by omega)]; exact ⟨rfl, rfl⟩
      · rw [a1 7 13 (by omega) (by omega)]; exact h7
      · rw [a1 8 13 (by omega) (by omega)]; exact h8
    · rw [if_neg h, if_neg h, if_neg h, if_pos h', if_pos h', if_pos h'] at hQ
      refine sp_name (v := v) (c := 3) hk hk24 (fun S' a1 a2 a3 a4 => bl_X2_settle_147 hG _ tO tT tB _ _ _ S' (hQ S' ⟨fun a b z1 z2 _ => a1 a b z1 z2, fun j _ => ?_, ?_, ?_, fun z => absurd z (by decide), fun _ => ⟨a2, a3, a4⟩⟩))
      · rw [a1 7 13 (by omega) (by omega), a1 8 13 (by omega) (by omega)]; exact ⟨rfl, rfl⟩
      · rw [a1 7 13 (by omega) (by omega)]; exact h7
      · rw [a1 8 13 (by omega) (by omega)]; exact h8
    · rw [if_neg h, if_neg h, if_neg h, if_neg h', if_neg h', if_neg h'] at hQ
      rw [nI_clamp (by omega)] at e1 e2
      refine hQ S2 ⟨fun a b z1 z2 z3 => by rw [e2, su_o (by omega), e1, su_o (by omega)], fun j hj => ⟨by rw [e2, su_j hj, e1, su_o (by omega)], by rw [e2, su_o (by omega), e1, su_j hj]⟩, by rw [e2, su_at], by rw [e2, su_o (by omega), e1, su_at], fun _ => ⟨by rw [e2, su_o (by omega), e1, su_o (by omega)], by rw [e2, su_o (by omega), e1, su_o (by omega)]⟩, fun z => absurd z (by decide)⟩
  -- one alone has it, and the base too
  have one : ∀ x5 : Int32, ((S 8 tO v = -2 ∨ S 8 tT v = -2) ∧ S 8 tB v ≠ -2) → G 34 [some (.inr (2, 0)), some (.inl (nI v)), some (.inr (4, tO)), some (.inr (4, tT)), some (.inr (4, tB)), some (.inl x5), none, none] [.inl (if S 8 tB v = -2 then 0 else 1)] S 0 := fun x5 hc => by
    rw [if_pos hc, if_pos hc, if_pos hc] at hQ
    refine bl_X2_settle_34 hG _ tO tT tB _ _ S ?_
    rw [if_neg hc.2]
    refine ⟨fun z => absurd z (by decide), fun _ => sp_holds ?_⟩
    rw [hl_n hv]
    have fin : ∀ (t6 : Nat) (lx px : Int32), lx = S 8 t6 v → px = S 7 t6 v → (∀ S', Stl S S' v k (if lx = S 8 tB v ∧ px = S 7 tB v then 0 else 1) (-2) (-2) → Q (.inl none) S') → Sp_X4_hasAsIn [.inr (4, t6), .inr (4, tB), .inl (nI v)] S (ab_back Q G 60 [some (.inr (2, 0)), some (.inl (nI v)), some (.inr (4, tO)), some (.inr (4, tT)), some (.inr (4, tB)), some (.inl x5), some (.inr (4, t6)), none] [] 0) := fun t6 lx px e1 e2 hQ2 => by
      subst e1; subst e2
      refine sp_hasAsIn hv ?_
      refine bl_X2_settle_60 hG _ tO tT tB _ t6 _ S ?_
      by_cases c : S 8 t6 v = S 8 tB v ∧ S 7 t6 v = S 7 tB v
      · rw [if_pos c] at hQ2 ⊢
        exact ⟨fun z => absurd z (by decide), fun _ => hQ2 S ⟨fun _ _ _ _ _ => rfl, fun _ _ => ⟨rfl, rfl⟩, h7, h8, fun _ => ⟨rfl, rfl⟩, fun z => absurd z (by decide)⟩⟩
      · rw [if_neg c] at hQ2 ⊢
        refine ⟨fun _ => sp_name (v := v) (c := 1) hk hk24 (fun S' a1 a2 a3 a4 => bl_X2_settle_69 hG _ tO tT tB _ t6 S' (hQ2 S' ⟨fun a b z1 z2 _ => a1 a b z1 z2, fun j _ => ?_, ?_, ?_, fun z => absurd z (by decide), fun _ => ⟨a2, a3, a4⟩⟩)), fun z => absurd rfl z⟩
        · rw [a1 7 13 (by omega) (by omega), a1 8 13 (by omega) (by omega)]; exact ⟨rfl, rfl⟩
        · rw [a1 7 13 (by omega) (by omega)]; exact h7
        · rw [a1 8 13 (by omega) (by omega)]; exact h8
    refine bl_X2_settle_42 hG _ tO tT tB _ _ S ?_
    by_cases c : S 8 tO v = -2
    · rw [if_pos c]
      rw [if_pos c, if_pos c] at hQ
      exact ⟨fun _ => fin tT _ _ rfl rfl hQ, fun z => absurd rfl z⟩
    · rw [if_neg c]
      rw [if_neg c, if_neg c] at hQ
      exact ⟨fun z => absurd z (by decide), fun _ => fin tO _ _ rfl rfl hQ⟩
  have ag' : ∀ x5 : Int32, S 8 tB v = -2 → G 34 [some (.inr (2, 0)), some (.inl (nI v)), some (.inr (4, tO)), some (.inr (4, tT)), some (.inr (4, tB)), some (.inl x5), none, none] [.inl (if S 8 tB v = -2 then 0 else 1)] S 0 := fun x5 hb => by
    refine bl_X2_settle_34 hG _ tO tT tB _ _ S ?_
    rw [if_pos hb]
    exact ⟨fun _ => ag x5 (fun z => z.2 hb), fun z => absurd rfl z⟩
  have bth : ∀ x5 : Int32, (S 8 tO v = -2 ∨ S 8 tT v = -2) → Sp_X4_holds [.inr (4, tB), .inl (nI v)] S (ab_back Q G 34 [some (.inr (2, 0)), some (.inl (nI v)), some (.inr (4, tO)), some (.inr (4, tT)), some (.inr (4, tB)), some (.inl x5), none, none] [] 0) := fun x5 ho => by
    refine sp_holds ?_
    rw [hl_n hv]
    by_cases hb : S 8 tB v = -2
    · exact ag' x5 hb
    · exact one x5 ⟨ho, hb⟩
  refine bl_X2_settle_0 hG _ tO tT tB S (sp_holds ?_)
  rw [hl_n hv]
  refine bl_X2_settle_5 hG _ tO tT tB _ S ?_
  by_cases co : S 8 tO v = -2
  · rw [if_pos co]
    exact ⟨fun _ => ⟨fun _ => bth 0 (Or.inl co), fun z => absurd rfl z⟩, fun z => absurd rfl z⟩
  · rw [if_neg co]
    refine ⟨fun z => absurd z (by decide), fun _ => sp_holds ?_⟩
    rw [hl_n hv]
    refine bl_X2_settle_13 hG _ tO tT tB _ S ?_
    by_cases ct : S 8 tT v = -2
    · rw [if_pos ct]
      exact ⟨fun _ => ⟨fun _ => bth 0 (Or.inr ct), fun z => absurd rfl z⟩, fun z => absurd rfl z⟩
    · rw [if_neg ct]
      exact ⟨fun z => absurd z (by decide), fun _ => ⟨fun z => absurd z (by decide), fun _ => ag 1 (fun z => z.1.elim co ct)⟩⟩
/-! The two later tests. -/
def hlR (f : Nat → Int32) (x : Int32) : Int32 := if x < 0 then 0 else if 24 ≤ x then 0 else if f x.toNatClampNeg = -2 then 0 else 1
def K2 (rl rp : Nat → Int32) (v : Nat) : Nat := if 0 < v ∧ rl v ≠ -2 ∧ hlR rl (rp v) = 0 then 4 else 0
def cm (f : Nat → Int32) : Nat → Int32 → Int32
  | 0, x => x
  | k + 1, x => if x ≤ 0 then x else cm f k (f x.toNatClampNeg)
def K3 (rl rp : Nat → Int32) (v : Nat) : Nat := if 0 < v ∧ rl v ≠ -2 ∧ cm rp 24 (nI v) ≠ 0 then 5 else 0
def Cl3 (rl rp : Nat → Int32) : Prop := ∀ v, 0 < v → v < 24 → rl v ≠ -2 → ∃ w, w < 24 ∧ rp v = nI w ∧ rl w ≠ -2
theorem hlR_1 {f : Nat → Int32} {x : Int32} (h : ¬ hlR f x = 0) : ∃ w, w < 24 ∧ x = nI w ∧ f w ≠ -2 := by
  unfold hlR at h
  by_cases a : x < 0
  · rw [if_pos a] at h; exact absurd rfl h
  rw [if_neg a] at h
  by_cases b : (24 : Int32) ≤ x
  · rw [if_pos b] at h; exact absurd rfl h
  rw [if_neg b] at h
  obtain ⟨j, hj, rfl⟩ := vp_in_of (lt24 a b) (by decide)
  rw [nI_clamp (by omega)] at h
  exact ⟨j, hj, rfl, fun z => h (if_pos z)⟩
theorem Cl3.of {rl rp : Nat → Int32} (h : ∀ v, v < 24 → K2 rl rp v = 0) : Cl3 rl rp := fun v v0 hv hr => by
  have := h v hv
  unfold K2 at this
  by_cases c : hlR rl (rp v) = 0
  · rw [if_pos ⟨v0, hr, c⟩] at this; omega
  · exact hlR_1 c
theorem cf_all0 {kd : Nat → Nat} {n : Nat} (h : cf kd n = 0) : ∀ v, v < n → kd v = 0 := fun v hv => by
  have := (fb_ct_zero.mp h) v hv
  simpa using this
theorem hl_R {S : ab_S} {rl : Nat → Int32} (h8 : ∀ v, v < 24 → S 8 13 v = rl v) (x : Int32) : hl S 13 x = hlR rl x := by
  unfold hl hlR
  by_cases a : x < 0
  · rw [if_pos a, if_pos a]
  rw [if_neg a, if_neg a]
  by_cases b : (24 : Int32) ≤ x
  · rw [if_pos b, if_pos b]
  rw [if_neg b, if_neg b]
  obtain ⟨j, hj, rfl⟩ := vp_in_of (lt24 a b) (by decide)
  rw [nI_clamp (by omega), h8 j hj]
theorem sp_noParent {Q : ab_Po} {S : ab_S} {rl rp : Nat → Int32} (h8 : ∀ v, v < 24 → S 8 13 v = rl v) (h7 : ∀ v, v < 24 → S 7 13 v = rp v) (h2 : S 2 0 2 = 0) (hQ : ∀ S', (∀ a b, (a ≠ 2 ∨ b ≠ 0) → (a ≠ 14 ∨ b ≠ 0) → S' a b = S a b) → CLg (S' 2 0 2) (S' 14 0) (K2 rl rp) 24 → Q (.inl none) S') : Sp_X2_nameThoseWithoutParent [.inr (2, 0)] S Q := by
  refine ⟨Nat.le_of_ble_eq_true rfl, fun G hG => ?_⟩
  refine bl_X2_nameThoseWithoutParent_0 hG S ?_
  have key : ∀ v, v ≤ 24 → 1 ≤ v → ∀ S1 : ab_S, (∀ a b, (a ≠ 2 ∨ b ≠ 0) → (a ≠ 14 ∨ b ≠ 0) → S1 a b = S a b) → CLg (S1 2 0 2) (S1 14 0) (K2 rl rp) v → G 2 [some (.inr (2, 0)), some (.inl (nI v))] [] S1 0 := by
    refine ind_up _ ?_ ?_
    · intro _ S1 h1 hC
      exact bl_X2_nameThoseWithoutParent_2 hG _ S1 ⟨fun _ => hQ S1 h1 hC, fun z => absurd (by decide) z⟩
    · intro v hv ih v1 S1 h1 hC
      have h8' : ∀ w, w < 24 → S1 8 13 w = rl w := fun w hw => by rw [h1 8 13 (by omega) (by omega)]; exact h8 w hw
      have h7' : S1 7 13 v = rp v := by rw [h1 7 13 (by omega) (by omega)]; exact h7 v hv
      refine bl_X2_nameThoseWithoutParent_2 hG _ S1 ⟨fun z => absurd z (nI_ge (b := 24) hv (by decide)), fun _ => sp_holds ?_⟩
      refine bl_X2_nameThoseWithoutParent_16 hG _ _ S1 ?_
      rw [hl_n hv, h8' v hv, nI_1]
      by_cases c : rl v = -2
      · rw [if_pos c]
        exact ⟨fun _ => ih (by omega) S1 h1 (hC.z (by unfold K2; rw [if_neg (fun z => z.2.1 c)])), fun z => absurd rfl z⟩
      · rw [if_neg c]
        refine ⟨fun z => absurd z (by decide), fun _ => ⟨vp_in_nI hv (by decide), ?_⟩⟩
        rw [nI_clamp (by omega), h7']
        refine sp_holds ?_
        rw [hl_R h8']
        refine bl_X2_nameThoseWithoutParent_35 hG _ _ S1 ⟨fun e => ?_, fun e => ?_⟩
        · have hk : K2 rl rp v = 4 := by unfold K2; rw [if_pos ⟨by omega, c, e⟩]
          have hcf := cf_le (K2 rl rp) v
          refine sp_name (v := v) (c := 4) hC.1 (by omega) (fun S2 a1 a2 a3 a4 => ?_)
          refine bl_X2_nameThoseWithoutParent_44 hG _ S2 ?_
          rw [nI_1]
          refine ih (by omega) S2 (fun a b z1 z2 => by rw [a1 a b z1 z2]; exact h1 a b z1 z2) ?_
          rw [a2]
          exact hC.s (by omega) (by rw [hk]; exact a3) a4
        · rw [nI_1]
          exact ih (by omega) S1 h1 (hC.z (by unfold K2; rw [if_neg (fun z => e z.2.2)]))
  exact key 1 (by omega) (by omega) S (fun _ _ _ _ => rfl) (by rw [h2]; exact CLg.nil.z (by unfold K2; rw [if_neg (fun z => by omega)]))
theorem sp_comesToRoot {Q : ab_Po} {S : ab_S} {rl rp : Nat → Int32} {v : Nat} (h7 : ∀ v, v < 24 → S 7 13 v = rp v) (hc : Cl3 rl rp) (hv : v < 24) (hr : rl v ≠ -2) (hQ : Q (.inl (some (if cm rp 24 (nI v) = 0 then 1 else 0))) S) : Sp_X2_comesToRoot [.inr (2, 0), .inl (nI v)] S Q := by
  refine ⟨Nat.le_of_ble_eq_true rfl, fun G hG => ?_⟩
  refine bl_X2_comesToRoot_0 hG _ S ?_
  have key : ∀ k, k ≤ 24 → ∀ w, w < 24 → rl w ≠ -2 → cm rp (24 - k) (nI w) = cm rp 24 (nI v) → G 4 [some (.inr (2, 0)), some (.inl (nI v)), some (.inl (nI w)), some (.inl (nI k))] [] S 0 := by
    have res : ∀ w, nI w = cm rp 24 (nI v) → (nI w = 0 → Q (.inl (some (1 : Int32))) S) ∧ (¬ nI w = 0 → Q (.inl (some (0 : Int32))) S) := fun w e => by
      rw [← e] at hQ
      exact ⟨fun z => by rw [if_pos z] at hQ; exact hQ, fun z => by rw [if_neg z] at hQ; exact hQ⟩
    refine ind_up _ ?_ ?_
    · intro w hw _ e
      exact bl_X2_comesToRoot_4 hG _ _ _ S ⟨fun _ => res w e, fun z => absurd (by decide) z⟩
    · intro k hk ih w hw hrw e
      rw [show 24 - k = (24 - (k + 1)) + 1 by omega] at e
      refine bl_X2_comesToRoot_4 hG _ _ _ S ⟨fun z => absurd z (nI_ge (b := 24) hk (by decide)), fun _ => ⟨fun z => ?_, fun z => ⟨vp_in_nI hw (by decide), ?_⟩⟩⟩
      · unfold cm at e; rw [if_pos z] at e; exact res w e
      · unfold cm at e
        rw [if_neg z, nI_clamp (by omega)] at e
        rw [nI_clamp (by omega), h7 w hw, nI_1]
        have w0 : 0 < w := by
          rcases Nat.eq_zero_or_pos w with q | q
          · subst q; exact absurd (by decide) z
          · exact q
        obtain ⟨u, hu, eu, hru⟩ := hc w w0 hw hrw
        rw [eu] at e ⊢
        exact ih u hu hru e
  exact key 0 (by omega) v hv hr rfl
theorem sp_cutOff {Q : ab_Po} {S : ab_S} {rl rp : Nat → Int32} (hc : Cl3 rl rp) (h8 : ∀ v, v < 24 → S 8 13 v = rl v) (h7 : ∀ v, v < 24 → S 7 13 v = rp v) (h2 : S 2 0 2 = 0) (hQ : ∀ S', (∀ a b, (a ≠ 2 ∨ b ≠ 0) → (a ≠ 14 ∨ b ≠ 0) → S' a b = S a b) → CLg (S' 2 0 2) (S' 14 0) (K3 rl rp) 24 → Q (.inl none) S') : Sp_X2_nameThoseCutOff [.inr (2, 0)] S Q := by
  refine ⟨Nat.le_of_ble_eq_true rfl, fun G hG => ?_⟩
  refine bl_X2_nameThoseCutOff_0 hG S ?_
  have key : ∀ v, v ≤ 24 → 1 ≤ v → ∀ S1 : ab_S, (∀ a b, (a ≠ 2 ∨ b ≠ 0) → (a ≠ 14 ∨ b ≠ 0) → S1 a b = S a b) → CLg (S1 2 0 2) (S1 14 0) (K3 rl rp) v → G 2 [some (.inr (2, 0)), some (.inl (nI v))] [] S1 0 := by
    refine ind_up _ ?_ ?_
    · intro _ S1 h1 hC
      exact bl_X2_nameThoseCutOff_2 hG _ S1 ⟨fun _ => hQ S1 h1 hC, fun z => absurd (by decide) z⟩
    · intro v hv ih v1 S1 h1 hC
      have h8' : ∀ w, w < 24 → S1 8 13 w = rl w := fun w hw => by rw [h1 8 13 (by omega) (by omega)]; exact h8 w hw
      have h7' : ∀ w, w < 24 → S1 7 13 w = rp w := fun w hw => by rw [h1 7 13 (by omega) (by omega)]; exact h7 w hw
      refine bl_X2_nameThoseCutOff_2 hG _ S1 ⟨fun z => absurd z (nI_ge (b := 24) hv (by decide)), fun _ => sp_holds ?_⟩
      refine bl_X2_nameThoseCutOff_16 hG _ _ S1 ?_
      rw [hl_n hv, h8' v hv, nI_1]
      by_cases c : rl v = -2
      · rw [if_pos c]
        exact ⟨fun _ => ih (by omega) S1 h1 (hC.z (by unfold K3; rw [if_neg (fun z => z.2.1 c)])), fun z => absurd rfl z⟩
      · rw [if_neg c]
        refine ⟨fun z => absurd z (by decide), fun _ => sp_comesToRoot h7' hc hv c ?_⟩
        refine bl_X2_nameThoseCutOff_24 hG _ _ S1 ?_
        by_cases e : cm rp 24 (nI v) = 0
        · rw [if_pos e, nI_1]
          exact ⟨fun z => absurd z (by decide), fun _ => ih (by omega) S1 h1 (hC.z (by unfold K3; rw [if_neg (fun z => z.2.2 e)]))⟩
        · rw [if_neg e]
          refine ⟨fun _ => ?_, fun z => absurd rfl z⟩
          have hk : K3 rl rp v = 5 := by unfold K3; rw [if_pos ⟨by omega, c, e⟩]
          have hcf := cf_le (K3 rl rp) v
          refine sp_name (v := v) (c := 5) hC.1 (by omega) (fun S2 a1 a2 a3 a4 => ?_)
          refine bl_X2_nameThoseCutOff_33 hG _ S2 ?_
          rw [nI_1]
          refine ih (by omega) S2 (fun a b z1 z2 => by rw [a1 a b z1 z2]; exact h1 a b z1 z2) ?_
          rw [a2]
          exact hC.s (by omega) (by rw [hk]; exact a3) a4
  exact key 1 (by omega) (by omega) S (fun _ _ _ _ => rfl) (by rw [h2]; exact CLg.nil.z (by unfold K3; rw [if_neg (fun z => by omega)]))
