/-! The model's merge: what becomes of each node. -/
def MLk (S : ab_S) (u : Nat) (l p : Nat → Int32) : Prop := ∀ v, v < 24 → (S 22 0 (24 * u + v) = if l v = -2 then 0 else 1) ∧ (l v ≠ -2 → S 23 0 (24 * u + v) = l v ∧ S 24 0 (24 * u + v) = p v)
theorem MLk.of {S S' : ab_S} {t u made : Nat} {d : sD} (hk : Okd made d) (h : CTd S t d) (h' : MTd S' u d) : MLk S' u (S 8 t) (S 7 t) := fun v hv => by
  have hS := hk.1
  by_cases c : ∃ i, i < d.1 ∧ d.2.1 i = v
  · obtain ⟨i, hi, rfl⟩ := c
    have e := (h.1.2.1 i hi).2.2
    obtain ⟨c, hc, e2⟩ := (hk.2 i hi).2
    have ne : S 8 t (d.2.1 i) ≠ -2 := by rw [e, e2]; exact nu_ne (by omega) (by decide)
    refine ⟨by rw [if_neg ne]; exact (h'.1 i hi).1, fun _ => ⟨by rw [(h'.1 i hi).2, e], ?_⟩⟩
    rcases Nat.eq_zero_or_pos i with q | q
    · subst q; rw [hS.2.2.1, h.1.2.2.1]; exact h'.2.1.1
    · rw [(h'.2.2.1 i q hi).1, h.1.2.2.2 i q hi]
  · have e := h.2 v hv (fun i hi w => c ⟨i, hi, w⟩)
    rw [if_pos e.2]
    exact ⟨h'.2.2.2 v hv (fun i hi w => c ⟨i, hi, w⟩), fun z => absurd e.2 z⟩
def oS (lo po lt pt lb pb : Int32) : Nat := if lo ≠ -2 ∧ lt ≠ -2 then 1 else if lo = -2 ∧ lt = -2 then 0 else if lb = -2 then 1 else if lb = (if lo = -2 then lt else lo) ∧ pb = (if lo = -2 then pt else po) then 0 else 2
theorem oS_le (lo po lt pt lb pb : Int32) : oS lo po lt pt lb pb ≤ 2 := by
  unfold oS
  by_cases h1 : lo ≠ -2 ∧ lt ≠ -2
  · rw [if_pos h1]; decide
  rw [if_neg h1]
  by_cases h2 : lo = -2 ∧ lt = -2
  · rw [if_pos h2]; decide
  rw [if_neg h2]
  by_cases h3 : lb = -2
  · rw [if_pos h3]; decide
  rw [if_neg h3]
  by_cases h4 : lb = (if lo = -2 then lt else lo) ∧ pb = (if lo = -2 then pt else po)
  · rw [if_pos h4]; decide
  rw [if_neg h4]; decide
theorem sp_m_stay {Q : ab_Po} {S : ab_S} {hO cT bB v : Nat} {lo po lt pt lb pb : Nat → Int32} (h1 : hO < 12) (h2 : cT < 12) (h3 : bB < 12) (hv : v < 24) (mO : MLk S hO lo po) (mT : MLk S cT lt pt) (mB : MLk S bB lb pb) (hQ : Q (.inl (some (nI (oS (lo v) (po v) (lt v) (pt v) (lb v) (pb v))))) S) : Sp_X6_stay [.inr (21, 0), .inl (nI (24 * hO + v)), .inl (nI (24 * cT + v)), .inl (nI (24 * bB + v))] S Q := by
  refine ⟨Nat.le_of_ble_eq_true rfl, fun G hG => ?_⟩
  have i1 : vp_in (nI (24 * hO + v)) 336 := vp_in_nI (by omega) (by decide)
  have i2 : vp_in (nI (24 * cT + v)) 336 := vp_in_nI (by omega) (by decide)
  have i3 : vp_in (nI (24 * bB + v)) 336 := vp_in_nI (by omega) (by decide)
  obtain ⟨o1, o2⟩ := mO v hv
  obtain ⟨t1, t2⟩ := mT v hv
  obtain ⟨b1, b2⟩ := mB v hv
  refine bl_X6_stay_0 hG _ _ _ S ?_
  rw [nI_clamp (by omega), nI_clamp (by omega), nI_clamp (by omega), o1, t1, b1]
  unfold oS at hQ
  by_cases co : lo v = -2
  · rw [if_neg (fun z => z.1 co)] at hQ
    rw [if_pos co]
    refine ⟨i1, fun _ => ⟨i1, fun _ => ⟨i2, fun y => ?_, fun y => ?_⟩, fun y => absurd rfl y⟩, fun y => absurd rfl y⟩
    · by_cases ct : lt v = -2
      · rw [if_pos ⟨co, ct⟩] at hQ; exact hQ
      · rw [if_neg ct] at y; exact absurd y (by decide)
    · by_cases ct : lt v = -2
      · rw [if_pos ct] at y; exact absurd rfl y
      · rw [if_neg (fun z => ct z.2)] at hQ
        by_cases cb : lb v = -2
        · rw [if_pos cb] at hQ ⊢
          exact ⟨i3, fun _ => hQ, fun z => absurd rfl z⟩
        · rw [if_neg cb] at hQ ⊢
          rw [if_pos co, if_pos co] at hQ
          rw [(b2 cb).1, (b2 cb).2, (t2 ct).1, (t2 ct).2]
          refine ⟨i3, fun z => absurd z (by decide), fun _ => ⟨i3, i2, fun e1 => ⟨i3, i2, fun e2 => ?_, fun e2 => ?_⟩, fun e1 => ?_⟩⟩
          · rw [if_pos ⟨e1, e2⟩] at hQ; exact hQ
          · rw [if_neg (fun z => e2 z.2)] at hQ; exact hQ
          · rw [if_neg (fun z => e1 z.1)] at hQ; exact hQ
  · rw [if_neg co]
    refine ⟨i1, fun y => absurd y (by decide), fun _ => ⟨i2, fun y => ?_, fun y => ?_⟩⟩
    · by_cases ct : lt v = -2
      · rw [if_neg (fun z => z.2 ct), if_neg (fun z => co z.1)] at hQ
        refine ⟨i1, fun z => absurd z (by decide), fun _ => ⟨i1, fun z => absurd z (by decide), fun _ => ?_⟩⟩
        by_cases cb : lb v = -2
        · rw [if_pos cb] at hQ ⊢
          exact ⟨i3, fun _ => hQ, fun z => absurd rfl z⟩
        · rw [if_neg cb] at hQ ⊢
          rw [if_neg co, if_neg co] at hQ
          rw [(b2 cb).1, (b2 cb).2, (o2 co).1, (o2 co).2]
          refine ⟨i3, fun z => absurd z (by decide), fun _ => ⟨i3, i1, fun e1 => ⟨i3, i1, fun e2 => ?_, fun e2 => ?_⟩, fun e1 => ?_⟩⟩
          · rw [if_pos ⟨e1, e2⟩] at hQ; exact hQ
          · rw [if_neg (fun z => e2 z.2)] at hQ; exact hQ
          · rw [if_neg (fun z => e1 z.1)] at hQ; exact hQ
      · rw [if_neg ct] at y; exact absurd y (by decide)
    · by_cases ct : lt v = -2
      · rw [if_pos ct] at y; exact absurd rfl y
      · rw [if_pos ⟨co, ct⟩] at hQ; exact hQ
def cho (a b c : Int32) : Int32 := if agr a b c = -3 then -9 else agr a b c
theorem sp_m_choose {Q : ab_Po} {S : ab_S} {a b c x y : Int32} (ha : a ≠ -2 ∧ a ≠ -3) (hb : b ≠ -2 ∧ b ≠ -3) (hx : x = if c = -2 then 0 else 1) (hy : c ≠ -2 → y = c) (hQ : Q (.inl (some (cho a b c))) S) : Sp_X6_choose [.inl a, .inl b, .inl x, .inl y] S Q := by
  refine ⟨Nat.le_of_ble_eq_true rfl, fun G hG => ?_⟩
  refine bl_X6_choose_0 hG _ _ _ _ S ?_
  have e : cho a b c = if a = b then a else if a = c then b else if b = c then a else -9 := by
    unfold cho agr
    by_cases h1 : a = b
    · rw [if_pos h1, if_pos h1, if_neg ha.2]
    rw [if_neg h1, if_neg h1, if_neg hb.1, if_neg ha.1]
    by_cases h2 : a = c
    · rw [if_pos h2, if_pos h2, if_neg hb.2]
    rw [if_neg h2, if_neg h2]
    by_cases h3 : b = c
    · rw [if_pos h3, if_pos h3, if_neg ha.2]
    rw [if_neg h3, if_neg h3, if_pos rfl]
  rw [e] at hQ
  by_cases h1 : a = b
  · rw [if_pos h1] at hQ; exact ⟨fun _ => hQ, fun z => absurd h1 z⟩
  rw [if_neg h1] at hQ
  refine ⟨fun z => absurd z h1, fun _ => ?_⟩
  by_cases hc : c = -2
  · rw [if_pos hc] at hx
    rw [if_neg (fun z => ha.1 (z.trans hc)), if_neg (fun z => hb.1 (z.trans hc))] at hQ
    exact ⟨fun _ => ⟨fun _ => hQ, fun z => absurd hx z⟩, fun z => absurd hx z⟩
  · rw [if_neg hc] at hx
    have hy := hy hc
    rw [hx, hy]
    refine ⟨fun z => absurd z (by decide), fun _ => ⟨fun z => ?_, fun z => ⟨fun w => absurd w (by decide), fun _ => ⟨fun w => ?_, fun w => ?_⟩⟩⟩⟩
    · rw [if_pos z.symm] at hQ; exact hQ
    · rw [if_neg (fun q => z q.symm), if_pos w.symm] at hQ; exact hQ
    · rw [if_neg (fun q => z q.symm), if_neg (fun q => w q.symm)] at hQ; exact hQ
/-- what meet leaves of a node -/
def MtI (S : ab_S) (k : Nat) (rl rp : Int32) (v : Nat) : Prop := S 31 0 v = nI k ∧ (k = 0 → (S 30 0 v = if rl = -2 then 0 else 1) ∧ (rl ≠ -2 → S 32 0 v = rl ∧ S 33 0 v = rp))
def OffM (S S' : ab_S) : Prop := ∀ a b, ((a ≠ 30 ∧ a ≠ 31 ∧ a ≠ 32 ∧ a ≠ 33) ∨ b ≠ 0) → S' a b = S a b
theorem OffM.tr {S S1 S2 : ab_S} (h : OffM S S1) (h2 : OffM S1 S2) : OffM S S2 := fun a b z => (h2 a b z).trans (h a b z)
theorem TF.n3 {made : Nat} {l p : Nat → Int32} (h : TF made l p) {v : Nat} (hv : v < 24) (hl : l v ≠ -2) : (l v ≠ -2 ∧ l v ≠ -3 ∧ l v ≠ -9) ∧ (p v ≠ -2 ∧ p v ≠ -3 ∧ p v ≠ -9) := by
  obtain ⟨_, ⟨c, hc, e⟩, hp⟩ := h.2.1 v hv hl
  refine ⟨⟨hl, by rw [e]; exact nu_ne (by omega) (by decide), by rw [e]; exact nu_ne (by omega) (by decide)⟩, ?_⟩
  rcases hp with ⟨_, e2⟩ | ⟨_, w, hw, e2⟩
  · rw [e2]; decide
  · rw [e2]; exact ⟨nu_ne (by omega) (by decide), nu_ne (by omega) (by decide), nu_ne (by omega) (by decide)⟩
theorem sp_m_meet {Q : ab_Po} {S : ab_S} {hO cT bB v made : Nat} {lo po lt pt lb pb : Nat → Int32} (hh : S 21 0 10 = nI hO) (h1 : hO < 12) (h2 : cT < 12) (h3 : bB < 12) (hv : v < 24) (mO : MLk S hO lo po) (mT : MLk S cT lt pt) (mB : MLk S bB lb pb) (fO : TF made lo po) (fT : TF made lt pt) (fB : TF made lb pb)
    (hQ : ∀ S', OffM S S' → (∀ a j, j ≠ v → S' a 0 j = S a 0 j) → MtI S' (kF lo po lt pt lb pb v) (lF lo po lt pt lb pb v) (pF lo po lt pt lb pb v) v → Q (.inl none) S') : Sp_X6_meet [.inr (21, 0), .inl (nI v), .inl (nI cT), .inl (nI bB)] S Q := by
  refine ⟨Nat.le_of_ble_eq_true rfl, fun G hG => ?_⟩
  have i1 : vp_in (nI (24 * hO + v)) 336 := vp_in_nI (by omega) (by decide)
  have i2 : vp_in (nI (24 * cT + v)) 336 := vp_in_nI (by omega) (by decide)
  have i3 : vp_in (nI (24 * bB + v)) 336 := vp_in_nI (by omega) (by decide)
  have iv : vp_in (nI v) 24 := vp_in_nI hv (by decide)
  refine bl_X6_meet_0 hG _ _ _ S ?_
  rw [hh, mi, mi, mi]
  refine sp_m_stay h1 h2 h3 hv mO mT mB ?_
  -- what the flags become
  generalize hs : oS (lo v) (po v) (lt v) (pt v) (lb v) (pb v) = st
  have st2 : st ≤ 2 := by rw [← hs]; exact oS_le _ _ _ _ _ _
  have at54 : ∀ fl : Int32, fl = (if st = 0 then 0 else 1) → G 54 [some (.inr (21, 0)), some (.inl (nI v)), some (.inl (nI cT)), some (.inl (nI bB)), some (.inl (nI (24 * hO + v))), some (.inl (nI (24 * cT + v))), some (.inl (nI (24 * bB + v))), some (.inl (nI st)), none, none] [.inl fl, .inl (nI v), .inr (30, 0)] S 0 := fun fl hfl => by
    refine bl_X6_meet_54 hG _ _ _ _ _ _ _ _ _ S ⟨iv, fun S1 e1 => ?_⟩
    rw [nI_clamp (by omega)] at e1
    have at71 : ∀ kd : Int32, kd = (if st = 2 then 1 else 0) → G 71 [some (.inr (21, 0)), some (.inl (nI v)), some (.inl (nI cT)), some (.inl (nI bB)), some (.inl (nI (24 * hO + v))), some (.inl (nI (24 * cT + v))), some (.inl (nI (24 * bB + v))), some (.inl (nI st)), none, none] [.inl kd, .inl (nI v), .inr (31, 0)] S1 0 := fun kd hkd => by
      refine bl_X6_meet_71 hG _ _ _ _ _ _ _ _ _ S1 ⟨iv, fun S2 e2 => ?_⟩
      rw [nI_clamp (by omega)] at e2
      have off2 : OffM S S2 := fun a b z => by rw [e2, su_o (by omega), e1, su_o (by omega)]
      have j2 : ∀ a j, j ≠ v → S2 a 0 j = S a 0 j := fun a j hj => by
        have u1 : ∀ (T : ab_S) (κ : Nat) (x : Int32), ab_su T κ 0 v x a 0 j = T a 0 j := fun T κ x => by
          by_cases q : a = κ
          · subst q; exact su_j hj
          · rw [su_o (Or.inl q)]
        rw [e2, u1, e1, u1]
      have f30 : S2 30 0 v = if st = 0 then 0 else 1 := by
        rw [e2, su_o (by omega), e1, su_at, hfl]
        by_cases q : st = 0
        · rw [if_pos q]; exact nar0
        · rw [if_neg q]; exact nar1
      have f31 : S2 31 0 v = if st = 2 then 1 else 0 := by rw [e2, su_at, hkd]
      obtain ⟨o1, o2⟩ := mO v hv
      obtain ⟨t1, t2⟩ := mT v hv
      obtain ⟨b1, b2⟩ := mB v hv
      have r22 : ∀ j, S2 22 0 j = S 22 0 j := fun j => by rw [off2 22 0 (by omega)]
      have r23 : ∀ j, S2 23 0 j = S 23 0 j := fun j => by rw [off2 23 0 (by omega)]
      have r24 : ∀ j, S2 24 0 j = S 24 0 j := fun j => by rw [off2 24 0 (by omega)]
      refine ⟨fun z => ?_, fun z => ⟨i1, ?_⟩⟩
      · -- it doesn't stay
        have s0 : st = 0 := (nI_eq (b := 0) (by omega) (by decide)).mp z
        refine hQ S2 off2 j2 ?_
        subst s0
        have kz : kF lo po lt pt lb pb v = 0 ∧ lF lo po lt pt lb pb v = -2 := by
          unfold oS at hs
          unfold kF oK lF oL
          by_cases q1 : lo v ≠ -2 ∧ lt v ≠ -2
          · rw [if_pos q1] at hs; omega
          rw [if_neg q1] at hs
          by_cases q2 : lo v = -2 ∧ lt v = -2
          · rw [if_pos q2, if_pos q2]; exact ⟨rfl, rfl⟩
          rw [if_neg q2] at hs ⊢
          by_cases q3 : lb v = -2
          · rw [if_pos q3] at hs; omega
          rw [if_neg q3] at hs
          have q4 : (lo v = -2 ∨ lt v = -2) ∧ lb v ≠ -2 := ⟨by
            by_cases w : lo v = -2
            · exact Or.inl w
            · exact Or.inr (Classical.byContradiction (fun y => q1 ⟨w, y⟩)), q3⟩
          rw [if_pos q4, if_neg q2, if_pos q4]
          by_cases q5 : lb v = (if lo v = -2 then lt v else lo v) ∧ pb v = (if lo v = -2 then pt v else po v)
          · rw [if_pos ⟨q5.1.symm, q5.2.symm⟩]; exact ⟨rfl, rfl⟩
          · rw [if_neg q5] at hs; omega
        rw [kz.1, kz.2]
        refine ⟨by rw [f31, if_neg (by decide)]; rfl, fun _ => ⟨by rw [f30, if_pos rfl, if_pos rfl], fun y => absurd rfl y⟩⟩
      · have s0 : st ≠ 0 := fun q => z (by rw [q]; rfl)
        rw [nI_clamp (by omega), r22, o1]
        -- the end: label and parent are put down
        have fin : ∀ (x8 x9 : Int32) (S3 : ab_S) (nl np : Int32), OffM S2 S3 → (∀ a j, j ≠ v → S3 a 0 j = S2 a 0 j) → S3 30 0 v = S2 30 0 v → S3 31 0 v = S2 31 0 v → S3 32 0 v = nl → S3 33 0 v = np → ((st = 2 ∧ kF lo po lt pt lb pb v = 1) ∨ (st = 1 ∧ kF lo po lt pt lb pb v = (if nl = -9 then 2 else if np = -9 then 3 else 0) ∧ (kF lo po lt pt lb pb v = 0 → lF lo po lt pt lb pb v ≠ -2 ∧ nl = lF lo po lt pt lb pb v ∧ np = pF lo po lt pt lb pb v))) → G 228 [some (.inr (21, 0)), some (.inl (nI v)), some (.inl (nI cT)), some (.inl (nI bB)), some (.inl (nI (24 * hO + v))), some (.inl (nI (24 * cT + v))), some (.inl (nI (24 * bB + v))), some (.inl (nI st)), some (.inl x8), some (.inl x9)] [] S3 0 := fun x8 x9 S3 nl np g1 g2 g30 g31 g32 g33 hcase => by
          refine bl_X6_meet_228 hG _ _ _ _ _ _ _ _ _ S3 ?_
          rw [nI_clamp (by omega), g31, g32, g33, f31]
          rcases hcase with ⟨c1, c2⟩ | ⟨c1, c2, c3⟩
          · rw [if_pos c1]
            refine ⟨iv, fun w => absurd w (by decide), fun _ => hQ S3 (off2.tr g1) (fun a j hj => by rw [g2 a j hj]; exact j2 a j hj) ?_⟩
            rw [c2]
            exact ⟨by rw [g31, f31, if_pos c1]; rfl, fun w => absurd w (by decide)⟩
          · rw [if_neg (show ¬ st = 2 by omega)]
            have last : ∀ (S4 : ab_S) (kk : Nat), S4 = ab_su S3 31 0 v (nI kk) → kF lo po lt pt lb pb v = kk → Q (.inl none) S4 := fun S4 kk e4 hkk => by
              refine hQ S4 (fun a b y => by rw [e4, su_o (by omega)]; exact (off2.tr g1) a b y) (fun a j hj => ?_) ⟨by rw [e4, su_at, hkk], fun k0 => ?_⟩
              · by_cases q : a = 31
                · subst q; rw [e4, su_j hj, g2 31 j hj]; exact j2 31 j hj
                · rw [e4, su_o (Or.inl q), g2 a j hj]; exact j2 a j hj
              · obtain ⟨w1, w2, w3⟩ := c3 k0
                rw [e4, su_o (by omega), g30, f30, if_neg s0, if_neg w1]
                exact ⟨rfl, fun _ => ⟨by rw [su_o (by omega), g32]; exact w2, by rw [su_o (by omega), g33]; exact w3⟩⟩
            refine ⟨iv, fun _ => ⟨iv, fun w => ⟨iv, fun S4 e4 => last S4 2 e4 (by rw [c2, if_pos w])⟩, fun w => ⟨iv, fun w2 => ⟨iv, fun S4 e4 => last S4 3 e4 (by rw [c2, if_neg w, if_pos w2])⟩, fun w2 => ⟨iv, fun S4 e4 => last S4 0 e4 (by rw [c2, if_neg w, if_neg w2])⟩⟩⟩, fun w => absurd rfl w⟩
        by_cases both : lo v ≠ -2 ∧ lt v ≠ -2
        · -- both have it
          have s1 : st = 1 := by rw [← hs]; unfold oS; rw [if_pos both]
          have e0 : (if lo v = -2 then (0 : Int32) else 1) = 1 := if_neg both.1
          rw [e0]
          refine ⟨fun w => absurd w (by decide), fun _ => ?_⟩
          refine bl_X6_meet_97 hG _ _ _ _ _ _ _ _ S2 ?_
          rw [nI_clamp (by omega), nI_clamp (by omega), r22, r22, o1, t1, e0, if_neg both.2]
          refine ⟨i1, fun w => absurd w (by decide), fun _ => ⟨i2, fun w => absurd w (by decide), fun _ => ?_⟩⟩
          have n3o := fO.n3 hv both.1
          have n3t := fT.n3 hv both.2
          have xb : ∀ T : ab_S, (∀ j, T 22 0 j = S 22 0 j) → T 22 0 (24 * bB + v) = if lb v = -2 then 0 else 1 := fun T hT => by rw [hT]; exact b1
          refine bl_X6_meet_124 hG _ _ _ _ _ _ _ _ _ S2 ⟨fun w => absurd w (by decide), fun _ => ⟨i1, i2, i3, i3, ?_⟩⟩
          rw [nI_clamp (by omega), nI_clamp (by omega), nI_clamp (by omega), r23, r23, r23, (o2 both.1).1, (t2 both.2).1]
          refine sp_m_choose (c := lb v) ⟨n3o.1.1, n3o.1.2.1⟩ ⟨n3t.1.1, n3t.1.2.1⟩ (by rw [r22]; exact b1) (fun w => (b2 w).1) ?_
          refine bl_X6_meet_165 hG _ _ _ _ _ _ _ _ _ _ _ S2 ⟨iv, fun S3 e3 => ?_⟩
          rw [nI_clamp (by omega)] at e3
          have q22 : ∀ j, S3 22 0 j = S 22 0 j := fun j => by rw [e3, su_o (by omega), r22]
          have q24 : ∀ j, S3 24 0 j = S 24 0 j := fun j => by rw [e3, su_o (by omega), r24]
          refine bl_X6_meet_176 hG _ _ _ _ _ _ _ _ _ S3 ⟨fun w => absurd w (by decide), fun _ => ⟨i1, i2, i3, i3, ?_⟩⟩
          rw [nI_clamp (by omega), nI_clamp (by omega), nI_clamp (by omega), q24, q24, q24, (o2 both.1).2, (t2 both.2).2]
          refine sp_m_choose (c := pb v) ⟨n3o.2.1, n3o.2.2.1⟩ ⟨n3t.2.1, n3t.2.2.1⟩ ?_ (fun w => (b2 ((fB.lp hv).mpr w)).2) ?_
          · rw [q22, b1]
            by_cases w : lb v = -2
            · rw [if_pos w, if_pos (fB.1 v hv w)]
            · rw [if_neg w, if_neg ((fB.lp hv).mp w)]
          refine bl_X6_meet_217 hG _ _ _ _ _ _ _ _ _ _ _ S3 ⟨iv, fun S4 e4 => ?_⟩
          rw [nI_clamp (by omega)] at e4
          have u1 : ∀ (T : ab_S) (κ : Nat) (x : Int32) (a j : Nat), j ≠ v → ab_su T κ 0 v x a 0 j = T a 0 j := fun T κ x a j hj => by
            by_cases q : a = κ
            · subst q; exact su_j hj
            · rw [su_o (Or.inl q)]
          refine fin _ _ S4 (cho (lo v) (lt v) (lb v)) (cho (po v) (pt v) (pb v)) (fun a b y => by rw [e4, su_o (by omega), e3, su_o (by omega)]) (fun a j hj => by rw [e4, u1 _ _ _ _ _ hj, e3, u1 _ _ _ _ _ hj]) (by rw [e4, su_o (by omega), e3, su_o (by omega)]) (by rw [e4, su_o (by omega), e3, su_o (by omega)]) (by rw [e4, su_o (by omega), e3, su_at]) (by rw [e4, su_at]) (Or.inr ⟨s1, ?_⟩)
          have h1' : ¬ (lo v = -2 ∧ lt v = -2) := fun y => both.1 y.1
          have h2' : ¬ ((lo v = -2 ∨ lt v = -2) ∧ lb v ≠ -2) := fun y => y.1.elim both.1 both.2
          have al := (agr_or (c := lb v) (Or.inl both.1 : lo v ≠ -2 ∨ lt v ≠ -2))
          have ap := (agr_or (c := pb v) (Or.inl n3o.2.1 : po v ≠ -2 ∨ pt v ≠ -2))
          unfold kF oK lF oL pF oP cho
          rw [if_neg h1', if_neg h1', if_neg h1', if_neg h2', if_neg h2', if_neg h2']
          by_cases w : agr (lo v) (lt v) (lb v) = -3
          · rw [if_pos w, if_pos w, if_pos rfl]
            exact ⟨rfl, fun y => absurd y (by decide)⟩
          · have n9 : agr (lo v) (lt v) (lb v) ≠ -9 := by
              rcases al with y | ⟨y, _⟩ | ⟨y, _⟩
              · exact absurd y w
              · rw [y]; exact n3o.1.2.2
              · rw [y]; exact n3t.1.2.2
            rw [if_neg w, if_neg w, if_neg w, if_neg w, if_neg n9]
            by_cases w2 : agr (po v) (pt v) (pb v) = -3
            · rw [if_pos w2, if_pos w2, if_pos rfl]
              exact ⟨rfl, fun y => absurd y (by decide)⟩
            · have n9' : agr (po v) (pt v) (pb v) ≠ -9 := by
                rcases ap with y | ⟨y, _⟩ | ⟨y, _⟩
                · exact absurd y w2
                · rw [y]; exact n3o.2.2.2
                · rw [y]; exact n3t.2.2.2
              rw [if_neg w2, if_neg w2, if_neg w2, if_neg w2, if_neg n9']
              exact ⟨rfl, fun _ => ⟨agr_n2 _ _ _ (Or.inl both.1), rfl, rfl⟩⟩
        · -- one alone has it
          have hone : (lo v = -2 ∧ lt v ≠ -2) ∨ (lo v ≠ -2 ∧ lt v = -2) := by
            by_cases w : lo v = -2
            · refine Or.inl ⟨w, fun y => s0 ?_⟩
              rw [← hs]; unfold oS; rw [if_neg both, if_pos ⟨w, y⟩]
            · exact Or.inr ⟨w, Classical.byContradiction (fun y => both ⟨w, y⟩)⟩
          have one : ∀ (ix : Nat) (lx px : Int32), ix < 336 → S 23 0 ix = lx → S 24 0 ix = px → lx = (if lo v = -2 then lt v else lo v) → px = (if lo v = -2 then pt v else po v) → (lx ≠ -2 ∧ lx ≠ -3 ∧ lx ≠ -9) → (px ≠ -2 ∧ px ≠ -3 ∧ px ≠ -9) → agr (lo v) (lt v) (lb v) = lx → agr (po v) (pt v) (pb v) = px → G 97 [some (.inr (21, 0)), some (.inl (nI v)), some (.inl (nI cT)), some (.inl (nI bB)), some (.inl (nI (24 * hO + v))), some (.inl (nI (24 * cT + v))), some (.inl (nI (24 * bB + v))), some (.inl (nI st)), some (.inl (nI ix)), none] [] S2 0 := fun ix lx px hix el ep elx epx nl np al ap => by
            have ii : vp_in (nI ix) 336 := vp_in_nI hix (by decide)
            have at124 : G 124 [some (.inr (21, 0)), some (.inl (nI v)), some (.inl (nI cT)), some (.inl (nI bB)), some (.inl (nI (24 * hO + v))), some (.inl (nI (24 * cT + v))), some (.inl (nI (24 * bB + v))), some (.inl (nI st)), some (.inl (nI ix)), some (.inl 0)] [] S2 0 := by
              refine bl_X6_meet_124 hG _ _ _ _ _ _ _ _ _ S2 ⟨fun _ => ⟨ii, iv, fun S3 e3 => ?_⟩, fun w => absurd rfl w⟩
              rw [nI_clamp (by omega), nI_clamp (by omega), r23, el] at e3
              refine bl_X6_meet_176 hG _ _ _ _ _ _ _ _ _ S3 ⟨fun _ => ⟨ii, iv, fun S4 e4 => ?_⟩, fun w => absurd rfl w⟩
              have q24 : S3 24 0 ix = px := by rw [e3, su_o (by omega), r24, ep]
              rw [nI_clamp (by omega), nI_clamp (by omega), q24] at e4
              have u1 : ∀ (T : ab_S) (κ : Nat) (x : Int32) (a j : Nat), j ≠ v → ab_su T κ 0 v x a 0 j = T a 0 j := fun T κ x a j hj => by
                by_cases q : a = κ
                · subst q; exact su_j hj
                · rw [su_o (Or.inl q)]
              refine fin _ _ S4 lx px (fun a b y => by rw [e4, su_o (by omega), e3, su_o (by omega)]) (fun a j hj => by rw [e4, u1 _ _ _ _ _ hj, e3, u1 _ _ _ _ _ hj]) (by rw [e4, su_o (by omega), e3, su_o (by omega)]) (by rw [e4, su_o (by omega), e3, su_o (by omega)]) (by rw [e4, su_o (by omega), e3, su_at]) (by rw [e4, su_at]) ?_
              have h1' : ¬ (lo v = -2 ∧ lt v = -2) := fun y => hone.elim (fun z => z.2 y.2) (fun z => z.1 y.1)
              unfold oS at hs
              rw [if_neg both, if_neg h1'] at hs
              unfold kF oK lF oL pF oP
              rw [if_neg h1', if_neg h1', if_neg h1']
              have hor : lo v = -2 ∨ lt v = -2 := hone.elim (fun z => Or.inl z.1) (fun z => Or.inr z.2)
              by_cases w : lb v = -2
              · rw [if_pos w] at hs
                have h2' : ¬ ((lo v = -2 ∨ lt v = -2) ∧ lb v ≠ -2) := fun y => y.2 w
                have a3 : ¬ lx = -3 := nl.2.1
                have p3 : ¬ px = -3 := np.2.1
                rw [if_neg h2', if_neg h2', if_neg h2', al, ap, if_neg a3, if_neg a3, if_neg a3, if_neg p3, if_neg p3, if_neg p3, if_neg nl.2.2, if_neg np.2.2]
                exact Or.inr ⟨hs.symm, rfl, fun _ => ⟨nl.1, rfl, rfl⟩⟩
              · rw [if_neg w] at hs
                have hh : (lo v = -2 ∨ lt v = -2) ∧ lb v ≠ -2 := ⟨hor, w⟩
                rw [if_pos hh, if_pos hh, if_pos hh]
                by_cases y : lb v = (if lo v = -2 then lt v else lo v) ∧ pb v = (if lo v = -2 then pt v else po v)
                · rw [if_pos y] at hs; exact absurd hs.symm s0
                · rw [if_neg y] at hs
                  have hy' : ¬ ((if lo v = -2 then lt v else lo v) = lb v ∧ (if lo v = -2 then pt v else po v) = pb v) := fun q => y ⟨q.1.symm, q.2.symm⟩
                  rw [if_neg hy']
                  exact Or.inl ⟨hs.symm, rfl⟩
            refine bl_X6_meet_97 hG _ _ _ _ _ _ _ _ S2 ?_
            rw [nI_clamp (by omega), nI_clamp (by omega), r22, r22, o1, t1]
            rcases hone with ⟨y1, y2⟩ | ⟨y1, y2⟩
            · rw [if_pos y1]; exact ⟨i1, fun _ => at124, fun w => absurd rfl w⟩
            · rw [if_neg y1, if_pos y2]; exact ⟨i1, fun w => absurd w (by decide), fun _ => ⟨i2, fun _ => at124, fun w => absurd rfl w⟩⟩
          rcases hone with ⟨y1, y2⟩ | ⟨y1, y2⟩
          · rw [if_pos y1]
            refine ⟨fun _ => one (24 * cT + v) (lt v) (pt v) (by omega) (t2 y2).1 (t2 y2).2 (by rw [if_pos y1]) (by rw [if_pos y1]) (fT.n3 hv y2).1 (fT.n3 hv y2).2 ?_ ?_, fun w => absurd rfl w⟩
            · unfold agr; rw [if_neg (fun q => y2 (q.symm.trans y1)), if_neg y2, if_pos y1]
            · have p1 := fO.1 v hv y1
              have p2 := (fT.lp hv).mp y2
              unfold agr; rw [if_neg (fun q => p2 (q.symm.trans p1)), if_neg p2, if_pos p1]
          · rw [if_neg y1]
            refine ⟨fun w => absurd w (by decide), fun _ => one (24 * hO + v) (lo v) (po v) (by omega) (o2 y1).1 (o2 y1).2 (by rw [if_neg y1]) (by rw [if_neg y1]) (fO.n3 hv y1).1 (fO.n3 hv y1).2 ?_ ?_⟩
            · unfold agr; rw [if_neg (fun q => y1 (q.trans y2)), if_pos y2]
            · have p1 := fT.1 v hv y2
              have p2 := (fO.lp hv).mp y1
              unfold agr; rw [if_neg (fun q => p2 (q.trans p1)), if_pos p1]
    refine ⟨fun z => at71 1 ?_, fun z => at71 0 ?_⟩
    · rw [if_pos ((nI_eq (b := 2) (by omega) (by decide)).mp z)]
    · rw [if_neg (fun q => z (by rw [q]; rfl))]
  refine bl_X6_meet_37 hG _ _ _ _ _ _ _ S ⟨fun z => at54 0 ?_, fun z => at54 1 ?_⟩
  · rw [if_pos]
    rcases Nat.eq_zero_or_pos st with q | q
    · exact q
    · exact absurd z (nI_nle q (by omega))
  · rw [if_neg (fun q => z (by rw [q]; decide))]
