/-! The model's merge. -/
def OffK (S S' : ab_S) : Prop := (∀ a b, ((a ≠ 21 ∧ a ≠ 29 ∧ a ≠ 30 ∧ a ≠ 31 ∧ a ≠ 32 ∧ a ≠ 33) ∨ b ≠ 0) → S' a b = S a b) ∧ ∀ f, f ≠ 0 → f ≠ 12 → S' 21 0 f = S 21 0 f
theorem MLk.rows {S S' : ab_S} {u : Nat} {l p : Nat → Int32} (h : MLk S u l p) (hs : ∀ a, 22 ≤ a → a ≤ 24 → S' a 0 = S a 0) : MLk S' u l p := fun v hv => by
  rw [hs 22 (by decide) (by decide), hs 23 (by decide) (by decide), hs 24 (by decide) (by decide)]; exact h v hv
def AllK (kd : Nat → Nat) (rl rp : Nat → Int32) (K : Nat → Nat) : Prop := (cf kd 24 ≠ 0 ∧ K = kd) ∨ (cf kd 24 = 0 ∧ cf (K2 rl rp) 24 ≠ 0 ∧ K = K2 rl rp) ∨ (cf kd 24 = 0 ∧ cf (K2 rl rp) 24 = 0 ∧ K = K3 rl rp)
theorem sp_m_mergeD {Q : ab_Po} {S : ab_S} {h c bb nc made : Nat} {w dO dT : sD} {rc : Nat → Int32} {lo po lt pt lb pb : Nat → Int32} (s6 : S 21 0 6 = nI nc) (hnc : nc ≤ 12) (hc : c < nc) (hh : h < nc) (s10 : S 21 0 10 = nI h) (s11 : S 21 0 11 = -1) (kW : Okd made w) (kO : Okd made dO) (kT : Okd made dT) (mW : MTd S 12 w) (mO : MTd S h dO) (mT : MTd S c dT) (hsame : SameD w dO) (hrc : ∀ i, i < nc → S 28 0 i = rc i) (hbb : isBase rc nc (rc h &&& rc c) bb)
    (lO : MLk S h lo po) (lT : MLk S c lt pt) (lB : MLk S bb lb pb) (fO : TF made lo po) (fT : TF made lt pt) (fB : TF made lb pb) (hM : MD dO.1 dT.1 dO.2.1 dT.2.1 po pt) (pO : PPd dO po) (pT : PPd dT pt) {n : Nat} {o pp : Nat → Nat}
    (hd : cf (kF lo po lt pt lb pb) 24 = 0 → cf (K2 (lF lo po lt pt lb pb) (pF lo po lt pt lb pb)) 24 = 0 → cf (K3 (lF lo po lt pt lb pb) (pF lo po lt pt lb pb)) 24 = 0 → Okd made (n, o, pp, lF lo po lt pt lb pb) ∧ (∀ a, 0 < a → a < n → pF lo po lt pt lb pb (o a) = nI (o (pp a))) ∧ PK (Mq dO.1 dT.1 dO.2.1 dT.2.1 po pt (pF lo po lt pt lb pb)) (Cq dO.1 dT.1 dO.2.1 dT.2.1 po pt (pF lo po lt pt lb pb)) n n o pp ∧ ∀ v, v < 24 → lF lo po lt pt lb pb v ≠ -2 → ∃ a, a < n ∧ o a = v)
    (h1 : ∀ K S', AllK (kF lo po lt pt lb pb) (lF lo po lt pt lb pb) (pF lo po lt pt lb pb) K → cf K 24 ≠ 0 → OffK S S' → S' 21 0 0 = 0 → CLg (S' 21 0 12) (S' 29 0) K 24 → Q (.inl (some (nI (cf K 24)))) S')
    (h2 : cf (kF lo po lt pt lb pb) 24 = 0 → cf (K2 (lF lo po lt pt lb pb) (pF lo po lt pt lb pb)) 24 = 0 → cf (K3 (lF lo po lt pt lb pb) (pF lo po lt pt lb pb)) 24 = 0 → ∀ S', (∀ a b, (a < 21 ∨ (25 < a ∧ a < 29) ∨ 33 < a ∨ b ≠ 0) → S' a b = S a b) → (∀ a j, 22 ≤ a → a ≤ 25 → j < 288 → S' a 0 j = S a 0 j) → (∀ f, f ≠ 0 → f ≠ 11 → f ≠ 12 → S' 21 0 f = S 21 0 f) → S' 21 0 0 = 0 → S' 21 0 12 = 0 → S' 21 0 11 = nI c → MTd S' 12 (n, o, pp, lF lo po lt pt lb pb) → Q (.inl (some 0)) S') : Sp_X6_merge [.inr (21, 0), .inl (nI c)] S Q := by
  refine ⟨Nat.le_of_ble_eq_true rfl, fun G hG => ?_⟩
  have hbn := hbb.1
  refine bl_X6_merge_0 hG _ S (ic_yes s6 hnc hc ?_)
  refine bl_X6_merge_6 hG _ _ S ⟨fun z => absurd z (by decide), fun _ => ?_⟩
  rw [s11]
  refine ⟨fun z => absurd z (by decide), fun _ => sp_m_isHeads kW kO mW mO s10 (by omega) (fun _ => ?_) (fun z => absurd hsame z)⟩
  refine bl_X6_merge_24 hG _ _ S ⟨fun z => absurd z (by decide), fun _ S1 e1 => th_g' e1 ?_⟩
  have t10 : S1 21 0 10 = nI h := by rw [e1, su_j (by decide)]; exact s10
  rw [t10]
  have rr1 : ∀ a b, a ≠ 21 → S1 a b = S a b := fun a b z => by rw [e1, su_o (Or.inl z)]
  refine sp_m_baseOf (nc := nc) (rc := rc) (by rw [e1, su_j (by decide)]; exact s6) hnc (fun i hi => by rw [rr1 28 0 (by decide)]; exact hrc i hi) hh hc ⟨bb, hbn, hbb.2.1⟩ (fun i hi => ?_)
  have ei := isBase_one hi hbb
  subst ei
  refine bl_X6_merge_53 hG _ _ S1 ?_
  -- the last loop and the building
  have last : ∀ K : Nat → Nat, AllK (kF lo po lt pt lb pb) (lF lo po lt pt lb pb) (pF lo po lt pt lb pb) K → (∀ v, K v ≤ 5) → (cf K 24 = 0 → cf (kF lo po lt pt lb pb) 24 = 0 ∧ cf (K2 (lF lo po lt pt lb pb) (pF lo po lt pt lb pb)) 24 = 0 ∧ cf (K3 (lF lo po lt pt lb pb) (pF lo po lt pt lb pb)) 24 = 0) → ∀ T : ab_S, (∀ a b, ((a ≠ 30 ∧ a ≠ 31 ∧ a ≠ 32 ∧ a ≠ 33) ∨ b ≠ 0) → T a b = S1 a b) → (∀ v, v < 24 → T 31 0 v = nI (K v)) → (cf (kF lo po lt pt lb pb) 24 = 0 → StI T (lF lo po lt pt lb pb) (pF lo po lt pt lb pb)) → ∀ T1, T1 = ab_su T 21 0 12 0 → G 104 [some (.inr (21, 0)), some (.inl (nI c)), some (.inl (nI i)), some (.inl (0 : Int32))] [] T1 0 := fun K hK hK5 hz T fT0 t31 tst T1 eT1 => by
    have fT1 : ∀ a b, ((a ≠ 21 ∧ a ≠ 30 ∧ a ≠ 31 ∧ a ≠ 32 ∧ a ≠ 33) ∨ b ≠ 0) → T1 a b = S1 a b := fun a b z => by rw [eT1, su_o (by omega)]; exact fT0 a b (by omega)
    have key : ∀ v, v ≤ 24 → ∀ T2 : ab_S, (∀ a b, ((a ≠ 21 ∧ a ≠ 29 ∧ a ≠ 30 ∧ a ≠ 31 ∧ a ≠ 32 ∧ a ≠ 33) ∨ b ≠ 0) → T2 a b = S1 a b) → (∀ f, f ≠ 12 → T2 21 0 f = S1 21 0 f) → T2 30 0 = T 30 0 → T2 31 0 = T 31 0 → T2 32 0 = T 32 0 → T2 33 0 = T 33 0 → CLg (T2 21 0 12) (T2 29 0) K v → G 104 [some (.inr (21, 0)), some (.inl (nI c)), some (.inl (nI i)), some (.inl (nI v))] [] T2 0 := by
      refine ind_up _ ?_ ?_
      · intro T2 g1 g2 g30 g31 g32 g33 hC
        have hcf := cf_le K 24
        refine bl_X6_merge_104 hG _ _ _ T2 ⟨fun _ => ⟨fun z => ?_, fun z => ?_⟩, fun z => absurd (by decide) z⟩
        · have c0 : cf K 24 = 0 := by rw [hC.1] at z; exact (nI_eq (b := 0) (by omega) (by decide)).mp z
          obtain ⟨z1, z2, z3⟩ := hz c0
          obtain ⟨q1, q2, q3, q4⟩ := hd z1 z2 z3
          have tst2 : StI T2 (lF lo po lt pt lb pb) (pF lo po lt pt lb pb) := (tst z1).cg g30 g32 g33
          have rt := out_root fO fT (cf_all0 z1 0 (by decide))
          have mm : ∀ u d, MTd S u d → MTd T2 u d := fun u d hm => hm.rows (fun a h1 h2 => by rw [g1 a 0 (by omega), rr1 a 0 (by omega)])
          have stay : ∀ a, a < n → lF lo po lt pt lb pb (o a) ≠ -2 := fun a ha => by
            obtain ⟨c', hc', e⟩ := (q1.2 a ha).2
            have e' : lF lo po lt pt lb pb (o a) = nI c' := e
            rw [e']; exact nu_ne (by omega) (by decide)
          refine sp_m_build kO kT hM pO pT (by rw [g2 10 (by decide)]; exact t10) (by omega) (by omega) (mm h dO mO) (mm c dT mT) tst2 (fun v hv hv2 => out_none hv2 agr_n2) rt.2 q1.1 stay q2 q3 q4 q1.2 (fun S4 f4 m4 => ?_)
          refine bl_X6_merge_167 hG _ _ _ S4 (fun S5 e5 => ?_)
          have v12 : S5 21 0 12 = 0 := by rw [e5, su_j (by decide), f4.1 21 0 (by omega)]; exact z
          rw [v12]
          refine h2 z1 z2 z3 S5 (fun a b y => ?_) (fun a j y1 y2 y3 => ?_) (fun f y1 y2 y3 => ?_) ?_ v12 (by rw [e5, su_at]) (m4.rows (fun a h1 h2 => by rw [e5, su_o (by omega)]))
          · rw [e5, su_o (by omega), f4.1 a b (by omega), g1 a b (by omega)]
            by_cases q : a = 21
            · subst q; rw [e1, su_o (by omega)]
            · exact rr1 a b q
          · rw [e5, su_o (by omega), f4.2 a j y3, g1 a 0 (by omega), rr1 a 0 (by omega)]
          · rw [e5, su_j y2, f4.1 21 0 (by omega), g2 f y3, e1, su_j y1]
          · rw [e5, su_j (by decide), f4.1 21 0 (by omega), g2 0 (by decide), e1, su_at]
        · rw [hC.1]
          refine h1 K T2 hK (fun y => z (by rw [hC.1, y]; rfl)) ⟨fun a b y => ?_, fun f y1 y2 => by rw [g2 f y2, e1, su_j y1]⟩ (by rw [g2 0 (by decide), e1, su_at]) hC
          rw [g1 a b y]
          by_cases q : a = 21
          · subst q; rw [e1, su_o (by omega)]
          · exact rr1 a b q
      · intro v hv ih T2 g1 g2 g30 g31 g32 g33 hC
        have hcf := cf_le K v
        have h5 := hK5 v
        have e31 : T2 31 0 v = nI (K v) := by rw [g31]; exact t31 v hv
        refine bl_X6_merge_104 hG _ _ _ T2 ⟨fun z => absurd z (nI_ge (b := 24) hv (by decide)), fun _ => ⟨vp_in_nI hv (by decide), ?_⟩⟩
        rw [nI_clamp (by omega), e31, nI_1]
        rcases Nat.eq_zero_or_pos (K v) with q | q
        · rw [q]
          exact ⟨fun _ => ih T2 g1 g2 g30 g31 g32 g33 (hC.z q), fun z => absurd (by decide) z⟩
        · refine ⟨fun z => absurd z (nI_nle q (by omega)), fun _ => ⟨vp_in_nI hv (by decide), ?_⟩⟩
          rw [hC.1, nI_clamp (by omega), show (32 : Int32) * nI (K v) + nI v = nI (v + 32 * K v) by rw [show (32 : Int32) = nI 32 from rfl, pk_mul, nI_add, Nat.add_comm]]
          refine ⟨vp_in_nI (by omega) (by decide), fun T3 e3 T4 e4 => ?_⟩
          have k12 : T3 21 0 12 = nI (cf K v) := by rw [e3, su_o (by omega)]; exact hC.1
          rw [k12, nI_1] at e4
          refine ih T4 (fun a b y => by rw [e4, su_o (by omega), e3, su_o (by omega)]; exact g1 a b y) (fun f y => by rw [e4, su_j y, e3, su_o (by omega)]; exact g2 f y) (by rw [e4, su_o (by omega), e3, su_o (by omega)]; exact g30) (by rw [e4, su_o (by omega), e3, su_o (by omega)]; exact g31) (by rw [e4, su_o (by omega), e3, su_o (by omega)]; exact g32) (by rw [e4, su_o (by omega), e3, su_o (by omega)]; exact g33) ?_
          have x1 : T4 21 0 12 = nI (cf K v + 1) := by rw [e4, su_at]
          rw [x1]
          exact hC.s q (by rw [e4, su_o (by omega), e3, su_at]) (fun j hj => by rw [e4, su_o (by omega), e3, su_j hj])
    refine key 0 (by omega) T1 (fun a b y => fT1 a b (by omega)) (fun f y => by rw [eT1, su_j y, fT0 21 0 (by omega)]) (by rw [eT1, su_o (by omega)]) (by rw [eT1, su_o (by omega)]) (by rw [eT1, su_o (by omega)]) (by rw [eT1, su_o (by omega)]) ?_
    rw [eT1, su_at]; exact CLg.nil
  -- the meeting
  have meets : ∀ v, v ≤ 24 → ∀ T : ab_S, OffM S1 T → (∀ x, x < v → MtI T (kF lo po lt pt lb pb x) (lF lo po lt pt lb pb x) (pF lo po lt pt lb pb x) x) → G 56 [some (.inr (21, 0)), some (.inl (nI c)), some (.inl (nI i)), some (.inl (nI v))] [] T 0 := by
    refine ind_up _ ?_ ?_
    · intro T fT0 hI
      have k31 : ∀ v, v < 24 → T 31 0 v = nI (kF lo po lt pt lb pb v) ∧ kF lo po lt pt lb pb v ≤ 5 := fun v hv => ⟨(hI v hv).1, oK_le _ _ _ _ _ _⟩
      have st : cf (kF lo po lt pt lb pb) 24 = 0 → StI T (lF lo po lt pt lb pb) (pF lo po lt pt lb pb) := fun z v hv => (hI v hv).2 (cf_all0 z v hv)
      refine bl_X6_merge_56 hG _ _ _ T ⟨fun _ => sp_m_countKinds k31 ?_, fun z => absurd (by decide) z⟩
      have hcf := cf_le (kF lo po lt pt lb pb) 24
      refine bl_X6_merge_79 hG _ _ _ _ T ⟨fun z => ?_, fun z => sp_m_countKinds k31 ?_⟩
      · have z1 : cf (kF lo po lt pt lb pb) 24 = 0 := (nI_eq (b := 0) (by omega) (by decide)).mp z
        have rpar : ∀ v, 0 < v → v < 24 → lF lo po lt pt lb pb v ≠ -2 → ∃ w, w < 24 ∧ pF lo po lt pt lb pb v = nI w := fun v v0 hv hr => by
          rcases (out_src fO fT hv hr).2 with ⟨y, yl⟩ | ⟨y, yl⟩
          · rcases (fO.2.1 v hv yl).2.2 with q | ⟨_, w, hw, q⟩
            · omega
            · exact ⟨w, hw, y.trans q⟩
          · rcases (fT.2.1 v hv yl).2.2 with q | ⟨_, w, hw, q⟩
            · omega
            · exact ⟨w, hw, y.trans q⟩
        refine sp_m_findOrphans (st z1) (fun v hv => by rw [(k31 v hv).1, cf_all0 z1 v hv]) rpar (fun T2 f2 h31 => ?_)
        refine bl_X6_merge_86 hG _ _ _ T2 ?_
        have k2 : ∀ v, v < 24 → T2 31 0 v = nI (K2 (lF lo po lt pt lb pb) (pF lo po lt pt lb pb) v) ∧ K2 (lF lo po lt pt lb pb) (pF lo po lt pt lb pb) v ≤ 5 := fun v hv => ⟨h31 v hv, K2_le _ _ _⟩
        have st2 : StI T2 (lF lo po lt pt lb pb) (pF lo po lt pt lb pb) := (st z1).cg (f2 30 0 (by omega)) (f2 32 0 (by omega)) (f2 33 0 (by omega))
        refine sp_m_countKinds k2 ?_
        have hcf2 := cf_le (K2 (lF lo po lt pt lb pb) (pF lo po lt pt lb pb)) 24
        refine bl_X6_merge_90 hG _ _ _ _ T2 ⟨fun y => ?_, fun y T3 e3 => ?_⟩
        · have z2 : cf (K2 (lF lo po lt pt lb pb) (pF lo po lt pt lb pb)) 24 = 0 := (nI_eq (b := 0) (by omega) (by decide)).mp y
          refine sp_m_findRings st2 (Cl3.of (cf_all0 z2)) (fun v hv => by rw [(k2 v hv).1, cf_all0 z2 v hv]) (fun T3 f3 h31' => ?_)
          refine bl_X6_merge_97 hG _ _ _ T3 (fun T4 e4 => ?_)
          exact last (K3 (lF lo po lt pt lb pb) (pF lo po lt pt lb pb)) (Or.inr (Or.inr ⟨z1, z2, rfl⟩)) (K3_le _ _) (fun q => ⟨z1, z2, q⟩) T3 (fun a b q => by rw [f3 a b (by omega), f2 a b (by omega)]; exact fT0 a b q) h31' (fun _ => st2.cg (f3 30 0 (by omega)) (f3 32 0 (by omega)) (f3 33 0 (by omega))) T4 e4
        · have z2 : cf (K2 (lF lo po lt pt lb pb) (pF lo po lt pt lb pb)) 24 ≠ 0 := fun q => y (by rw [q]; rfl)
          exact last (K2 (lF lo po lt pt lb pb) (pF lo po lt pt lb pb)) (Or.inr (Or.inl ⟨z1, z2, rfl⟩)) (K2_le _ _) (fun q => absurd q z2) T2 (fun a b q => by rw [f2 a b (by omega)]; exact fT0 a b q) h31 (fun _ => st2) T3 e3
      · have z1 : cf (kF lo po lt pt lb pb) 24 ≠ 0 := fun q => z (by rw [q]; rfl)
        refine bl_X6_merge_90 hG _ _ _ _ T ⟨fun y => absurd y z, fun _ T3 e3 => ?_⟩
        exact last (kF lo po lt pt lb pb) (Or.inl ⟨z1, rfl⟩) (fun v => oK_le _ _ _ _ _ _) (fun q => absurd q z1) T fT0 (fun v hv => (k31 v hv).1) (fun q => absurd q z1) T3 e3
    · intro v hv ih T fT0 hI
      refine bl_X6_merge_56 hG _ _ _ T ⟨fun z => absurd z (nI_ge (b := 24) hv (by decide)), fun _ => ?_⟩
      have ml : ∀ u l p, MLk S u l p → MLk T u l p := fun u l p hl => hl.rows (fun a h1 h2 => by rw [fT0 a 0 (by omega), rr1 a 0 (by omega)])
      refine sp_m_meet (by rw [fT0 21 0 (by omega)]; exact t10) (by omega) (by omega) (by omega) hv (ml _ _ _ lO) (ml _ _ _ lT) (ml _ _ _ lB) fO fT fB (fun T2 f2 j2 m2 => ?_)
      refine bl_X6_merge_69 hG _ _ _ T2 ?_
      rw [nI_1]
      refine ih T2 (fT0.tr f2) (fun x hx => ?_)
      by_cases q : x = v
      · subst q; exact m2
      · have := hI x (by omega)
        unfold MtI
        rw [j2 31 x q, j2 30 x q, j2 32 x q, j2 33 x q]
        exact this
  exact meets 0 (by omega) S1 (fun _ _ _ => rfl) (fun x hx => absurd hx (Nat.not_lt_zero x))
