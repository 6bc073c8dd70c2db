/-! No method writes the law's own cell. -/
def Kp (τ : ab_TR) : Prop := ∀ (vs : List ab_V) (S : ab_S) (Q Q' : ab_Po), (∀ o S', Q o S' → S' 41 = S 41 → Q' o S') → τ vs S Q → τ vs S Q'
theorem kS {S : ab_S} {κ : Nat} (i j : Nat) (v : Int32) (h : κ ≠ 41) : (ab_su S κ i j v) 41 = S 41 := by funext b; exact su_o (Or.inl (fun e => h e.symm))
theorem kR {S : ab_S} {κ : Nat} (i : Nat) (f : Nat → Int32) (h : κ ≠ 41) : (ab_sr S κ i f) 41 = S 41 := by funext b; exact sr_o (Or.inl (fun e => h e.symm))
theorem kA {κ n : Nat} (h : ab_ar κ = some (0, n)) : κ ≠ 41 := fun e => by subst e; cases h
theorem kB {κ n : Nat} (h : ab_ar κ = some (1, n)) : κ ≠ 41 := fun e => by subst e; cases h
theorem ab_kp {M : ab_M} {nL : Nat} (hpl : ∀ t ∈ ab_pl M, t.2.1 ≠ 41) (hv : ∀ idx rc n ri kc τ, ab_cv M idx = some (rc, n, ri, kc, τ) → Kp τ) (hs : ∀ idx rc n ri kc τ, ab_cs M idx = some (rc, n, ri, kc, τ) → Kp τ) (hn : ∀ idx rc n ri kc τ, ab_cn M idx = some (rc, n, ri, kc, τ) → Kp τ) : Kp (ab_Sem M nL) := by
  intro vs S0 Q Q' hQ h
  refine ⟨h.1, fun G hG => h.2 (fun pc L st S' k => S' 41 = S0 41 → G pc L st S' k) ?_ rfl⟩
  have hQ : ∀ o S', Q o S' → S' 41 = S0 41 → Q' o S' := hQ
  have bk : ∀ pc L rest k (S : ab_S), S 41 = S0 41 → ∀ o S', ab_back Q (fun pc L st S' k => S' 41 = S0 41 → G pc L st S' k) pc L rest k o S' → S' 41 = S 41 → ab_back Q' G pc L rest k o S' := by
    intro pc L rest k S hS o S' h1 h2
    match o, h1 with
    | .inl none, h1 => exact h1 (h2.trans hS)
    | .inl (some r), h1 => exact h1 (h2.trans hS)
    | .inr E, h1 => exact hQ _ _ h1 (h2.trans hS)
  have bn : ∀ pc L rest k (S : ab_S), S 41 = S0 41 → ∀ o S', ab_back (fun _ _ => False) (fun pc L st S' k => S' 41 = S0 41 → G pc L st S' k) pc L rest k o S' → S' 41 = S 41 → ab_back (fun _ _ => False) G pc L rest k o S' := by
    intro pc L rest k S hS o S' h1 h2
    match o, h1 with
    | .inl none, h1 => exact h1 (h2.trans hS)
    | .inl (some r), h1 => exact h1 (h2.trans hS)
    | .inr E, h1 => exact h1
  refine ⟨?_, ?_, ?_, ?_, ?_, ?_, ?_, ?_, ?_, ?_, ?_, ?_, ?_, ?_, ?_, ?_, ?_, ?_, ?_, ?_, ?_, ?_, ?_, ?_, ?_, ?_, ?_, ?_, ?_, ?_, ?_, ?_, ?_, ?_, ?_, ?_, ?_, ?_, ?_, ?_, ?_, ?_, ?_, ?_, ?_, ?_, ?_, ?_, ?_, ?_, ?_, ?_, ?_, ?_, ?_, ?_⟩
  · exact fun pc L st S k n x h0 h1 h2 hS => ab_iload_n' hG pc L st S k n x h0 h1 (h2 hS)
  · exact fun pc L st S k n x h0 h1 h2 hS => ab_iload' hG pc L st S k n x h0 h1 (h2 hS)
  · exact fun pc L st S k n o h0 h1 h2 hS => ab_aload_n' hG pc L st S k n o h0 h1 (h2 hS)
  · exact fun pc L st S k n o h0 h1 h2 hS => ab_aload' hG pc L st S k n o h0 h1 (h2 hS)
  · exact fun pc L st S k n x h0 h1 h2 hS => ab_istore_n' hG pc L st S k n x h0 h1 (h2 hS)
  · exact fun pc L st S k n x h0 h1 h2 hS => ab_istore' hG pc L st S k n x h0 h1 (h2 hS)
  · exact fun pc L st S k n o h0 h1 h2 hS => ab_astore_n' hG pc L st S k n o h0 h1 (h2 hS)
  · exact fun pc L st S k n o h0 h1 h2 hS => ab_astore' hG pc L st S k n o h0 h1 (h2 hS)
  · exact fun pc L st S k i n x v h0 h1 h2 h3 hS => ab_iinc' hG pc L st S k i n x v h0 h1 h2 (h3 hS)
  · exact fun pc L st S k n v h0 h1 h2 hS => ab_iconst' hG pc L st S k n v h0 h1 (h2 hS)
  · exact fun pc L st S k n v h0 h1 h2 hS => ab_bipush' hG pc L st S k n v h0 h1 (h2 hS)
  · exact fun pc L st S k n v h0 h1 h2 hS => ab_sipush' hG pc L st S k n v h0 h1 (h2 hS)
  · exact fun pc L st S k i v h0 h1 h2 hS => ab_ldc_w' hG pc L st S k i v h0 h1 (h2 hS)
  · exact fun pc L st S k x y h0 h1 hS => ab_iadd' hG pc L st S k x y h0 (h1 hS)
  · exact fun pc L st S k x y h0 h1 hS => ab_isub' hG pc L st S k x y h0 (h1 hS)
  · exact fun pc L st S k x y h0 h1 hS => ab_imul' hG pc L st S k x y h0 (h1 hS)
  · exact fun pc L st S k x y h0 h1 hS => ab_iand' hG pc L st S k x y h0 (h1 hS)
  · exact fun pc L st S k x y h0 h1 hS => ab_ior' hG pc L st S k x y h0 (h1 hS)
  · exact fun pc L st S k x y h0 h1 hS => ab_ishl' hG pc L st S k x y h0 (h1 hS)
  · exact fun pc L st S k x y h0 h1 hS => ab_ishr' hG pc L st S k x y h0 (h1 hS)
  · exact fun pc L st S k x y h0 h1 hS => ab_iushr' hG pc L st S k x y h0 (h1 hS)
  · exact fun pc L st S k v h0 h1 hS => ab_dup' hG pc L st S k v h0 (h1 hS)
  · exact fun pc L st S k v h0 h1 hS => ab_pop' hG pc L st S k v h0 (h1 hS)
  · exact fun pc L st S k off tgt x h0 h1 h2 h3 hS => ab_if_eq' hG pc L st S k off tgt x h0 h1 (fun q => h2 q hS) (fun q => h3 q hS)
  · exact fun pc L st S k off tgt x y h0 h1 h2 h3 hS => ab_icmp_eq' hG pc L st S k off tgt x y h0 h1 (fun q => h2 q hS) (fun q => h3 q hS)
  · exact fun pc L st S k off tgt x h0 h1 h2 h3 hS => ab_if_ne' hG pc L st S k off tgt x h0 h1 (fun q => h2 q hS) (fun q => h3 q hS)
  · exact fun pc L st S k off tgt x y h0 h1 h2 h3 hS => ab_icmp_ne' hG pc L st S k off tgt x y h0 h1 (fun q => h2 q hS) (fun q => h3 q hS)
  · exact fun pc L st S k off tgt x h0 h1 h2 h3 hS => ab_if_lt' hG pc L st S k off tgt x h0 h1 (fun q => h2 q hS) (fun q => h3 q hS)
  · exact fun pc L st S k off tgt x y h0 h1 h2 h3 hS => ab_icmp_lt' hG pc L st S k off tgt x y h0 h1 (fun q => h2 q hS) (fun q => h3 q hS)
  · exact fun pc L st S k off tgt x h0 h1 h2 h3 hS => ab_if_ge' hG pc L st S k off tgt x h0 h1 (fun q => h2 q hS) (fun q => h3 q hS)
  · exact fun pc L st S k off tgt x y h0 h1 h2 h3 hS => ab_icmp_ge' hG pc L st S k off tgt x y h0 h1 (fun q => h2 q hS) (fun q => h3 q hS)
  · exact fun pc L st S k off tgt x h0 h1 h2 h3 hS => ab_if_gt' hG pc L st S k off tgt x h0 h1 (fun q => h2 q hS) (fun q => h3 q hS)
  · exact fun pc L st S k off tgt x y h0 h1 h2 h3 hS => ab_icmp_gt' hG pc L st S k off tgt x y h0 h1 (fun q => h2 q hS) (fun q => h3 q hS)
  · exact fun pc L st S k off tgt x h0 h1 h2 h3 hS => ab_if_le' hG pc L st S k off tgt x h0 h1 (fun q => h2 q hS) (fun q => h3 q hS)
  · exact fun pc L st S k off tgt x y h0 h1 h2 h3 hS => ab_icmp_le' hG pc L st S k off tgt x y h0 h1 (fun q => h2 q hS) (fun q => h3 q hS)
  · exact fun pc L st S k off tgt h0 h1 h2 hS => ab_goto' hG pc L st S k off tgt h0 h1 (h2 hS)
  · exact fun pc L st S k dflt lo hi offs len x tgt h0 h1 h2 h3 hS => ab_swO' hG pc L st S k dflt lo hi offs len x tgt h0 h1 h2 (h3 hS)
  · exact fun pc L st S k dflt lo hi offs len x off tgt h0 h1 h2 h3 h4 h5 hS => ab_swI' hG pc L st S k dflt lo hi offs len x off tgt h0 h1 h2 h3 h4 (h5 hS)
  · exact fun pc L S k x h0 h1 h2 h3 hS => ab_ireturn' hG pc L S k x h0 h1 h2 (hQ _ _ h3 hS)
  · exact fun pc L S k h0 h1 h2 h3 hS => ab_return_' hG pc L S k h0 h1 h2 (hQ _ _ h3 hS)
  · exact fun pc L st S k idx κ f i h0 h1 h2 hS => ab_getfield' hG pc L st S k idx κ f i h0 h1 (h2 hS)
  · exact fun pc L st S k idx κ f i x h0 h1 h2 hS => ab_putfield' hG pc L st S k idx κ f i x h0 h1 (h2 ((kS _ _ _ (hpl _ h1)).trans hS))
  · exact fun pc L st S k κ i n j h0 h1 h2 h3 hS => ab_iaload' hG pc L st S k κ i n j h0 h1 h2 (h3 hS)
  · exact fun pc L st S k κ i n j h0 h1 h2 h3 hS => ab_baload' hG pc L st S k κ i n j h0 h1 h2 (h3 hS)
  · exact fun pc L st S k κ i n j x h0 h1 h2 h3 hS => ab_iastore' hG pc L st S k κ i n j x h0 h1 h2 (h3 ((kS _ _ _ (kA h1)).trans hS))
  · exact fun pc L st S k κ i n j x h0 h1 h2 h3 hS => ab_bastore' hG pc L st S k κ i n j x h0 h1 h2 (h3 ((kS _ _ _ (kB h1)).trans hS))
  · exact fun pc L st S k κ i n j h0 h1 h2 h3 hS => ab_aaload2' hG pc L st S k κ i n j h0 h1 h2 (h3 hS)
  · exact fun pc L st S k κ i n j h0 h1 h2 h3 hS => ab_aaload3' hG pc L st S k κ i n j h0 h1 h2 (h3 hS)
  · exact fun pc L st S k κ i n v h0 h1 h2 h3 hS => ab_alen' hG pc L st S k κ i n v h0 h1 h2 (h3 hS)
  · exact fun pc L as rest S k idx rc n ri kc τ o h0 h1 h2 h3 h4 h5 h6 h7 hS => ab_invv' hG pc L as rest S k idx rc n ri kc τ o h0 h1 h2 h3 h4 h5 h6 (hv _ _ _ _ _ _ h1 _ _ _ _ (bk _ _ _ _ _ hS) h7)
  · exact fun pc L as rest S k idx rc n ri kc τ h0 h1 h2 h3 h4 h5 hS => ab_invs' hG pc L as rest S k idx rc n ri kc τ h0 h1 h2 h3 h4 (hs _ _ _ _ _ _ h1 _ _ _ _ (bk _ _ _ _ _ hS) h5)
  · exact fun pc L as rest S k idx rc n ri kc τ h0 h1 h2 h3 h4 h5 hS => ab_invn' hG pc L as rest S k idx rc n ri kc τ h0 h1 h2 h3 h4 (hn _ _ _ _ _ _ h1 _ _ _ _ (bn _ _ _ _ _ hS) h5)
  · exact fun pc L st S k idx x y h0 h1 h2 h3 h4 hS => ab_min' hG pc L st S k idx x y h0 h1 h2 h3 (h4 hS)
  · exact fun pc L st S k idx κs is κd id ns nd sp dp n h0 h1 h2 h3 h4 h5 h6 h7 h8 h9 h10 hS => ab_acopy' hG pc L st S k idx κs is κd id ns nd sp dp n h0 h1 h2 h3 h4 h5 h6 h7 h8 h9 (h10 ((kR _ _ (kA h3)).trans hS))
  · exact fun pc L st S k E h0 h1 h2 h3 hS => ab_throw' hG pc L st S k E h0 h1 h2 (hQ _ _ h3 hS)
  · exact fun pc L st S k i h0 hS => ab_forget' hG pc L st S k i (h0 hS)
theorem kp_J6_bitCount_0f7a4 : Kp Sp_J6_bitCount_0f7a4 := by
  refine ab_kp ?_ ?_ ?_ ?_
  · decide
  · exact fun _ _ _ _ _ _ h => ab_no h
  · exact fun _ _ _ _ _ _ h => ab_no h
  · exact fun _ _ _ _ _ _ h => ab_no h
theorem kp_X5_isIn : Kp Sp_X5_isIn := by
  refine ab_kp ?_ ?_ ?_ ?_
  · decide
  · exact fun _ _ _ _ _ _ h => ab_no h
  · exact fun _ _ _ _ _ _ h => ab_no h
  · exact fun _ _ _ _ _ _ h => ab_no h
theorem kp_X3_childrenOf : Kp Sp_X3_childrenOf := by
  refine ab_kp ?_ ?_ ?_ ?_
  · decide
  · exact fun _ _ _ _ _ _ h => ab_no h
  · exact fun _ _ _ _ _ _ h => ab_no h
  · intro idx rc n ri kc τ h
    simp only [M_X3_childrenOf, ab_cv, ab_cs, ab_cn] at h
    split at h
    · cases h; exact kp_X5_isIn
    cases h
theorem kp_X3_below : Kp Sp_X3_below := by
  refine ab_kp ?_ ?_ ?_ ?_
  · decide
  · exact fun _ _ _ _ _ _ h => ab_no h
  · exact fun _ _ _ _ _ _ h => ab_no h
  · intro idx rc n ri kc τ h
    simp only [M_X3_below, ab_cv, ab_cs, ab_cn] at h
    split at h
    · cases h; exact kp_X5_isIn
    cases h
theorem kp_X3_behind : Kp Sp_X3_behind := by
  refine ab_kp ?_ ?_ ?_ ?_
  · decide
  · exact fun _ _ _ _ _ _ h => ab_no h
  · exact fun _ _ _ _ _ _ h => ab_no h
  · intro idx rc n ri kc τ h
    simp only [M_X3_behind, ab_cv, ab_cs, ab_cn] at h
    split at h
    · cases h; exact kp_X5_isIn
    cases h
theorem kp_X3_alongAxis : Kp Sp_X3_alongAxis := by
  refine ab_kp ?_ ?_ ?_ ?_
  · decide
  · exact fun _ _ _ _ _ _ h => ab_no h
  · intro idx rc n ri kc τ h
    simp only [M_X3_alongAxis, ab_cv, ab_cs, ab_cn] at h
    split at h
    · cases h; exact kp_X3_childrenOf
    split at h
    · cases h; exact kp_X3_below
    split at h
    · cases h; exact kp_X3_behind
    cases h
  · exact fun _ _ _ _ _ _ h => ab_no h
theorem kp_X3_labelled : Kp Sp_X3_labelled := by
  refine ab_kp ?_ ?_ ?_ ?_
  · decide
  · exact fun _ _ _ _ _ _ h => ab_no h
  · exact fun _ _ _ _ _ _ h => ab_no h
  · exact fun _ _ _ _ _ _ h => ab_no h
theorem kp_X3_follow : Kp Sp_X3_follow := by
  refine ab_kp ?_ ?_ ?_ ?_
  · decide
  · exact fun _ _ _ _ _ _ h => ab_no h
  · intro idx rc n ri kc τ h
    simp only [M_X3_follow, ab_cv, ab_cs, ab_cn] at h
    split at h
    · cases h; exact kp_X3_alongAxis
    split at h
    · cases h; exact kp_X3_labelled
    cases h
  · exact fun _ _ _ _ _ _ h => ab_no h
theorem kp_X5_nodes : Kp Sp_X5_nodes := by
  refine ab_kp ?_ ?_ ?_ ?_
  · decide
  · exact fun _ _ _ _ _ _ h => ab_no h
  · exact fun _ _ _ _ _ _ h => ab_no h
  · exact fun _ _ _ _ _ _ h => ab_no h
theorem kp_X5_count : Kp Sp_X5_count := by
  refine ab_kp ?_ ?_ ?_ ?_
  · decide
  · exact fun _ _ _ _ _ _ h => ab_no h
  · intro idx rc n ri kc τ h
    simp only [M_X5_count, ab_cv, ab_cs, ab_cn] at h
    split at h
    · cases h; exact kp_X3_follow
    split at h
    · cases h; exact kp_J6_bitCount_0f7a4
    cases h
  · exact fun _ _ _ _ _ _ h => ab_no h
theorem kp_X6_thrown : Kp Sp_X6_thrown := by
  refine ab_kp ?_ ?_ ?_ ?_
  · decide
  · exact fun _ _ _ _ _ _ h => ab_no h
  · exact fun _ _ _ _ _ _ h => ab_no h
  · exact fun _ _ _ _ _ _ h => ab_no h
theorem kp_X6_fail : Kp Sp_X6_fail := by
  refine ab_kp ?_ ?_ ?_ ?_
  · decide
  · exact fun _ _ _ _ _ _ h => ab_no h
  · exact fun _ _ _ _ _ _ h => ab_no h
  · exact fun _ _ _ _ _ _ h => ab_no h
theorem kp_X6_copy : Kp Sp_X6_copy := by
  refine ab_kp ?_ ?_ ?_ ?_
  · decide
  · exact fun _ _ _ _ _ _ h => ab_no h
  · exact fun _ _ _ _ _ _ h => ab_no h
  · exact fun _ _ _ _ _ _ h => ab_no h
theorem kp_X6_has : Kp Sp_X6_has := by
  refine ab_kp ?_ ?_ ?_ ?_
  · decide
  · exact fun _ _ _ _ _ _ h => ab_no h
  · exact fun _ _ _ _ _ _ h => ab_no h
  · exact fun _ _ _ _ _ _ h => ab_no h
theorem kp_X6_isChild : Kp Sp_X6_isChild := by
  refine ab_kp ?_ ?_ ?_ ?_
  · decide
  · exact fun _ _ _ _ _ _ h => ab_no h
  · exact fun _ _ _ _ _ _ h => ab_no h
  · exact fun _ _ _ _ _ _ h => ab_no h
theorem kp_X6_children : Kp Sp_X6_children := by
  refine ab_kp ?_ ?_ ?_ ?_
  · decide
  · intro idx rc n ri kc τ h
    simp only [M_X6_children, ab_cv, ab_cs, ab_cn] at h
    split at h
    · cases h; exact kp_X6_isChild
    cases h
  · exact fun _ _ _ _ _ _ h => ab_no h
  · exact fun _ _ _ _ _ _ h => ab_no h
theorem kp_X6_childAt : Kp Sp_X6_childAt := by
  refine ab_kp ?_ ?_ ?_ ?_
  · decide
  · intro idx rc n ri kc τ h
    simp only [M_X6_childAt, ab_cv, ab_cs, ab_cn] at h
    split at h
    · cases h; exact kp_X6_isChild
    cases h
  · exact fun _ _ _ _ _ _ h => ab_no h
  · exact fun _ _ _ _ _ _ h => ab_no h
theorem kp_X6_isAt : Kp Sp_X6_isAt := by
  refine ab_kp ?_ ?_ ?_ ?_
  · decide
  · exact fun _ _ _ _ _ _ h => ab_no h
  · exact fun _ _ _ _ _ _ h => ab_no h
  · exact fun _ _ _ _ _ _ h => ab_no h
theorem kp_X6_shift : Kp Sp_X6_shift := by
  refine ab_kp ?_ ?_ ?_ ?_
  · decide
  · intro idx rc n ri kc τ h
    simp only [M_X6_shift, ab_cv, ab_cs, ab_cn] at h
    split at h
    · cases h; exact kp_X6_isChild
    cases h
  · exact fun _ _ _ _ _ _ h => ab_no h
  · exact fun _ _ _ _ _ _ h => ab_no h
theorem kp_X6_hang : Kp Sp_X6_hang := by
  refine ab_kp ?_ ?_ ?_ ?_
  · decide
  · intro idx rc n ri kc τ h
    simp only [M_X6_hang, ab_cv, ab_cs, ab_cn] at h
    split at h
    · cases h; exact kp_X6_shift
    cases h
  · exact fun _ _ _ _ _ _ h => ab_no h
  · exact fun _ _ _ _ _ _ h => ab_no h
theorem kp_X6_unhang : Kp Sp_X6_unhang := by
  refine ab_kp ?_ ?_ ?_ ?_
  · decide
  · intro idx rc n ri kc τ h
    simp only [M_X6_unhang, ab_cv, ab_cs, ab_cn] at h
    split at h
    · cases h; exact kp_X6_shift
    cases h
  · exact fun _ _ _ _ _ _ h => ab_no h
  · exact fun _ _ _ _ _ _ h => ab_no h
theorem kp_X6_walk : Kp Sp_X6_walk := by
  refine ab_kp ?_ ?_ ?_ ?_
  · decide
  · intro idx rc n ri kc τ h
    simp only [M_X6_walk, ab_cv, ab_cs, ab_cn] at h
    split at h
    · cases h; exact kp_X6_children
    split at h
    · cases h; exact kp_X6_childAt
    cases h
  · exact fun _ _ _ _ _ _ h => ab_no h
  · exact fun _ _ _ _ _ _ h => ab_no h
theorem kp_X6_insert : Kp Sp_X6_insert := by
  refine ab_kp ?_ ?_ ?_ ?_
  · decide
  · intro idx rc n ri kc τ h
    simp only [M_X6_insert, ab_cv, ab_cs, ab_cn] at h
    split at h
    · cases h; exact kp_X6_has
    split at h
    · cases h; exact kp_X6_children
    split at h
    · cases h; exact kp_X6_hang
    cases h
  · exact fun _ _ _ _ _ _ h => ab_no h
  · exact fun _ _ _ _ _ _ h => ab_no h
theorem kp_X6_delete : Kp Sp_X6_delete := by
  refine ab_kp ?_ ?_ ?_ ?_
  · decide
  · intro idx rc n ri kc τ h
    simp only [M_X6_delete, ab_cv, ab_cs, ab_cn] at h
    split at h
    · cases h; exact kp_X6_has
    split at h
    · cases h; exact kp_X6_walk
    split at h
    · cases h; exact kp_X6_unhang
    split at h
    · cases h; exact kp_X6_isAt
    cases h
  · exact fun _ _ _ _ _ _ h => ab_no h
  · exact fun _ _ _ _ _ _ h => ab_no h
theorem kp_X6_move : Kp Sp_X6_move := by
  refine ab_kp ?_ ?_ ?_ ?_
  · decide
  · intro idx rc n ri kc τ h
    simp only [M_X6_move, ab_cv, ab_cs, ab_cn] at h
    split at h
    · cases h; exact kp_X6_has
    split at h
    · cases h; exact kp_X6_isAt
    split at h
    · cases h; exact kp_X6_children
    split at h
    · cases h; exact kp_X6_unhang
    split at h
    · cases h; exact kp_X6_hang
    cases h
  · exact fun _ _ _ _ _ _ h => ab_no h
  · exact fun _ _ _ _ _ _ h => ab_no h
theorem kp_X6_relabel : Kp Sp_X6_relabel := by
  refine ab_kp ?_ ?_ ?_ ?_
  · decide
  · intro idx rc n ri kc τ h
    simp only [M_X6_relabel, ab_cv, ab_cs, ab_cn] at h
    split at h
    · cases h; exact kp_X6_has
    cases h
  · exact fun _ _ _ _ _ _ h => ab_no h
  · exact fun _ _ _ _ _ _ h => ab_no h
theorem kp_X6_commit : Kp Sp_X6_commit := by
  refine ab_kp ?_ ?_ ?_ ?_
  · decide
  · intro idx rc n ri kc τ h
    simp only [M_X6_commit, ab_cv, ab_cs, ab_cn] at h
    split at h
    · cases h; exact kp_X6_copy
    cases h
  · exact fun _ _ _ _ _ _ h => ab_no h
  · exact fun _ _ _ _ _ _ h => ab_no h
theorem kp_X6_isCommit : Kp Sp_X6_isCommit := by
  refine ab_kp ?_ ?_ ?_ ?_
  · decide
  · exact fun _ _ _ _ _ _ h => ab_no h
  · exact fun _ _ _ _ _ _ h => ab_no h
  · exact fun _ _ _ _ _ _ h => ab_no h
theorem kp_X6_checkout : Kp Sp_X6_checkout := by
  refine ab_kp ?_ ?_ ?_ ?_
  · decide
  · intro idx rc n ri kc τ h
    simp only [M_X6_checkout, ab_cv, ab_cs, ab_cn] at h
    split at h
    · cases h; exact kp_X6_isCommit
    split at h
    · cases h; exact kp_X6_copy
    cases h
  · exact fun _ _ _ _ _ _ h => ab_no h
  · exact fun _ _ _ _ _ _ h => ab_no h
theorem kp_X6_baseOf : Kp Sp_X6_baseOf := by
  refine ab_kp ?_ ?_ ?_ ?_
  · decide
  · exact fun _ _ _ _ _ _ h => ab_no h
  · exact fun _ _ _ _ _ _ h => ab_no h
  · exact fun _ _ _ _ _ _ h => ab_no h
theorem kp_X6_base : Kp Sp_X6_base := by
  refine ab_kp ?_ ?_ ?_ ?_
  · decide
  · intro idx rc n ri kc τ h
    simp only [M_X6_base, ab_cv, ab_cs, ab_cn] at h
    split at h
    · cases h; exact kp_X6_isCommit
    split at h
    · cases h; exact kp_X6_baseOf
    cases h
  · exact fun _ _ _ _ _ _ h => ab_no h
  · exact fun _ _ _ _ _ _ h => ab_no h
theorem kp_X6_isHeads : Kp Sp_X6_isHeads := by
  refine ab_kp ?_ ?_ ?_ ?_
  · decide
  · exact fun _ _ _ _ _ _ h => ab_no h
  · exact fun _ _ _ _ _ _ h => ab_no h
  · exact fun _ _ _ _ _ _ h => ab_no h
theorem kp_X6_stay : Kp Sp_X6_stay := by
  refine ab_kp ?_ ?_ ?_ ?_
  · decide
  · exact fun _ _ _ _ _ _ h => ab_no h
  · exact fun _ _ _ _ _ _ h => ab_no h
  · exact fun _ _ _ _ _ _ h => ab_no h
theorem kp_X6_choose : Kp Sp_X6_choose := by
  refine ab_kp ?_ ?_ ?_ ?_
  · decide
  · exact fun _ _ _ _ _ _ h => ab_no h
  · exact fun _ _ _ _ _ _ h => ab_no h
  · exact fun _ _ _ _ _ _ h => ab_no h
theorem kp_X6_meet : Kp Sp_X6_meet := by
  refine ab_kp ?_ ?_ ?_ ?_
  · decide
  · intro idx rc n ri kc τ h
    simp only [M_X6_meet, ab_cv, ab_cs, ab_cn] at h
    split at h
    · cases h; exact kp_X6_stay
    cases h
  · intro idx rc n ri kc τ h
    simp only [M_X6_meet, ab_cv, ab_cs, ab_cn] at h
    split at h
    · cases h; exact kp_X6_choose
    cases h
  · exact fun _ _ _ _ _ _ h => ab_no h
theorem kp_X6_countKinds : Kp Sp_X6_countKinds := by
  refine ab_kp ?_ ?_ ?_ ?_
  · decide
  · exact fun _ _ _ _ _ _ h => ab_no h
  · exact fun _ _ _ _ _ _ h => ab_no h
  · exact fun _ _ _ _ _ _ h => ab_no h
theorem kp_X6_comes : Kp Sp_X6_comes := by
  refine ab_kp ?_ ?_ ?_ ?_
  · decide
  · exact fun _ _ _ _ _ _ h => ab_no h
  · exact fun _ _ _ _ _ _ h => ab_no h
  · exact fun _ _ _ _ _ _ h => ab_no h
theorem kp_X6_findOrphans : Kp Sp_X6_findOrphans := by
  refine ab_kp ?_ ?_ ?_ ?_
  · decide
  · exact fun _ _ _ _ _ _ h => ab_no h
  · exact fun _ _ _ _ _ _ h => ab_no h
  · exact fun _ _ _ _ _ _ h => ab_no h
theorem kp_X6_findRings : Kp Sp_X6_findRings := by
  refine ab_kp ?_ ?_ ?_ ?_
  · decide
  · intro idx rc n ri kc τ h
    simp only [M_X6_findRings, ab_cv, ab_cs, ab_cn] at h
    split at h
    · cases h; exact kp_X6_comes
    cases h
  · exact fun _ _ _ _ _ _ h => ab_no h
  · exact fun _ _ _ _ _ _ h => ab_no h
theorem kp_X6_putChildren : Kp Sp_X6_putChildren := by
  refine ab_kp ?_ ?_ ?_ ?_
  · decide
  · intro idx rc n ri kc τ h
    simp only [M_X6_putChildren, ab_cv, ab_cs, ab_cn] at h
    split at h
    · cases h; exact kp_X6_children
    split at h
    · cases h; exact kp_X6_childAt
    split at h
    · cases h; exact kp_X6_hang
    cases h
  · exact fun _ _ _ _ _ _ h => ab_no h
  · exact fun _ _ _ _ _ _ h => ab_no h
theorem kp_X6_build : Kp Sp_X6_build := by
  refine ab_kp ?_ ?_ ?_ ?_
  · decide
  · intro idx rc n ri kc τ h
    simp only [M_X6_build, ab_cv, ab_cs, ab_cn] at h
    split at h
    · cases h; exact kp_X6_putChildren
    split at h
    · cases h; exact kp_X6_copy
    cases h
  · exact fun _ _ _ _ _ _ h => ab_no h
  · exact fun _ _ _ _ _ _ h => ab_no h
theorem kp_X6_merge : Kp Sp_X6_merge := by
  refine ab_kp ?_ ?_ ?_ ?_
  · decide
  · intro idx rc n ri kc τ h
    simp only [M_X6_merge, ab_cv, ab_cs, ab_cn] at h
    split at h
    · cases h; exact kp_X6_isCommit
    split at h
    · cases h; exact kp_X6_isHeads
    split at h
    · cases h; exact kp_X6_baseOf
    split at h
    · cases h; exact kp_X6_meet
    split at h
    · cases h; exact kp_X6_countKinds
    split at h
    · cases h; exact kp_X6_findOrphans
    split at h
    · cases h; exact kp_X6_findRings
    split at h
    · cases h; exact kp_X6_build
    cases h
  · exact fun _ _ _ _ _ _ h => ab_no h
  · exact fun _ _ _ _ _ _ h => ab_no h
theorem kp_X6_conflict : Kp Sp_X6_conflict := by
  refine ab_kp ?_ ?_ ?_ ?_
  · decide
  · exact fun _ _ _ _ _ _ h => ab_no h
  · exact fun _ _ _ _ _ _ h => ab_no h
  · exact fun _ _ _ _ _ _ h => ab_no h
theorem kp_X6_numberOf : Kp Sp_X6_numberOf := by
  refine ab_kp ?_ ?_ ?_ ?_
  · decide
  · intro idx rc n ri kc τ h
    simp only [M_X6_numberOf, ab_cv, ab_cs, ab_cn] at h
    split at h
    · cases h; exact kp_X6_walk
    cases h
  · exact fun _ _ _ _ _ _ h => ab_no h
  · exact fun _ _ _ _ _ _ h => ab_no h
theorem kp_X6_about : Kp Sp_X6_about := by
  refine ab_kp ?_ ?_ ?_ ?_
  · decide
  · intro idx rc n ri kc τ h
    simp only [M_X6_about, ab_cv, ab_cs, ab_cn] at h
    split at h
    · cases h; exact kp_X6_has
    split at h
    · cases h; exact kp_X6_children
    split at h
    · cases h; exact kp_X6_numberOf
    cases h
  · exact fun _ _ _ _ _ _ h => ab_no h
  · exact fun _ _ _ _ _ _ h => ab_no h
theorem kp_X6_child : Kp Sp_X6_child := by
  refine ab_kp ?_ ?_ ?_ ?_
  · decide
  · intro idx rc n ri kc τ h
    simp only [M_X6_child, ab_cv, ab_cs, ab_cn] at h
    split at h
    · cases h; exact kp_X6_has
    split at h
    · cases h; exact kp_X6_children
    split at h
    · cases h; exact kp_X6_childAt
    cases h
  · exact fun _ _ _ _ _ _ h => ab_no h
  · exact fun _ _ _ _ _ _ h => ab_no h
theorem kp_X6_nodes : Kp Sp_X6_nodes := by
  refine ab_kp ?_ ?_ ?_ ?_
  · decide
  · intro idx rc n ri kc τ h
    simp only [M_X6_nodes, ab_cv, ab_cs, ab_cn] at h
    split at h
    · cases h; exact kp_X6_walk
    cases h
  · exact fun _ _ _ _ _ _ h => ab_no h
  · exact fun _ _ _ _ _ _ h => ab_no h
theorem kp_X6_isFound : Kp Sp_X6_isFound := by
  refine ab_kp ?_ ?_ ?_ ?_
  · decide
  · intro idx rc n ri kc τ h
    simp only [M_X6_isFound, ab_cv, ab_cs, ab_cn] at h
    split at h
    · cases h; exact kp_X6_isAt
    cases h
  · exact fun _ _ _ _ _ _ h => ab_no h
  · exact fun _ _ _ _ _ _ h => ab_no h
theorem kp_X6_found : Kp Sp_X6_found := by
  refine ab_kp ?_ ?_ ?_ ?_
  · decide
  · intro idx rc n ri kc τ h
    simp only [M_X6_found, ab_cv, ab_cs, ab_cn] at h
    split at h
    · cases h; exact kp_X6_isFound
    cases h
  · exact fun _ _ _ _ _ _ h => ab_no h
  · exact fun _ _ _ _ _ _ h => ab_no h
theorem kp_X6_count : Kp Sp_X6_count := by
  refine ab_kp ?_ ?_ ?_ ?_
  · decide
  · intro idx rc n ri kc τ h
    simp only [M_X6_count, ab_cv, ab_cs, ab_cn] at h
    split at h
    · cases h; exact kp_X6_found
    cases h
  · exact fun _ _ _ _ _ _ h => ab_no h
  · exact fun _ _ _ _ _ _ h => ab_no h
theorem kp_X6_find : Kp Sp_X6_find := by
  refine ab_kp ?_ ?_ ?_ ?_
  · decide
  · intro idx rc n ri kc τ h
    simp only [M_X6_find, ab_cv, ab_cs, ab_cn] at h
    split at h
    · cases h; exact kp_X6_found
    split at h
    · cases h; exact kp_X6_walk
    split at h
    · cases h; exact kp_X6_fail
    cases h
  · exact fun _ _ _ _ _ _ h => ab_no h
  · exact fun _ _ _ _ _ _ h => ab_no h
theorem kp_X6_areAlike : Kp Sp_X6_areAlike := by
  refine ab_kp ?_ ?_ ?_ ?_
  · decide
  · intro idx rc n ri kc τ h
    simp only [M_X6_areAlike, ab_cv, ab_cs, ab_cn] at h
    split at h
    · cases h; exact kp_X6_children
    split at h
    · cases h; exact kp_X6_childAt
    cases h
  · exact fun _ _ _ _ _ _ h => ab_no h
  · exact fun _ _ _ _ _ _ h => ab_no h
theorem kp_X6_alike : Kp Sp_X6_alike := by
  refine ab_kp ?_ ?_ ?_ ?_
  · decide
  · intro idx rc n ri kc τ h
    simp only [M_X6_alike, ab_cv, ab_cs, ab_cn] at h
    split at h
    · cases h; exact kp_X6_has
    split at h
    · cases h; exact kp_X6_walk
    split at h
    · cases h; exact kp_X6_areAlike
    cases h
  · exact fun _ _ _ _ _ _ h => ab_no h
  · exact fun _ _ _ _ _ _ h => ab_no h
theorem kp_X6_leave : Kp Sp_X6_leave := by
  refine ab_kp ?_ ?_ ?_ ?_
  · decide
  · intro idx rc n ri kc τ h
    simp only [M_X6_leave, ab_cv, ab_cs, ab_cn] at h
    split at h
    · cases h; exact kp_X6_walk
    split at h
    · cases h; exact kp_X6_isAt
    cases h
  · exact fun _ _ _ _ _ _ h => ab_no h
  · exact fun _ _ _ _ _ _ h => ab_no h
theorem kp_X6_least : Kp Sp_X6_least := by
  refine ab_kp ?_ ?_ ?_ ?_
  · decide
  · exact fun _ _ _ _ _ _ h => ab_no h
  · exact fun _ _ _ _ _ _ h => ab_no h
  · exact fun _ _ _ _ _ _ h => ab_no h
theorem kp_X6_compare : Kp Sp_X6_compare := by
  refine ab_kp ?_ ?_ ?_ ?_
  · decide
  · exact fun _ _ _ _ _ _ h => ab_no h
  · intro idx rc n ri kc τ h
    simp only [M_X6_compare, ab_cv, ab_cs, ab_cn] at h
    split at h
    · cases h; exact kp_X6_least
    cases h
  · exact fun _ _ _ _ _ _ h => ab_no h
theorem kp_X6_distance : Kp Sp_X6_distance := by
  refine ab_kp ?_ ?_ ?_ ?_
  · decide
  · intro idx rc n ri kc τ h
    simp only [M_X6_distance, ab_cv, ab_cs, ab_cn] at h
    split at h
    · cases h; exact kp_X6_isCommit
    split at h
    · cases h; exact kp_X6_leave
    split at h
    · cases h; exact kp_X6_compare
    cases h
  · exact fun _ _ _ _ _ _ h => ab_no h
  · exact fun _ _ _ _ _ _ h => ab_no h
theorem kp_X6_state : Kp Sp_X6_state := by
  refine ab_kp ?_ ?_ ?_ ?_
  · decide
  · exact fun _ _ _ _ _ _ h => ab_no h
  · exact fun _ _ _ _ _ _ h => ab_no h
  · exact fun _ _ _ _ _ _ h => ab_no h
theorem kp_X6_above : Kp Sp_X6_above := by
  refine ab_kp ?_ ?_ ?_ ?_
  · decide
  · intro idx rc n ri kc τ h
    simp only [M_X6_above, ab_cv, ab_cs, ab_cn] at h
    split at h
    · cases h; exact kp_X6_isCommit
    cases h
  · exact fun _ _ _ _ _ _ h => ab_no h
  · exact fun _ _ _ _ _ _ h => ab_no h
