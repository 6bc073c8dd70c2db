/-! Which exceptions a method can throw. -/
def Thr (X : Nat → Prop) (τ : ab_TR) : Prop := ∀ (vs : List ab_V) (S : ab_S) (Q Q' : ab_Po), (∀ o S', Q o S' → (∀ E, o = .inr E → X E) → Q' o S') → τ vs S Q → τ vs S Q'
theorem ab_thr {X : Nat → Prop} {M : ab_M} {nL : Nat} (hth : ∀ pc E, ab_th M pc = some E → X E) (hv : ∀ idx rc n ri kc τ, ab_cv M idx = some (rc, n, ri, kc, τ) → Thr X τ) (hs : ∀ idx rc n ri kc τ, ab_cs M idx = some (rc, n, ri, kc, τ) → Thr X τ) : Thr X (ab_Sem M nL) := by
  intro vs S Q Q' hQ h
  refine ⟨h.1, fun G hG => h.2 G ?_⟩
  have bk : ∀ pc L rest k o S', ab_back Q G pc L rest k o S' → (∀ E, o = .inr E → X E) → ab_back Q' G pc L rest k o S' := by
    intro pc L rest k o S' h1 h2
    match o, h1, h2 with
    | .inl none, h1, _ => exact h1
    | .inl (some r), h1, _ => exact h1
    | .inr E, h1, h2 => exact hQ _ _ h1 h2
  exact ⟨(show ab_c_iload_n M Q' G from ab_iload_n' hG), (show ab_c_iload M Q' G from ab_iload' hG), (show ab_c_aload_n M Q' G from ab_aload_n' hG), (show ab_c_aload M Q' G from ab_aload' hG), (show ab_c_istore_n M Q' G from ab_istore_n' hG), (show ab_c_istore M Q' G from ab_istore' hG), (show ab_c_astore_n M Q' G from ab_astore_n' hG), (show ab_c_astore M Q' G from ab_astore' hG), (show ab_c_iinc M Q' G from ab_iinc' hG), (show ab_c_iconst M Q' G from ab_iconst' hG), (show ab_c_bipush M Q' G from ab_bipush' hG), (show ab_c_sipush M Q' G from ab_sipush' hG), (show ab_c_ldc_w M Q' G from ab_ldc_w' hG), (show ab_c_iadd M Q' G from ab_iadd' hG), (show ab_c_isub M Q' G from ab_isub' hG), (show ab_c_imul M Q' G from ab_imul' hG), (show ab_c_iand M Q' G from ab_iand' hG), (show ab_c_ior M Q' G from ab_ior' hG), (show ab_c_ishl M Q' G from ab_ishl' hG), (show ab_c_ishr M Q' G from ab_ishr' hG), (show ab_c_iushr M Q' G from ab_iushr' hG), (show ab_c_dup M Q' G from ab_dup' hG), (show ab_c_pop M Q' G from ab_pop' hG), (show ab_c_if_eq M Q' G from ab_if_eq' hG), (show ab_c_icmp_eq M Q' G from ab_icmp_eq' hG), (show ab_c_if_ne M Q' G from ab_if_ne' hG), (show ab_c_icmp_ne M Q' G from ab_icmp_ne' hG), (show ab_c_if_lt M Q' G from ab_if_lt' hG), (show ab_c_icmp_lt M Q' G from ab_icmp_lt' hG), (show ab_c_if_ge M Q' G from ab_if_ge' hG), (show ab_c_icmp_ge M Q' G from ab_icmp_ge' hG), (show ab_c_if_gt M Q' G from ab_if_gt' hG), (show ab_c_icmp_gt M Q' G from ab_icmp_gt' hG), (show ab_c_if_le M Q' G from ab_if_le' hG), (show ab_c_icmp_le M Q' G from ab_icmp_le' hG), (show ab_c_goto M Q' G from ab_goto' hG), (show ab_c_swO M Q' G from ab_swO' hG), (show ab_c_swI M Q' G from ab_swI' hG), fun pc L S k x hd hrk hk hq => ab_ireturn' hG pc L S k x hd hrk hk (hQ _ _ hq (fun E e => by cases e)), fun pc L S k hd hrk hk hq => ab_return_' hG pc L S k hd hrk hk (hQ _ _ hq (fun E e => by cases e)), (show ab_c_getfield M Q' G from ab_getfield' hG), (show ab_c_putfield M Q' G from ab_putfield' hG), (show ab_c_iaload M Q' G from ab_iaload' hG), (show ab_c_baload M Q' G from ab_baload' hG), (show ab_c_iastore M Q' G from ab_iastore' hG), (show ab_c_bastore M Q' G from ab_bastore' hG), (show ab_c_aaload2 M Q' G from ab_aaload2' hG), (show ab_c_aaload3 M Q' G from ab_aaload3' hG), (show ab_c_alen M Q' G from ab_alen' hG), fun pc L as rest S k idx rc n ri kc τ o hd hc hlen ha hrc h8 hkK hτ => ab_invv' hG pc L as rest S k idx rc n ri kc τ o hd hc hlen ha hrc h8 hkK (hv idx rc n ri kc τ hc _ _ _ _ (bk _ _ _ _) hτ), fun pc L as rest S k idx rc n ri kc τ hd hc hlen h8 hkK hτ => ab_invs' hG pc L as rest S k idx rc n ri kc τ hd hc hlen h8 hkK (hs idx rc n ri kc τ hc _ _ _ _ (bk _ _ _ _) hτ), (show ab_c_invn M Q' G from ab_invn' hG), (show ab_c_min M Q' G from ab_min' hG), (show ab_c_acopy M Q' G from ab_acopy' hG), fun pc L st S k E hE h8 hk hq => ab_throw' hG pc L st S k E hE h8 hk (hQ _ _ hq (fun E' e => by cases e; exact hth pc E hE)), (show ab_c_forget M Q' G from ab_forget' hG)⟩
theorem tw_J6_bitCount_0f7a4 {X : Nat → Prop} : Thr X Sp_J6_bitCount_0f7a4 := by
  refine ab_thr ?_ ?_ ?_
  · exact fun _ _ h => ab_no h
  · exact fun _ _ _ _ _ _ h => ab_no h
  · exact fun _ _ _ _ _ _ h => ab_no h
theorem tw_J7_fill_53178 {X : Nat → Prop} : Thr X Sp_J7_fill_53178 := by
  refine ab_thr ?_ ?_ ?_
  · exact fun _ _ h => ab_no h
  · exact fun _ _ _ _ _ _ h => ab_no h
  · exact fun _ _ _ _ _ _ h => ab_no h
theorem tw_X4_parentSpot {X : Nat → Prop} : Thr X Sp_X4_parentSpot := by
  refine ab_thr ?_ ?_ ?_
  · exact fun _ _ h => ab_no h
  · exact fun _ _ _ _ _ _ h => ab_no h
  · exact fun _ _ _ _ _ _ h => ab_no h
theorem tw_X4_endOf {X : Nat → Prop} : Thr X Sp_X4_endOf := by
  refine ab_thr ?_ ?_ ?_
  · exact fun _ _ h => ab_no h
  · intro idx rc n ri kc τ h
    simp only [M_X4_endOf, ab_cv, ab_cs, ab_cn] at h
    split at h
    · cases h; exact tw_X4_parentSpot
    cases h
  · exact fun _ _ _ _ _ _ h => ab_no h
theorem tw_X0_noteEnds {X : Nat → Prop} : Thr X Sp_X0_noteEnds := by
  refine ab_thr ?_ ?_ ?_
  · exact fun _ _ h => ab_no h
  · intro idx rc n ri kc τ h
    simp only [M_X0_noteEnds, ab_cv, ab_cs, ab_cn] at h
    split at h
    · cases h; exact tw_X4_endOf
    cases h
  · exact fun _ _ _ _ _ _ h => ab_no h
theorem tw_X0_isWidest {X : Nat → Prop} : Thr X Sp_X0_isWidest := by
  refine ab_thr ?_ ?_ ?_
  · exact fun _ _ h => ab_no h
  · intro idx rc n ri kc τ h
    simp only [M_X0_isWidest, ab_cv, ab_cs, ab_cn] at h
    split at h
    · cases h; exact tw_X4_parentSpot
    cases h
  · exact fun _ _ _ _ _ _ h => ab_no h
theorem tw_X0_least {X : Nat → Prop} : Thr X Sp_X0_least := by
  refine ab_thr ?_ ?_ ?_
  · exact fun _ _ h => ab_no h
  · exact fun _ _ _ _ _ _ h => ab_no h
  · exact fun _ _ _ _ _ _ h => ab_no h
theorem tw_X0_compareParts {X : Nat → Prop} : Thr X Sp_X0_compareParts := by
  refine ab_thr ?_ ?_ ?_
  · exact fun _ _ h => ab_no h
  · intro idx rc n ri kc τ h
    simp only [M_X0_compareParts, ab_cv, ab_cs, ab_cn] at h
    split at h
    · cases h; exact tw_X0_least
    cases h
  · exact fun _ _ _ _ _ _ h => ab_no h
theorem tw_X0_compareWithAll {X : Nat → Prop} : Thr X Sp_X0_compareWithAll := by
  refine ab_thr ?_ ?_ ?_
  · exact fun _ _ h => ab_no h
  · intro idx rc n ri kc τ h
    simp only [M_X0_compareWithAll, ab_cv, ab_cs, ab_cn] at h
    split at h
    · cases h; exact tw_X0_compareParts
    cases h
  · intro idx rc n ri kc τ h
    simp only [M_X0_compareWithAll, ab_cv, ab_cs, ab_cn] at h
    split at h
    · cases h; exact tw_X0_isWidest
    cases h
theorem tw_X0_between {X : Nat → Prop} : Thr X Sp_X0_between := by
  refine ab_thr ?_ ?_ ?_
  · exact fun _ _ h => ab_no h
  · intro idx rc n ri kc τ h
    simp only [M_X0_between, ab_cv, ab_cs, ab_cn] at h
    split at h
    · cases h; exact tw_X0_compareWithAll
    cases h
  · intro idx rc n ri kc τ h
    simp only [M_X0_between, ab_cv, ab_cs, ab_cn] at h
    split at h
    · cases h; exact tw_X0_noteEnds
    split at h
    · cases h; exact tw_X0_isWidest
    cases h
theorem tw_X4_copyFrom {X : Nat → Prop} : Thr X Sp_X4_copyFrom := by
  refine ab_thr ?_ ?_ ?_
  · exact fun _ _ h => ab_no h
  · exact fun _ _ _ _ _ _ h => ab_no h
  · exact fun _ _ _ _ _ _ h => ab_no h
theorem tw_X1_reachOf {X : Nat → Prop} : Thr X Sp_X1_reachOf := by
  refine ab_thr ?_ ?_ ?_
  · exact fun _ _ h => ab_no h
  · exact fun _ _ _ _ _ _ h => ab_no h
  · exact fun _ _ _ _ _ _ h => ab_no h
theorem tw_X1_record {X : Nat → Prop} : Thr X Sp_X1_record := by
  refine ab_thr ?_ ?_ ?_
  · exact fun _ _ h => ab_no h
  · intro idx rc n ri kc τ h
    simp only [M_X1_record, ab_cv, ab_cs, ab_cn] at h
    split at h
    · cases h; exact tw_X4_copyFrom
    split at h
    · cases h; exact tw_X1_reachOf
    cases h
  · exact fun _ _ _ _ _ _ h => ab_no h
theorem tw_X5_isIn {X : Nat → Prop} : Thr X Sp_X5_isIn := by
  refine ab_thr ?_ ?_ ?_
  · exact fun _ _ h => ab_no h
  · exact fun _ _ _ _ _ _ h => ab_no h
  · exact fun _ _ _ _ _ _ h => ab_no h
theorem tw_X1_isReachedFromAnother {X : Nat → Prop} : Thr X Sp_X1_isReachedFromAnother := by
  refine ab_thr ?_ ?_ ?_
  · exact fun _ _ h => ab_no h
  · exact fun _ _ _ _ _ _ h => ab_no h
  · exact fun _ _ _ _ _ _ h => ab_no h
theorem tw_X1_baseOf {X : Nat → Prop} : Thr X Sp_X1_baseOf := by
  refine ab_thr ?_ ?_ ?_
  · exact fun _ _ h => ab_no h
  · intro idx rc n ri kc τ h
    simp only [M_X1_baseOf, ab_cv, ab_cs, ab_cn] at h
    split at h
    · cases h; exact tw_X1_isReachedFromAnother
    cases h
  · exact fun _ _ _ _ _ _ h => ab_no h
theorem tw_X4_clear {X : Nat → Prop} : Thr X Sp_X4_clear := by
  refine ab_thr ?_ ?_ ?_
  · exact fun _ _ h => ab_no h
  · exact fun _ _ _ _ _ _ h => ab_no h
  · intro idx rc n ri kc τ h
    simp only [M_X4_clear, ab_cv, ab_cs, ab_cn] at h
    split at h
    · cases h; exact tw_J7_fill_53178
    cases h
theorem tw_X4_holds {X : Nat → Prop} : Thr X Sp_X4_holds := by
  refine ab_thr ?_ ?_ ?_
  · exact fun _ _ h => ab_no h
  · exact fun _ _ _ _ _ _ h => ab_no h
  · exact fun _ _ _ _ _ _ h => ab_no h
theorem tw_X4_hasAsIn {X : Nat → Prop} : Thr X Sp_X4_hasAsIn := by
  refine ab_thr ?_ ?_ ?_
  · exact fun _ _ h => ab_no h
  · exact fun _ _ _ _ _ _ h => ab_no h
  · exact fun _ _ _ _ _ _ h => ab_no h
theorem tw_X2_name {X : Nat → Prop} : Thr X Sp_X2_name := by
  refine ab_thr ?_ ?_ ?_
  · exact fun _ _ h => ab_no h
  · exact fun _ _ _ _ _ _ h => ab_no h
  · exact fun _ _ _ _ _ _ h => ab_no h
theorem tw_X2_agreed {X : Nat → Prop} : Thr X Sp_X2_agreed := by
  refine ab_thr ?_ ?_ ?_
  · exact fun _ _ h => ab_no h
  · exact fun _ _ _ _ _ _ h => ab_no h
  · exact fun _ _ _ _ _ _ h => ab_no h
theorem tw_X2_settle {X : Nat → Prop} : Thr X Sp_X2_settle := by
  refine ab_thr ?_ ?_ ?_
  · exact fun _ _ h => ab_no h
  · intro idx rc n ri kc τ h
    simp only [M_X2_settle, ab_cv, ab_cs, ab_cn] at h
    split at h
    · cases h; exact tw_X4_holds
    split at h
    · cases h; exact tw_X4_hasAsIn
    split at h
    · cases h; exact tw_X2_name
    cases h
  · intro idx rc n ri kc τ h
    simp only [M_X2_settle, ab_cv, ab_cs, ab_cn] at h
    split at h
    · cases h; exact tw_X2_agreed
    cases h
theorem tw_X2_nameThoseWithoutParent {X : Nat → Prop} : Thr X Sp_X2_nameThoseWithoutParent := by
  refine ab_thr ?_ ?_ ?_
  · exact fun _ _ h => ab_no h
  · intro idx rc n ri kc τ h
    simp only [M_X2_nameThoseWithoutParent, ab_cv, ab_cs, ab_cn] at h
    split at h
    · cases h; exact tw_X4_holds
    split at h
    · cases h; exact tw_X2_name
    cases h
  · exact fun _ _ _ _ _ _ h => ab_no h
theorem tw_X2_comesToRoot {X : Nat → Prop} : Thr X Sp_X2_comesToRoot := by
  refine ab_thr ?_ ?_ ?_
  · exact fun _ _ h => ab_no h
  · exact fun _ _ _ _ _ _ h => ab_no h
  · exact fun _ _ _ _ _ _ h => ab_no h
theorem tw_X2_nameThoseCutOff {X : Nat → Prop} : Thr X Sp_X2_nameThoseCutOff := by
  refine ab_thr ?_ ?_ ?_
  · exact fun _ _ h => ab_no h
  · intro idx rc n ri kc τ h
    simp only [M_X2_nameThoseCutOff, ab_cv, ab_cs, ab_cn] at h
    split at h
    · cases h; exact tw_X4_holds
    split at h
    · cases h; exact tw_X2_comesToRoot
    split at h
    · cases h; exact tw_X2_name
    cases h
  · exact fun _ _ _ _ _ _ h => ab_no h
theorem tw_X4_renumberFrom {X : Nat → Prop} : Thr X Sp_X4_renumberFrom := by
  refine ab_thr ?_ ?_ ?_
  · exact fun _ _ h => ab_no h
  · exact fun _ _ _ _ _ _ h => ab_no h
  · exact fun _ _ _ _ _ _ h => ab_no h
theorem tw_X4_putCarried {X : Nat → Prop} : Thr X Sp_X4_putCarried := by
  refine ab_thr ?_ ?_ ?_
  · exact fun _ _ h => ab_no h
  · intro idx rc n ri kc τ h
    simp only [M_X4_putCarried, ab_cv, ab_cs, ab_cn] at h
    split at h
    · cases h; exact tw_X4_renumberFrom
    cases h
  · exact fun _ _ _ _ _ _ h => ab_no h
theorem tw_X4_putInto {X : Nat → Prop} : Thr X Sp_X4_putInto := by
  refine ab_thr ?_ ?_ ?_
  · exact fun _ _ h => ab_no h
  · intro idx rc n ri kc τ h
    simp only [M_X4_putInto, ab_cv, ab_cs, ab_cn] at h
    split at h
    · cases h; exact tw_X4_putCarried
    cases h
  · exact fun _ _ _ _ _ _ h => ab_no h
theorem tw_X2_isChildNowAsIn {X : Nat → Prop} : Thr X Sp_X2_isChildNowAsIn := by
  refine ab_thr ?_ ?_ ?_
  · exact fun _ _ h => ab_no h
  · exact fun _ _ _ _ _ _ h => ab_no h
  · exact fun _ _ _ _ _ _ h => ab_no h
theorem tw_X2_arrangeChildren {X : Nat → Prop} : Thr X Sp_X2_arrangeChildren := by
  refine ab_thr ?_ ?_ ?_
  · exact fun _ _ h => ab_no h
  · intro idx rc n ri kc τ h
    simp only [M_X2_arrangeChildren, ab_cv, ab_cs, ab_cn] at h
    split at h
    · cases h; exact tw_X2_isChildNowAsIn
    split at h
    · cases h; exact tw_X4_putInto
    cases h
  · exact fun _ _ _ _ _ _ h => ab_no h
theorem tw_X2_arrange {X : Nat → Prop} : Thr X Sp_X2_arrange := by
  refine ab_thr ?_ ?_ ?_
  · exact fun _ _ h => ab_no h
  · intro idx rc n ri kc τ h
    simp only [M_X2_arrange, ab_cv, ab_cs, ab_cn] at h
    split at h
    · cases h; exact tw_X4_putInto
    split at h
    · cases h; exact tw_X2_arrangeChildren
    cases h
  · exact fun _ _ _ _ _ _ h => ab_no h
theorem tw_X2_run {X : Nat → Prop} : Thr X Sp_X2_run := by
  refine ab_thr ?_ ?_ ?_
  · exact fun _ _ h => ab_no h
  · intro idx rc n ri kc τ h
    simp only [M_X2_run, ab_cv, ab_cs, ab_cn] at h
    split at h
    · cases h; exact tw_X4_clear
    split at h
    · cases h; exact tw_X4_holds
    split at h
    · cases h; exact tw_X2_settle
    split at h
    · cases h; exact tw_X2_nameThoseWithoutParent
    split at h
    · cases h; exact tw_X2_nameThoseCutOff
    split at h
    · cases h; exact tw_X2_arrange
    cases h
  · exact fun _ _ _ _ _ _ h => ab_no h
theorem tw_X3_childrenOf {X : Nat → Prop} : Thr X Sp_X3_childrenOf := by
  refine ab_thr ?_ ?_ ?_
  · exact fun _ _ h => ab_no h
  · exact fun _ _ _ _ _ _ h => ab_no h
  · exact fun _ _ _ _ _ _ h => ab_no h
theorem tw_X3_below {X : Nat → Prop} : Thr X Sp_X3_below := by
  refine ab_thr ?_ ?_ ?_
  · exact fun _ _ h => ab_no h
  · exact fun _ _ _ _ _ _ h => ab_no h
  · exact fun _ _ _ _ _ _ h => ab_no h
theorem tw_X3_behind {X : Nat → Prop} : Thr X Sp_X3_behind := by
  refine ab_thr ?_ ?_ ?_
  · exact fun _ _ h => ab_no h
  · exact fun _ _ _ _ _ _ h => ab_no h
  · exact fun _ _ _ _ _ _ h => ab_no h
theorem tw_X3_alongAxis {X : Nat → Prop} : Thr X Sp_X3_alongAxis := by
  refine ab_thr ?_ ?_ ?_
  · exact fun _ _ h => ab_no h
  · exact fun _ _ _ _ _ _ h => ab_no h
  · intro idx rc n ri kc τ h
    simp only [M_X3_alongAxis, ab_cv, ab_cs, ab_cn] at h
    split at h
    · cases h; exact tw_X3_childrenOf
    split at h
    · cases h; exact tw_X3_below
    split at h
    · cases h; exact tw_X3_behind
    cases h
theorem tw_X3_labelled {X : Nat → Prop} : Thr X Sp_X3_labelled := by
  refine ab_thr ?_ ?_ ?_
  · exact fun _ _ h => ab_no h
  · exact fun _ _ _ _ _ _ h => ab_no h
  · exact fun _ _ _ _ _ _ h => ab_no h
theorem tw_X3_follow {X : Nat → Prop} : Thr X Sp_X3_follow := by
  refine ab_thr ?_ ?_ ?_
  · exact fun _ _ h => ab_no h
  · exact fun _ _ _ _ _ _ h => ab_no h
  · intro idx rc n ri kc τ h
    simp only [M_X3_follow, ab_cv, ab_cs, ab_cn] at h
    split at h
    · cases h; exact tw_X3_alongAxis
    split at h
    · cases h; exact tw_X3_labelled
    cases h
theorem tw_X4_isSameAs {X : Nat → Prop} : Thr X Sp_X4_isSameAs := by
  refine ab_thr ?_ ?_ ?_
  · exact fun _ _ h => ab_no h
  · intro idx rc n ri kc τ h
    simp only [M_X4_isSameAs, ab_cv, ab_cs, ab_cn] at h
    split at h
    · cases h; exact tw_X4_hasAsIn
    cases h
  · exact fun _ _ _ _ _ _ h => ab_no h
theorem tw_X4_isWithin {X : Nat → Prop} : Thr X Sp_X4_isWithin := by
  refine ab_thr ?_ ?_ ?_
  · exact fun _ _ h => ab_no h
  · intro idx rc n ri kc τ h
    simp only [M_X4_isWithin, ab_cv, ab_cs, ab_cn] at h
    split at h
    · cases h; exact tw_X4_endOf
    cases h
  · exact fun _ _ _ _ _ _ h => ab_no h
theorem tw_X4_childCount {X : Nat → Prop} : Thr X Sp_X4_childCount := by
  refine ab_thr ?_ ?_ ?_
  · exact fun _ _ h => ab_no h
  · exact fun _ _ _ _ _ _ h => ab_no h
  · exact fun _ _ _ _ _ _ h => ab_no h
theorem tw_X4_slotFor {X : Nat → Prop} : Thr X Sp_X4_slotFor := by
  refine ab_thr ?_ ?_ ?_
  · exact fun _ _ h => ab_no h
  · intro idx rc n ri kc τ h
    simp only [M_X4_slotFor, ab_cv, ab_cs, ab_cn] at h
    split at h
    · cases h; exact tw_X4_endOf
    cases h
  · exact fun _ _ _ _ _ _ h => ab_no h
theorem tw_X4_attach {X : Nat → Prop} : Thr X Sp_X4_attach := by
  refine ab_thr ?_ ?_ ?_
  · exact fun _ _ h => ab_no h
  · intro idx rc n ri kc τ h
    simp only [M_X4_attach, ab_cv, ab_cs, ab_cn] at h
    split at h
    · cases h; exact tw_X4_slotFor
    split at h
    · cases h; exact tw_X4_putInto
    cases h
  · exact fun _ _ _ _ _ _ h => ab_no h
theorem tw_X4_takeOut {X : Nat → Prop} : Thr X Sp_X4_takeOut := by
  refine ab_thr ?_ ?_ ?_
  · exact fun _ _ h => ab_no h
  · intro idx rc n ri kc τ h
    simp only [M_X4_takeOut, ab_cv, ab_cs, ab_cn] at h
    split at h
    · cases h; exact tw_X4_endOf
    split at h
    · cases h; exact tw_X4_renumberFrom
    cases h
  · exact fun _ _ _ _ _ _ h => ab_no h
theorem tw_X4_prune {X : Nat → Prop} : Thr X Sp_X4_prune := by
  refine ab_thr ?_ ?_ ?_
  · exact fun _ _ h => ab_no h
  · intro idx rc n ri kc τ h
    simp only [M_X4_prune, ab_cv, ab_cs, ab_cn] at h
    split at h
    · cases h; exact tw_X4_takeOut
    cases h
  · exact fun _ _ _ _ _ _ h => ab_no h
theorem tw_X4_transplant {X : Nat → Prop} : Thr X Sp_X4_transplant := by
  refine ab_thr ?_ ?_ ?_
  · exact fun _ _ h => ab_no h
  · intro idx rc n ri kc τ h
    simp only [M_X4_transplant, ab_cv, ab_cs, ab_cn] at h
    split at h
    · cases h; exact tw_X4_takeOut
    split at h
    · cases h; exact tw_X4_slotFor
    split at h
    · cases h; exact tw_X4_putCarried
    cases h
  · exact fun _ _ _ _ _ _ h => ab_no h
theorem tw_X4_pick {X : Nat → Prop} : Thr X Sp_X4_pick := by
  refine ab_thr ?_ ?_ ?_
  · exact fun _ _ h => ab_no h
  · exact fun _ _ _ _ _ _ h => ab_no h
  · exact fun _ _ _ _ _ _ h => ab_no h
theorem tw_X4_areAlike {X : Nat → Prop} : Thr X Sp_X4_areAlike := by
  refine ab_thr ?_ ?_ ?_
  · exact fun _ _ h => ab_no h
  · intro idx rc n ri kc τ h
    simp only [M_X4_areAlike, ab_cv, ab_cs, ab_cn] at h
    split at h
    · cases h; exact tw_X4_endOf
    split at h
    · cases h; exact tw_X4_parentSpot
    cases h
  · exact fun _ _ _ _ _ _ h => ab_no h
theorem tw_X4_firstAlike {X : Nat → Prop} : Thr X Sp_X4_firstAlike := by
  refine ab_thr ?_ ?_ ?_
  · exact fun _ _ h => ab_no h
  · intro idx rc n ri kc τ h
    simp only [M_X4_firstAlike, ab_cv, ab_cs, ab_cn] at h
    split at h
    · cases h; exact tw_X4_areAlike
    cases h
  · exact fun _ _ _ _ _ _ h => ab_no h
theorem tw_X5_requireNode {X : Nat → Prop} (h0 : X 0) : Thr X Sp_X5_requireNode := by
  refine ab_thr ?_ ?_ ?_
  · intro pc E h
    simp only [M_X5_requireNode, ab_th] at h
    split at h
    · cases h; assumption
    cases h
  · intro idx rc n ri kc τ h
    simp only [M_X5_requireNode, ab_cv, ab_cs, ab_cn] at h
    split at h
    · cases h; exact tw_X4_holds
    cases h
  · exact fun _ _ _ _ _ _ h => ab_no h
theorem tw_X5_requirePlace {X : Nat → Prop} (h1 : X 1) : Thr X Sp_X5_requirePlace := by
  refine ab_thr ?_ ?_ ?_
  · intro pc E h
    simp only [M_X5_requirePlace, ab_th] at h
    split at h
    · cases h; assumption
    cases h
  · exact fun _ _ _ _ _ _ h => ab_no h
  · exact fun _ _ _ _ _ _ h => ab_no h
theorem tw_X5_requireLabel {X : Nat → Prop} (h2 : X 2) : Thr X Sp_X5_requireLabel := by
  refine ab_thr ?_ ?_ ?_
  · intro pc E h
    simp only [M_X5_requireLabel, ab_th] at h
    split at h
    · cases h; assumption
    cases h
  · exact fun _ _ _ _ _ _ h => ab_no h
  · exact fun _ _ _ _ _ _ h => ab_no h
theorem tw_X5_insert {X : Nat → Prop} (h0 : X 0) (h1 : X 1) (h2 : X 2) (h3 : X 3) : Thr X Sp_X5_insert := by
  refine ab_thr ?_ ?_ ?_
  · intro pc E h
    simp only [M_X5_insert, ab_th] at h
    split at h
    · cases h; assumption
    cases h
  · intro idx rc n ri kc τ h
    simp only [M_X5_insert, ab_cv, ab_cs, ab_cn] at h
    split at h
    · cases h; exact tw_X5_requireNode h0
    split at h
    · cases h; exact tw_X4_childCount
    split at h
    · cases h; exact tw_X4_attach
    cases h
  · intro idx rc n ri kc τ h
    simp only [M_X5_insert, ab_cv, ab_cs, ab_cn] at h
    split at h
    · cases h; exact tw_X5_requirePlace h1
    split at h
    · cases h; exact tw_X5_requireLabel h2
    cases h
theorem tw_X5_delete {X : Nat → Prop} (h0 : X 0) (h2 : X 2) : Thr X Sp_X5_delete := by
  refine ab_thr ?_ ?_ ?_
  · intro pc E h
    simp only [M_X5_delete, ab_th] at h
    split at h
    · cases h; assumption
    cases h
  · intro idx rc n ri kc τ h
    simp only [M_X5_delete, ab_cv, ab_cs, ab_cn] at h
    split at h
    · cases h; exact tw_X5_requireNode h0
    split at h
    · cases h; exact tw_X4_prune
    cases h
  · exact fun _ _ _ _ _ _ h => ab_no h
theorem tw_X5_move {X : Nat → Prop} (h0 : X 0) (h1 : X 1) (h2 : X 2) : Thr X Sp_X5_move := by
  refine ab_thr ?_ ?_ ?_
  · intro pc E h
    simp only [M_X5_move, ab_th] at h
    split at h
    · cases h; assumption
    cases h
  · intro idx rc n ri kc τ h
    simp only [M_X5_move, ab_cv, ab_cs, ab_cn] at h
    split at h
    · cases h; exact tw_X5_requireNode h0
    split at h
    · cases h; exact tw_X4_isWithin
    split at h
    · cases h; exact tw_X4_childCount
    split at h
    · cases h; exact tw_X4_transplant
    cases h
  · intro idx rc n ri kc τ h
    simp only [M_X5_move, ab_cv, ab_cs, ab_cn] at h
    split at h
    · cases h; exact tw_X5_requirePlace h1
    cases h
theorem tw_X5_relabel {X : Nat → Prop} (h0 : X 0) (h2 : X 2) : Thr X Sp_X5_relabel := by
  refine ab_thr ?_ ?_ ?_
  · exact fun _ _ h => ab_no h
  · intro idx rc n ri kc τ h
    simp only [M_X5_relabel, ab_cv, ab_cs, ab_cn] at h
    split at h
    · cases h; exact tw_X5_requireNode h0
    cases h
  · intro idx rc n ri kc τ h
    simp only [M_X5_relabel, ab_cv, ab_cs, ab_cn] at h
    split at h
    · cases h; exact tw_X5_requireLabel h2
    cases h
theorem tw_X5_commit {X : Nat → Prop} (h3 : X 3) : Thr X Sp_X5_commit := by
  refine ab_thr ?_ ?_ ?_
  · intro pc E h
    simp only [M_X5_commit, ab_th] at h
    split at h
    · cases h; assumption
    cases h
  · intro idx rc n ri kc τ h
    simp only [M_X5_commit, ab_cv, ab_cs, ab_cn] at h
    split at h
    · cases h; exact tw_X1_record
    cases h
  · exact fun _ _ _ _ _ _ h => ab_no h
theorem tw_X5_requireCommit {X : Nat → Prop} (h0 : X 0) : Thr X Sp_X5_requireCommit := by
  refine ab_thr ?_ ?_ ?_
  · intro pc E h
    simp only [M_X5_requireCommit, ab_th] at h
    split at h
    · cases h; assumption
    cases h
  · exact fun _ _ _ _ _ _ h => ab_no h
  · exact fun _ _ _ _ _ _ h => ab_no h
theorem tw_X5_checkout {X : Nat → Prop} (h0 : X 0) : Thr X Sp_X5_checkout := by
  refine ab_thr ?_ ?_ ?_
  · exact fun _ _ h => ab_no h
  · intro idx rc n ri kc τ h
    simp only [M_X5_checkout, ab_cv, ab_cs, ab_cn] at h
    split at h
    · cases h; exact tw_X5_requireCommit h0
    split at h
    · cases h; exact tw_X4_copyFrom
    cases h
  · exact fun _ _ _ _ _ _ h => ab_no h
theorem tw_X5_base {X : Nat → Prop} (h0 : X 0) : Thr X Sp_X5_base := by
  refine ab_thr ?_ ?_ ?_
  · exact fun _ _ h => ab_no h
  · intro idx rc n ri kc τ h
    simp only [M_X5_base, ab_cv, ab_cs, ab_cn] at h
    split at h
    · cases h; exact tw_X5_requireCommit h0
    split at h
    · cases h; exact tw_X1_baseOf
    cases h
  · exact fun _ _ _ _ _ _ h => ab_no h
theorem tw_X5_merge {X : Nat → Prop} (h0 : X 0) (h4 : X 4) : Thr X Sp_X5_merge := by
  refine ab_thr ?_ ?_ ?_
  · intro pc E h
    simp only [M_X5_merge, ab_th] at h
    split at h
    · cases h; assumption
    cases h
  · intro idx rc n ri kc τ h
    simp only [M_X5_merge, ab_cv, ab_cs, ab_cn] at h
    split at h
    · cases h; exact tw_X5_requireCommit h0
    split at h
    · cases h; exact tw_X4_isSameAs
    split at h
    · cases h; exact tw_X1_baseOf
    split at h
    · cases h; exact tw_X2_run
    split at h
    · cases h; exact tw_X4_copyFrom
    cases h
  · exact fun _ _ _ _ _ _ h => ab_no h
theorem tw_X5_conflict {X : Nat → Prop} (h0 : X 0) : Thr X Sp_X5_conflict := by
  refine ab_thr ?_ ?_ ?_
  · intro pc E h
    simp only [M_X5_conflict, ab_th] at h
    split at h
    · cases h; assumption
    cases h
  · exact fun _ _ _ _ _ _ h => ab_no h
  · exact fun _ _ _ _ _ _ h => ab_no h
theorem tw_X5_about {X : Nat → Prop} (h0 : X 0) (h1 : X 1) : Thr X Sp_X5_about := by
  refine ab_thr ?_ ?_ ?_
  · intro pc E h
    simp only [M_X5_about, ab_th] at h
    split at h
    · cases h; assumption
    cases h
  · intro idx rc n ri kc τ h
    simp only [M_X5_about, ab_cv, ab_cs, ab_cn] at h
    split at h
    · cases h; exact tw_X5_requireNode h0
    split at h
    · cases h; exact tw_X4_childCount
    cases h
  · exact fun _ _ _ _ _ _ h => ab_no h
theorem tw_X5_child {X : Nat → Prop} (h0 : X 0) (h1 : X 1) : Thr X Sp_X5_child := by
  refine ab_thr ?_ ?_ ?_
  · exact fun _ _ h => ab_no h
  · intro idx rc n ri kc τ h
    simp only [M_X5_child, ab_cv, ab_cs, ab_cn] at h
    split at h
    · cases h; exact tw_X5_requireNode h0
    split at h
    · cases h; exact tw_X4_childCount
    split at h
    · cases h; exact tw_X4_slotFor
    cases h
  · intro idx rc n ri kc τ h
    simp only [M_X5_child, ab_cv, ab_cs, ab_cn] at h
    split at h
    · cases h; exact tw_X5_requirePlace h1
    cases h
theorem tw_X5_nodes {X : Nat → Prop} : Thr X Sp_X5_nodes := by
  refine ab_thr ?_ ?_ ?_
  · exact fun _ _ h => ab_no h
  · exact fun _ _ _ _ _ _ h => ab_no h
  · exact fun _ _ _ _ _ _ h => ab_no h
theorem tw_X5_count {X : Nat → Prop} : Thr X Sp_X5_count := by
  refine ab_thr ?_ ?_ ?_
  · exact fun _ _ h => ab_no h
  · exact fun _ _ _ _ _ _ h => ab_no h
  · intro idx rc n ri kc τ h
    simp only [M_X5_count, ab_cv, ab_cs, ab_cn] at h
    split at h
    · cases h; exact tw_X3_follow
    split at h
    · cases h; exact tw_J6_bitCount_0f7a4
    cases h
theorem tw_X5_find {X : Nat → Prop} (h0 : X 0) : Thr X Sp_X5_find := by
  refine ab_thr ?_ ?_ ?_
  · intro pc E h
    simp only [M_X5_find, ab_th] at h
    split at h
    · cases h; assumption
    cases h
  · intro idx rc n ri kc τ h
    simp only [M_X5_find, ab_cv, ab_cs, ab_cn] at h
    split at h
    · cases h; exact tw_X4_pick
    cases h
  · intro idx rc n ri kc τ h
    simp only [M_X5_find, ab_cv, ab_cs, ab_cn] at h
    split at h
    · cases h; exact tw_X3_follow
    split at h
    · cases h; exact tw_J6_bitCount_0f7a4
    cases h
theorem tw_X5_alike {X : Nat → Prop} (h0 : X 0) : Thr X Sp_X5_alike := by
  refine ab_thr ?_ ?_ ?_
  · exact fun _ _ h => ab_no h
  · intro idx rc n ri kc τ h
    simp only [M_X5_alike, ab_cv, ab_cs, ab_cn] at h
    split at h
    · cases h; exact tw_X5_requireNode h0
    split at h
    · cases h; exact tw_X4_firstAlike
    cases h
  · exact fun _ _ _ _ _ _ h => ab_no h
theorem tw_X5_distance {X : Nat → Prop} (h0 : X 0) : Thr X Sp_X5_distance := by
  refine ab_thr ?_ ?_ ?_
  · exact fun _ _ h => ab_no h
  · intro idx rc n ri kc τ h
    simp only [M_X5_distance, ab_cv, ab_cs, ab_cn] at h
    split at h
    · cases h; exact tw_X5_requireCommit h0
    split at h
    · cases h; exact tw_X0_between
    cases h
  · exact fun _ _ _ _ _ _ h => ab_no h
theorem tw_X5_state {X : Nat → Prop} (h2 : X 2) : Thr X Sp_X5_state := by
  refine ab_thr ?_ ?_ ?_
  · intro pc E h
    simp only [M_X5_state, ab_th] at h
    split at h
    · cases h; assumption
    cases h
  · exact fun _ _ _ _ _ _ h => ab_no h
  · exact fun _ _ _ _ _ _ h => ab_no h
theorem tw_X5_above {X : Nat → Prop} (h0 : X 0) (h1 : X 1) : Thr X Sp_X5_above := by
  refine ab_thr ?_ ?_ ?_
  · exact fun _ _ h => ab_no h
  · intro idx rc n ri kc τ h
    simp only [M_X5_above, ab_cv, ab_cs, ab_cn] at h
    split at h
    · cases h; exact tw_X5_requireCommit h0
    cases h
  · intro idx rc n ri kc τ h
    simp only [M_X5_above, ab_cv, ab_cs, ab_cn] at h
    split at h
    · cases h; exact tw_X5_requirePlace h1
    cases h
theorem tw_X6_thrown {X : Nat → Prop} : Thr X Sp_X6_thrown := by
  refine ab_thr ?_ ?_ ?_
  · exact fun _ _ h => ab_no h
  · exact fun _ _ _ _ _ _ h => ab_no h
  · exact fun _ _ _ _ _ _ h => ab_no h
theorem tw_X6_fail {X : Nat → Prop} : Thr X Sp_X6_fail := by
  refine ab_thr ?_ ?_ ?_
  · exact fun _ _ h => ab_no h
  · exact fun _ _ _ _ _ _ h => ab_no h
  · exact fun _ _ _ _ _ _ h => ab_no h
theorem tw_X6_copy {X : Nat → Prop} : Thr X Sp_X6_copy := by
  refine ab_thr ?_ ?_ ?_
  · exact fun _ _ h => ab_no h
  · exact fun _ _ _ _ _ _ h => ab_no h
  · exact fun _ _ _ _ _ _ h => ab_no h
theorem tw_X6_has {X : Nat → Prop} : Thr X Sp_X6_has := by
  refine ab_thr ?_ ?_ ?_
  · exact fun _ _ h => ab_no h
  · exact fun _ _ _ _ _ _ h => ab_no h
  · exact fun _ _ _ _ _ _ h => ab_no h
theorem tw_X6_isChild {X : Nat → Prop} : Thr X Sp_X6_isChild := by
  refine ab_thr ?_ ?_ ?_
  · exact fun _ _ h => ab_no h
  · exact fun _ _ _ _ _ _ h => ab_no h
  · exact fun _ _ _ _ _ _ h => ab_no h
theorem tw_X6_children {X : Nat → Prop} : Thr X Sp_X6_children := by
  refine ab_thr ?_ ?_ ?_
  · exact fun _ _ h => ab_no h
  · intro idx rc n ri kc τ h
    simp only [M_X6_children, ab_cv, ab_cs, ab_cn] at h
    split at h
    · cases h; exact tw_X6_isChild
    cases h
  · exact fun _ _ _ _ _ _ h => ab_no h
theorem tw_X6_childAt {X : Nat → Prop} : Thr X Sp_X6_childAt := by
  refine ab_thr ?_ ?_ ?_
  · exact fun _ _ h => ab_no h
  · intro idx rc n ri kc τ h
    simp only [M_X6_childAt, ab_cv, ab_cs, ab_cn] at h
    split at h
    · cases h; exact tw_X6_isChild
    cases h
  · exact fun _ _ _ _ _ _ h => ab_no h
theorem tw_X6_isAt {X : Nat → Prop} : Thr X Sp_X6_isAt := by
  refine ab_thr ?_ ?_ ?_
  · exact fun _ _ h => ab_no h
  · exact fun _ _ _ _ _ _ h => ab_no h
  · exact fun _ _ _ _ _ _ h => ab_no h
theorem tw_X6_shift {X : Nat → Prop} : Thr X Sp_X6_shift := by
  refine ab_thr ?_ ?_ ?_
  · exact fun _ _ h => ab_no h
  · intro idx rc n ri kc τ h
    simp only [M_X6_shift, ab_cv, ab_cs, ab_cn] at h
    split at h
    · cases h; exact tw_X6_isChild
    cases h
  · exact fun _ _ _ _ _ _ h => ab_no h
theorem tw_X6_hang {X : Nat → Prop} : Thr X Sp_X6_hang := by
  refine ab_thr ?_ ?_ ?_
  · exact fun _ _ h => ab_no h
  · intro idx rc n ri kc τ h
    simp only [M_X6_hang, ab_cv, ab_cs, ab_cn] at h
    split at h
    · cases h; exact tw_X6_shift
    cases h
  · exact fun _ _ _ _ _ _ h => ab_no h
theorem tw_X6_unhang {X : Nat → Prop} : Thr X Sp_X6_unhang := by
  refine ab_thr ?_ ?_ ?_
  · exact fun _ _ h => ab_no h
  · intro idx rc n ri kc τ h
    simp only [M_X6_unhang, ab_cv, ab_cs, ab_cn] at h
    split at h
    · cases h; exact tw_X6_shift
    cases h
  · exact fun _ _ _ _ _ _ h => ab_no h
theorem tw_X6_walk {X : Nat → Prop} : Thr X Sp_X6_walk := by
  refine ab_thr ?_ ?_ ?_
  · exact fun _ _ h => ab_no h
  · intro idx rc n ri kc τ h
    simp only [M_X6_walk, ab_cv, ab_cs, ab_cn] at h
    split at h
    · cases h; exact tw_X6_children
    split at h
    · cases h; exact tw_X6_childAt
    cases h
  · exact fun _ _ _ _ _ _ h => ab_no h
theorem tw_X6_insert {X : Nat → Prop} : Thr X Sp_X6_insert := by
  refine ab_thr ?_ ?_ ?_
  · exact fun _ _ h => ab_no h
  · intro idx rc n ri kc τ h
    simp only [M_X6_insert, ab_cv, ab_cs, ab_cn] at h
    split at h
    · cases h; exact tw_X6_has
    split at h
    · cases h; exact tw_X6_children
    split at h
    · cases h; exact tw_X6_hang
    cases h
  · exact fun _ _ _ _ _ _ h => ab_no h
theorem tw_X6_delete {X : Nat → Prop} : Thr X Sp_X6_delete := by
  refine ab_thr ?_ ?_ ?_
  · exact fun _ _ h => ab_no h
  · intro idx rc n ri kc τ h
    simp only [M_X6_delete, ab_cv, ab_cs, ab_cn] at h
    split at h
    · cases h; exact tw_X6_has
    split at h
    · cases h; exact tw_X6_walk
    split at h
    · cases h; exact tw_X6_unhang
    split at h
    · cases h; exact tw_X6_isAt
    cases h
  · exact fun _ _ _ _ _ _ h => ab_no h
theorem tw_X6_move {X : Nat → Prop} : Thr X Sp_X6_move := by
  refine ab_thr ?_ ?_ ?_
  · exact fun _ _ h => ab_no h
  · intro idx rc n ri kc τ h
    simp only [M_X6_move, ab_cv, ab_cs, ab_cn] at h
    split at h
    · cases h; exact tw_X6_has
    split at h
    · cases h; exact tw_X6_isAt
    split at h
    · cases h; exact tw_X6_children
    split at h
    · cases h; exact tw_X6_unhang
    split at h
    · cases h; exact tw_X6_hang
    cases h
  · exact fun _ _ _ _ _ _ h => ab_no h
theorem tw_X6_relabel {X : Nat → Prop} : Thr X Sp_X6_relabel := by
  refine ab_thr ?_ ?_ ?_
  · exact fun _ _ h => ab_no h
  · intro idx rc n ri kc τ h
    simp only [M_X6_relabel, ab_cv, ab_cs, ab_cn] at h
    split at h
    · cases h; exact tw_X6_has
    cases h
  · exact fun _ _ _ _ _ _ h => ab_no h
theorem tw_X6_commit {X : Nat → Prop} : Thr X Sp_X6_commit := by
  refine ab_thr ?_ ?_ ?_
  · exact fun _ _ h => ab_no h
  · intro idx rc n ri kc τ h
    simp only [M_X6_commit, ab_cv, ab_cs, ab_cn] at h
    split at h
    · cases h; exact tw_X6_copy
    cases h
  · exact fun _ _ _ _ _ _ h => ab_no h
theorem tw_X6_isCommit {X : Nat → Prop} : Thr X Sp_X6_isCommit := by
  refine ab_thr ?_ ?_ ?_
  · exact fun _ _ h => ab_no h
  · exact fun _ _ _ _ _ _ h => ab_no h
  · exact fun _ _ _ _ _ _ h => ab_no h
theorem tw_X6_checkout {X : Nat → Prop} : Thr X Sp_X6_checkout := by
  refine ab_thr ?_ ?_ ?_
  · exact fun _ _ h => ab_no h
  · intro idx rc n ri kc τ h
    simp only [M_X6_checkout, ab_cv, ab_cs, ab_cn] at h
    split at h
    · cases h; exact tw_X6_isCommit
    split at h
    · cases h; exact tw_X6_copy
    cases h
  · exact fun _ _ _ _ _ _ h => ab_no h
theorem tw_X6_baseOf {X : Nat → Prop} : Thr X Sp_X6_baseOf := by
  refine ab_thr ?_ ?_ ?_
  · exact fun _ _ h => ab_no h
  · exact fun _ _ _ _ _ _ h => ab_no h
  · exact fun _ _ _ _ _ _ h => ab_no h
theorem tw_X6_base {X : Nat → Prop} : Thr X Sp_X6_base := by
  refine ab_thr ?_ ?_ ?_
  · exact fun _ _ h => ab_no h
  · intro idx rc n ri kc τ h
    simp only [M_X6_base, ab_cv, ab_cs, ab_cn] at h
    split at h
    · cases h; exact tw_X6_isCommit
    split at h
    · cases h; exact tw_X6_baseOf
    cases h
  · exact fun _ _ _ _ _ _ h => ab_no h
theorem tw_X6_isHeads {X : Nat → Prop} : Thr X Sp_X6_isHeads := by
  refine ab_thr ?_ ?_ ?_
  · exact fun _ _ h => ab_no h
  · exact fun _ _ _ _ _ _ h => ab_no h
  · exact fun _ _ _ _ _ _ h => ab_no h
theorem tw_X6_stay {X : Nat → Prop} : Thr X Sp_X6_stay := by
  refine ab_thr ?_ ?_ ?_
  · exact fun _ _ h => ab_no h
  · exact fun _ _ _ _ _ _ h => ab_no h
  · exact fun _ _ _ _ _ _ h => ab_no h
theorem tw_X6_choose {X : Nat → Prop} : Thr X Sp_X6_choose := by
  refine ab_thr ?_ ?_ ?_
  · exact fun _ _ h => ab_no h
  · exact fun _ _ _ _ _ _ h => ab_no h
  · exact fun _ _ _ _ _ _ h => ab_no h
theorem tw_X6_meet {X : Nat → Prop} : Thr X Sp_X6_meet := by
  refine ab_thr ?_ ?_ ?_
  · exact fun _ _ h => ab_no h
  · intro idx rc n ri kc τ h
    simp only [M_X6_meet, ab_cv, ab_cs, ab_cn] at h
    split at h
    · cases h; exact tw_X6_stay
    cases h
  · intro idx rc n ri kc τ h
    simp only [M_X6_meet, ab_cv, ab_cs, ab_cn] at h
    split at h
    · cases h; exact tw_X6_choose
    cases h
theorem tw_X6_countKinds {X : Nat → Prop} : Thr X Sp_X6_countKinds := by
  refine ab_thr ?_ ?_ ?_
  · exact fun _ _ h => ab_no h
  · exact fun _ _ _ _ _ _ h => ab_no h
  · exact fun _ _ _ _ _ _ h => ab_no h
theorem tw_X6_comes {X : Nat → Prop} : Thr X Sp_X6_comes := by
  refine ab_thr ?_ ?_ ?_
  · exact fun _ _ h => ab_no h
  · exact fun _ _ _ _ _ _ h => ab_no h
  · exact fun _ _ _ _ _ _ h => ab_no h
theorem tw_X6_findOrphans {X : Nat → Prop} : Thr X Sp_X6_findOrphans := by
  refine ab_thr ?_ ?_ ?_
  · exact fun _ _ h => ab_no h
  · exact fun _ _ _ _ _ _ h => ab_no h
  · exact fun _ _ _ _ _ _ h => ab_no h
theorem tw_X6_findRings {X : Nat → Prop} : Thr X Sp_X6_findRings := by
  refine ab_thr ?_ ?_ ?_
  · exact fun _ _ h => ab_no h
  · intro idx rc n ri kc τ h
    simp only [M_X6_findRings, ab_cv, ab_cs, ab_cn] at h
    split at h
    · cases h; exact tw_X6_comes
    cases h
  · exact fun _ _ _ _ _ _ h => ab_no h
theorem tw_X6_putChildren {X : Nat → Prop} : Thr X Sp_X6_putChildren := by
  refine ab_thr ?_ ?_ ?_
  · exact fun _ _ h => ab_no h
  · intro idx rc n ri kc τ h
    simp only [M_X6_putChildren, ab_cv, ab_cs, ab_cn] at h
    split at h
    · cases h; exact tw_X6_children
    split at h
    · cases h; exact tw_X6_childAt
    split at h
    · cases h; exact tw_X6_hang
    cases h
  · exact fun _ _ _ _ _ _ h => ab_no h
theorem tw_X6_build {X : Nat → Prop} : Thr X Sp_X6_build := by
  refine ab_thr ?_ ?_ ?_
  · exact fun _ _ h => ab_no h
  · intro idx rc n ri kc τ h
    simp only [M_X6_build, ab_cv, ab_cs, ab_cn] at h
    split at h
    · cases h; exact tw_X6_putChildren
    split at h
    · cases h; exact tw_X6_copy
    cases h
  · exact fun _ _ _ _ _ _ h => ab_no h
theorem tw_X6_merge {X : Nat → Prop} : Thr X Sp_X6_merge := by
  refine ab_thr ?_ ?_ ?_
  · exact fun _ _ h => ab_no h
  · intro idx rc n ri kc τ h
    simp only [M_X6_merge, ab_cv, ab_cs, ab_cn] at h
    split at h
    · cases h; exact tw_X6_isCommit
    split at h
    · cases h; exact tw_X6_isHeads
    split at h
    · cases h; exact tw_X6_baseOf
    split at h
    · cases h; exact tw_X6_meet
    split at h
    · cases h; exact tw_X6_countKinds
    split at h
    · cases h; exact tw_X6_findOrphans
    split at h
    · cases h; exact tw_X6_findRings
    split at h
    · cases h; exact tw_X6_build
    cases h
  · exact fun _ _ _ _ _ _ h => ab_no h
theorem tw_X6_conflict {X : Nat → Prop} : Thr X Sp_X6_conflict := by
  refine ab_thr ?_ ?_ ?_
  · exact fun _ _ h => ab_no h
  · exact fun _ _ _ _ _ _ h => ab_no h
  · exact fun _ _ _ _ _ _ h => ab_no h
theorem tw_X6_numberOf {X : Nat → Prop} : Thr X Sp_X6_numberOf := by
  refine ab_thr ?_ ?_ ?_
  · exact fun _ _ h => ab_no h
  · intro idx rc n ri kc τ h
    simp only [M_X6_numberOf, ab_cv, ab_cs, ab_cn] at h
    split at h
    · cases h; exact tw_X6_walk
    cases h
  · exact fun _ _ _ _ _ _ h => ab_no h
theorem tw_X6_about {X : Nat → Prop} : Thr X Sp_X6_about := by
  refine ab_thr ?_ ?_ ?_
  · exact fun _ _ h => ab_no h
  · intro idx rc n ri kc τ h
    simp only [M_X6_about, ab_cv, ab_cs, ab_cn] at h
    split at h
    · cases h; exact tw_X6_has
    split at h
    · cases h; exact tw_X6_children
    split at h
    · cases h; exact tw_X6_numberOf
    cases h
  · exact fun _ _ _ _ _ _ h => ab_no h
theorem tw_X6_child {X : Nat → Prop} : Thr X Sp_X6_child := by
  refine ab_thr ?_ ?_ ?_
  · exact fun _ _ h => ab_no h
  · intro idx rc n ri kc τ h
    simp only [M_X6_child, ab_cv, ab_cs, ab_cn] at h
    split at h
    · cases h; exact tw_X6_has
    split at h
    · cases h; exact tw_X6_children
    split at h
    · cases h; exact tw_X6_childAt
    cases h
  · exact fun _ _ _ _ _ _ h => ab_no h
theorem tw_X6_nodes {X : Nat → Prop} : Thr X Sp_X6_nodes := by
  refine ab_thr ?_ ?_ ?_
  · exact fun _ _ h => ab_no h
  · intro idx rc n ri kc τ h
    simp only [M_X6_nodes, ab_cv, ab_cs, ab_cn] at h
    split at h
    · cases h; exact tw_X6_walk
    cases h
  · exact fun _ _ _ _ _ _ h => ab_no h
theorem tw_X6_isFound {X : Nat → Prop} : Thr X Sp_X6_isFound := by
  refine ab_thr ?_ ?_ ?_
  · exact fun _ _ h => ab_no h
  · intro idx rc n ri kc τ h
    simp only [M_X6_isFound, ab_cv, ab_cs, ab_cn] at h
    split at h
    · cases h; exact tw_X6_isAt
    cases h
  · exact fun _ _ _ _ _ _ h => ab_no h
theorem tw_X6_found {X : Nat → Prop} : Thr X Sp_X6_found := by
  refine ab_thr ?_ ?_ ?_
  · exact fun _ _ h => ab_no h
  · intro idx rc n ri kc τ h
    simp only [M_X6_found, ab_cv, ab_cs, ab_cn] at h
    split at h
    · cases h; exact tw_X6_isFound
    cases h
  · exact fun _ _ _ _ _ _ h => ab_no h
theorem tw_X6_count {X : Nat → Prop} : Thr X Sp_X6_count := by
  refine ab_thr ?_ ?_ ?_
  · exact fun _ _ h => ab_no h
  · intro idx rc n ri kc τ h
    simp only [M_X6_count, ab_cv, ab_cs, ab_cn] at h
    split at h
    · cases h; exact tw_X6_found
    cases h
  · exact fun _ _ _ _ _ _ h => ab_no h
theorem tw_X6_find {X : Nat → Prop} : Thr X Sp_X6_find := by
  refine ab_thr ?_ ?_ ?_
  · exact fun _ _ h => ab_no h
  · intro idx rc n ri kc τ h
    simp only [M_X6_find, ab_cv, ab_cs, ab_cn] at h
    split at h
    · cases h; exact tw_X6_found
    split at h
    · cases h; exact tw_X6_walk
    split at h
    · cases h; exact tw_X6_fail
    cases h
  · exact fun _ _ _ _ _ _ h => ab_no h
theorem tw_X6_areAlike {X : Nat → Prop} : Thr X Sp_X6_areAlike := by
  refine ab_thr ?_ ?_ ?_
  · exact fun _ _ h => ab_no h
  · intro idx rc n ri kc τ h
    simp only [M_X6_areAlike, ab_cv, ab_cs, ab_cn] at h
    split at h
    · cases h; exact tw_X6_children
    split at h
    · cases h; exact tw_X6_childAt
    cases h
  · exact fun _ _ _ _ _ _ h => ab_no h
theorem tw_X6_alike {X : Nat → Prop} : Thr X Sp_X6_alike := by
  refine ab_thr ?_ ?_ ?_
  · exact fun _ _ h => ab_no h
  · intro idx rc n ri kc τ h
    simp only [M_X6_alike, ab_cv, ab_cs, ab_cn] at h
    split at h
    · cases h; exact tw_X6_has
    split at h
    · cases h; exact tw_X6_walk
    split at h
    · cases h; exact tw_X6_areAlike
    cases h
  · exact fun _ _ _ _ _ _ h => ab_no h
theorem tw_X6_leave {X : Nat → Prop} : Thr X Sp_X6_leave := by
  refine ab_thr ?_ ?_ ?_
  · exact fun _ _ h => ab_no h
  · intro idx rc n ri kc τ h
    simp only [M_X6_leave, ab_cv, ab_cs, ab_cn] at h
    split at h
    · cases h; exact tw_X6_walk
    split at h
    · cases h; exact tw_X6_isAt
    cases h
  · exact fun _ _ _ _ _ _ h => ab_no h
theorem tw_X6_least {X : Nat → Prop} : Thr X Sp_X6_least := by
  refine ab_thr ?_ ?_ ?_
  · exact fun _ _ h => ab_no h
  · exact fun _ _ _ _ _ _ h => ab_no h
  · exact fun _ _ _ _ _ _ h => ab_no h
theorem tw_X6_compare {X : Nat → Prop} : Thr X Sp_X6_compare := by
  refine ab_thr ?_ ?_ ?_
  · exact fun _ _ h => ab_no h
  · exact fun _ _ _ _ _ _ h => ab_no h
  · intro idx rc n ri kc τ h
    simp only [M_X6_compare, ab_cv, ab_cs, ab_cn] at h
    split at h
    · cases h; exact tw_X6_least
    cases h
theorem tw_X6_distance {X : Nat → Prop} : Thr X Sp_X6_distance := by
  refine ab_thr ?_ ?_ ?_
  · exact fun _ _ h => ab_no h
  · intro idx rc n ri kc τ h
    simp only [M_X6_distance, ab_cv, ab_cs, ab_cn] at h
    split at h
    · cases h; exact tw_X6_isCommit
    split at h
    · cases h; exact tw_X6_leave
    split at h
    · cases h; exact tw_X6_compare
    cases h
  · exact fun _ _ _ _ _ _ h => ab_no h
theorem tw_X6_state {X : Nat → Prop} : Thr X Sp_X6_state := by
  refine ab_thr ?_ ?_ ?_
  · exact fun _ _ h => ab_no h
  · exact fun _ _ _ _ _ _ h => ab_no h
  · exact fun _ _ _ _ _ _ h => ab_no h
theorem tw_X6_above {X : Nat → Prop} : Thr X Sp_X6_above := by
  refine ab_thr ?_ ?_ ?_
  · exact fun _ _ h => ab_no h
  · intro idx rc n ri kc τ h
    simp only [M_X6_above, ab_cv, ab_cs, ab_cn] at h
    split at h
    · cases h; exact tw_X6_isCommit
    cases h
  · exact fun _ _ _ _ _ _ h => ab_no h
