theorem Jv_thr {S S1 : ab_S} {g : gD} (hd : JD g) (hc : JC S g) (hm : JM S g) (hs : ∀ a, a ≠ 41 → S1 a = S a) (c : Int32) : Jv (ab_su S1 21 0 0 c) := by
  have hm1 := hm.congr (S' := S1) (fun a h1 h2 => hs a (by omega))
  exact ⟨g, hd, (hc.congr (fun a ha => hs a (by omega))).congr (fun a ha => by funext b; exact su_o (Or.inl (by omega))), hm1.same hd (OffT.su (by decide)) (su_j (by decide)) (MTd.su hm1.2.1)⟩
theorem Jv_offT {S S1 S2 : ab_S} {g : gD} (hd : JD g) (hc : JC S g) (hm : JM S g) (hs : ∀ a, a ≠ 41 → S1 a = S a) (ho : OffT S1 S2) (h5 : S2 21 0 5 = S1 21 0 5) (hw : MTd S2 12 (gW g)) : Jv S2 := by
  have hm1 := hm.congr (S' := S1) (fun a h1 h2 => hs a (by omega))
  exact ⟨g, hd, hc.congr (fun a ha => by rw [← hs a (by omega)]; funext b; exact ho.1 a b (by omega)), hm1.same hd ho h5 hw⟩
/-- both have another working tree -/
theorem Jv_new {S S1 S1' S2 : ab_S} {g : gD} {w : sD} (hd : JD g) (hc : JC S g) (hm : JM S g) (f1 : Off S S1 0) (hw : Okd (gMade g) w) (f4 : CTd S1 0 w) (hs : ∀ a, a ≠ 41 → S1' a = S1 a) (ho : OffT S1' S2) (h5 : S2 21 0 5 = S1' 21 0 5) (hmw : MTd S2 12 w) : Jv S2 := by
  have hm1 := hm.congr (S' := S1') (fun a h1 h2 => by rw [hs a (by omega)]; funext b; exact f1 a b (by omega))
  refine ⟨gSet g (gMade g) w, hd.set (Nat.le_refl _) hd.1.2 hw, ?_, hm1.set hd ho (h5.trans hm1.1.1) hmw⟩
  have h1 : JC S1 (gSet g (gMade g) w) := hc.set (fun a b z => f1 a b (by omega)) (by rw [f1 0 0 (by omega)]; exact hc.1.1) (by rw [f1 0 0 (by omega)]) (by rw [f1 0 0 (by omega)]) f4
  exact h1.congr (fun a ha => by rw [← hs a (by omega)]; funext b; exact ho.1 a b (by omega))
theorem mw {S S1 : ab_S} {g : gD} (hm : JM S g) (hs : ∀ a, 21 ≤ a → a < 30 → S1 a = S a) : MTd S1 12 (gW g) := (hm.congr hs).2.1
def cd12 : Nat → Int32
  | 0 => 1 | _ => 2
theorem op_delete {S : ab_S} {x1 : Int32} (hJ : Jv S) : Op2 Sp_X5_delete [.inr (0, 0), .inl x1] Sp_X6_delete [.inr (21, 0), .inl x1] cd12 S := by
  obtain ⟨g, hd, hc, hm⟩ := hJ
  have hw := hd.2.2.2.2.1
  have e0 : x1 = nI 0 → ∀ s, s < (gW g).1 → x1 = nI ((gW g).2.1 s) → s = 0 := fun y s hs e => same_s hw hs hw.1.1 e (by rw [hw.1.2.2.1]; exact y)
  refine sp_c_delete hw hc.2.1 (fun z S1' hs => ?_) (fun z S1' hs => ?_) (fun s e S1 s0 hs1 e1 he f1 f3 f4 S1' hs => ?_)
  · exact sp_m_delete hw (mw hm (fun a h1 h2 => hs a (by omega))) (fun _ => ⟨Jv_thr hd hc hm hs 1, su_at _ _ _ _ _⟩) (fun y => not_in hw.1.1 (by rw [hw.1.2.2.1]; exact y) z) (fun t e S' t0 ht e' _ _ _ _ _ => not_in ht e' z)
  · exact sp_m_delete hw (mw hm (fun a h1 h2 => hs a (by omega))) (fun y => not_in hw.1.1 (by rw [hw.1.2.2.1]; exact z) y) (fun y => ⟨Jv_thr hd hc hm hs 2, su_at _ _ _ _ _⟩) (fun t e S' t0 ht e' _ _ _ _ _ => by have := e0 z t ht e'; omega)
  · refine sp_m_delete hw (mw hm (fun a h1 h2 => by rw [hs a (by omega)]; funext b; exact f1 a b (by omega))) (fun y => not_in hs1 e1 y) (fun y => by have := e0 y s hs1 e1; omega) (fun t e' S' t0 ht et he' o1 o2 o3 o4 => ?_)
    have := same_s hw hs1 ht e1 et
    subst this
    have := En_one he he'
    subst this
    exact ⟨Jv_new hd hc hm f1 f3 f4 hs o1 o3 o4, o2, fun x hx => by cases hx; rfl⟩
def cd132 : Nat → Int32
  | 0 => 1 | 1 => 3 | _ => 2
theorem op_move {S : ab_S} {x1 x2 x3 : Int32} (hJ : Jv S) : Op2 Sp_X5_move [.inr (0, 0), .inl x1, .inl x2, .inl x3] Sp_X6_move [.inr (21, 0), .inl x1, .inl x2, .inl x3] cd132 S := by
  obtain ⟨g, hd, hc, hm⟩ := hJ
  have hw := hd.2.2.2.2.1
  have hb : ∀ s e q, ck (delP (gW g).2.2.1 s (e - s)) (dnP s (e - s) q) ((gW g).1 - (e - s)) < 2 ^ 31 := fun s e q => by have := ck_le (pp := delP (gW g).2.2.1 s (e - s)) (s := dnP s (e - s) q) ((gW g).1 - (e - s)); have := hw.1.2.1; omega
  refine sp_c_move hw hc.2.1 (fun z S1' hs => ?_) (fun s hs1 e1 z S1' hs => ?_) (fun s q e hs1 e1 hq e2 he q1 q2 S1' hs => ?_) (fun s q e s0 hs1 e1 hq e2 he q1 z S1' hs => ?_) (fun s q e k sl S1 s0 hs1 e1 hq e2 he q1 hk e3 hsl f1 f3 f4 S1' hs => ?_)
  · exact sp_m_move hw (mw hm (fun a h1 h2 => hs a (by omega))) (fun _ S' o1 o2 o3 o4 => ⟨Jv_offT hd hc hm hs o1 o3 o4, o2⟩) (fun t ht e' _ S' _ _ _ _ => not_in ht e' z) (fun t q e ht e' _ _ _ _ _ S' _ _ _ _ => not_in ht e' z) (fun t q e t0 ht e' _ _ _ _ _ S' _ _ _ _ => not_in ht e' z) (fun t q e k S' t0 ht e' _ _ _ _ _ _ _ _ _ _ => not_in ht e' z)
  · exact sp_m_move hw (mw hm (fun a h1 h2 => hs a (by omega))) (fun y => not_in hs1 e1 y) (fun t ht e' _ S' o1 o2 o3 o4 => ⟨Jv_offT hd hc hm hs o1 o3 o4, o2⟩) (fun t q e ht e' hq eq _ _ _ S' _ _ _ _ => not_in hq eq z) (fun t q e t0 ht e' hq eq _ _ _ S' _ _ _ _ => not_in hq eq z) (fun t q e k S' t0 ht e' hq eq _ _ _ _ _ _ _ _ => not_in hq eq z)
  · refine sp_m_move hw (mw hm (fun a h1 h2 => hs a (by omega))) (fun y => not_in hs1 e1 y) (fun t ht e' y S' _ _ _ _ => not_in hq e2 y) (fun t r e' ht et hr er he' r1 r2 S' o1 o2 o3 o4 => ⟨Jv_offT hd hc hm hs o1 o3 o4, o2⟩) (fun t r e' t0 ht et hr er he' r1 y S' _ _ _ _ => ?_) (fun t r e' k S' t0 ht et hr er he' r1 _ _ _ _ _ _ => ?_)
    all_goals
      have a1 := same_s hw hs1 ht e1 et
      subst a1
      have a2 := same_s hw hq hr e2 er
      subst a2
      have a3 := En_one he he'
      omega
  · refine sp_m_move hw (mw hm (fun a h1 h2 => hs a (by omega))) (fun y => not_in hs1 e1 y) (fun t ht e' y S' _ _ _ _ => not_in hq e2 y) (fun t r e' ht et hr er he' r1 r2 S' o1 o2 o3 o4 => ?_) (fun t r e' t0 ht et hr er he' r1 y S' o1 o2 o3 o4 => ⟨Jv_offT hd hc hm hs o1 o3 o4, o2⟩) (fun t r e' k S' t0 ht et hr er he' r1 hk e3 _ _ _ _ => ?_)
    all_goals
      have a1 := same_s hw hs1 ht e1 et
      subst a1
      have a2 := same_s hw hq hr e2 er
      subst a2
      have a3 := En_one he he'
      subst a3
    · omega
    · exact absurd e3 (z k hk)
  · refine sp_m_move hw (mw hm (fun a h1 h2 => by rw [hs a (by omega)]; funext b; exact f1 a b (by omega))) (fun y => not_in hs1 e1 y) (fun t ht e' y S' _ _ _ _ => not_in hq e2 y) (fun t r e' ht et hr er he' r1 r2 S' o1 o2 o3 o4 => ?_) (fun t r e' t0 ht et hr er he' r1 y S' o1 o2 o3 o4 => ?_) (fun t r e' j S' t0 ht et hr er he' r1 hj ej o1 o2 o3 o4 => ?_)
    all_goals
      have a1 := same_s hw hs1 ht e1 et
      subst a1
      have a2 := same_s hw hq hr e2 er
      subst a2
      have a3 := En_one he he'
      subst a3
    · omega
    · exact absurd e3 (y k hk)
    · have a4 := same_k (hb s e q) hk hj e3 ej
      subst a4
      exact ⟨Jv_new hd hc hm f1 f3 f4 hs o1 o3 (o4 sl hsl), o2, fun x hx => by cases hx⟩
theorem op_relabel {S : ab_S} {x1 x2 : Int32} (hJ : Jv S) : Op2 Sp_X5_relabel [.inr (0, 0), .inl x1, .inl x2] Sp_X6_relabel [.inr (21, 0), .inl x1, .inl x2] cd12 S := by
  obtain ⟨g, hd, hc, hm⟩ := hJ
  have hw := hd.2.2.2.2.1
  refine sp_c_relabel hw hc.2.1 (fun z S1' hs => ?_) (fun s hs1 e1 z S1' hs => ?_) (fun s c S1 hs1 e1 hcc e2 f1 f3 f4 S1' hs => ?_)
  · exact sp_m_relabel hw (mw hm (fun a h1 h2 => hs a (by omega))) (fun _ => ⟨Jv_thr hd hc hm hs 1, su_at _ _ _ _ _⟩) (fun t ht e' _ => not_in ht e' z) (fun t c S' ht e' _ _ _ _ _ _ => not_in ht e' z)
  · exact sp_m_relabel hw (mw hm (fun a h1 h2 => hs a (by omega))) (fun y => not_in hs1 e1 y) (fun t ht e' _ => ⟨Jv_thr hd hc hm hs 2, su_at _ _ _ _ _⟩) (fun t c S' ht e' hcc e2 _ _ _ _ => absurd e2 (z c hcc))
  · refine sp_m_relabel hw (mw hm (fun a h1 h2 => by rw [hs a (by omega)]; funext b; exact f1 a b (by omega))) (fun y => not_in hs1 e1 y) (fun t ht e' y => absurd e2 (y c hcc)) (fun t c' S' ht et hcc' e2' o1 o2 o3 o4 => ?_)
    have a1 := same_s hw hs1 ht e1 et
    subst a1
    exact ⟨Jv_new hd hc hm f1 f3 f4 hs o1 o3 o4, o2, fun x hx => by cases hx⟩
