/-! How parents and places of the model's nodes follow a shape. -/
def Pf (pa pl : Nat → Int32) (n : Nat) (o pp : Nat → Nat) : Prop := pa 0 = -1 ∧ pl 0 = 0 ∧ ∀ i, 0 < i → i < n → pa (o i) = nI (o (pp i)) ∧ pl (o i) = nI (ck pp (pp i) i)
theorem insP_up {n : Nat} {pp cp : Nat → Nat} {sl len s i : Nat} (hL : Lp n pp) (hl : 0 < len) (i0 : 0 < i) (hi : i < n) : insP pp cp sl len s (upP sl len i) = upP sl len (pp i) := by
  have := hL.1 i i0 hi
  by_cases c : i < sl
  · have e1 : upP sl len i = i := by unfold upP; rw [if_pos c]
    have e2 : upP sl len (pp i) = pp i := by unfold upP; rw [if_pos (by omega)]
    rw [e1, e2, insP_lo c]
  · have e1 : upP sl len i = i + len := by unfold upP; rw [if_neg c]
    rw [e1, insP_hi hl (by omega), Nat.add_sub_cancel]
theorem ck_ins_up {n : Nat} {pp cp : Nat → Nat} {sl len s i : Nat} (hL : Lp n pp) (hc : Lp len cp) (hl : 0 < len) (hv : Slv n pp s sl) (i0 : 0 < i) (hi : i < n) : ck (insP pp cp sl len s) (upP sl len (pp i)) (upP sl len i) = ck pp (pp i) i + if pp i = s ∧ sl ≤ i then 1 else 0 := by
  have hp := hL.1 i i0 hi
  by_cases c : i < sl
  · have e1 : upP sl len i = i := by unfold upP; rw [if_pos c]
    have e2 : upP sl len (pp i) = pp i := by unfold upP; rw [if_pos (by omega)]
    rw [e1, e2, ck_ins_lo (by omega), if_neg (by omega), Nat.add_zero]
  · have e1 : upP sl len i = i + len := by unfold upP; rw [if_neg c]
    rw [e1, ck_ins_hi hL hc hl hv.1 hv.2.1 (by omega) i (by omega) (by omega)]
    congr 1
    by_cases d : pp i = s
    · rw [if_pos d, if_pos ⟨d, by omega⟩]
    · rw [if_neg d, if_neg (fun z => d z.1)]
theorem up_or {sl len n i : Nat} (hsl : sl ≤ n) (hi : i < n + len) (h : ¬ (sl ≤ i ∧ i < sl + len)) : ∃ j, j < n ∧ i = upP sl len j ∧ (0 < i → 0 < sl → 0 < j) := by
  by_cases c : i < sl
  · exact ⟨i, by omega, by unfold upP; rw [if_pos c], fun a _ => a⟩
  · exact ⟨i - len, by omega, by unfold upP; rw [if_neg (by omega)]; omega, fun a b => by omega⟩
theorem Pf_ins {pa pl pa' pl' : Nat → Int32} {n : Nat} {o pp c cp : Nat → Nat} {sl len s k : Nat} (hS : Sh n o pp) (hc : Lp len cp) (hl : 0 < len) (hlen : n + len ≤ 24) (hk : k ≤ ck pp s n) (hsl : Slt n pp s k sl) (h : Pf pa pl n o pp)
    (hcb : ∀ i, 0 < i → i < len → pa' (c i) = nI (c (cp i)) ∧ pl' (c i) = nI (ck cp (cp i) i)) (hpa : ∀ i, i < n → pa' (o i) = pa (o i)) (hc0 : pa' (c 0) = nI (o s)) (hk0 : pl' (c 0) = nI k) (hpl : ∀ i, i < n → pl' (o i) = if 0 < i ∧ pp i = s ∧ k ≤ ck pp s i then pl (o i) + 1 else pl (o i)) :
    Pf pa' pl' (n + len) (insO o c sl len) (insP pp cp sl len s) := by
  have hL := hS.2.2.2.2.2
  have hv := hsl.slv hL
  have hpk := hsl.place hL hk
  refine ⟨?_, ?_, fun i i0 hi => ?_⟩
  · have := hpa 0 hS.1; rw [hS.2.2.1] at this; rw [this]; exact h.1
  · have := hpl 0 hS.1; rw [if_neg (by omega), hS.2.2.1] at this; rw [this]; exact h.2.1
  · by_cases q : sl ≤ i ∧ i < sl + len
    · by_cases q2 : i = sl
      · subst q2
        rw [insO_in (Nat.le_refl _) (by omega), insP_hd, insO_lo hv.1, Nat.sub_self, ck_ins_lo (Nat.le_refl _), hpk]
        exact ⟨hc0, hk0⟩
      · have := hc.1 (i - sl) (by omega) (by omega)
        rw [insO_in q.1 q.2, insP_in (by omega) q.2, insO_in (by omega) (by omega), show sl + cp (i - sl) - sl = cp (i - sl) by omega]
        have e := ck_ins_in (cp := cp) (len := len) (c := cp (i - sl)) hL hv.1 hv.2.1 (i - sl) (by omega) (by omega)
        rw [show sl + (i - sl) = i by omega] at e
        rw [e]
        exact hcb _ (by omega) (by omega)
    · have hv1 := hv.1
      obtain ⟨j, hj, rfl, hj0⟩ := up_or hv.2.1 hi q
      have j0 := hj0 i0 (by omega)
      have hpj := hL.1 j j0 hj
      rw [insO_up, insP_up hL hl j0 hj, insO_up, ck_ins_up hL hc hl hv j0 hj, hpa j hj, hpl j hj]
      refine ⟨(h.2.2 j j0 hj).1, ?_⟩
      rw [(h.2.2 j j0 hj).2]
      by_cases d : pp j = s
      · by_cases d2 : sl ≤ j
        · have m := ck_mono (pp := pp) (s := s) (a := sl) j d2
          rw [if_pos ⟨j0, d, by omega⟩, if_pos ⟨d, d2⟩, nI_1]
        · have m := ck_inj (pp := pp) (s := s) (j := sl) j0 (by omega) d
          rw [if_neg (fun z => by omega), if_neg (fun z => d2 z.2), Nat.add_zero]
      · rw [if_neg (fun z => d z.2.1), if_neg (fun z => d z.1), Nat.add_zero]
theorem dn_or {s len n i : Nat} (hi : i < n - len) : ∃ j, j < n ∧ (j < s ∨ s + len ≤ j) ∧ i = dnP s len j ∧ (0 < s → 0 < i → 0 < j) := by
  by_cases c : i < s
  · exact ⟨i, by omega, Or.inl c, by unfold dnP; rw [if_pos c], fun _ a => a⟩
  · exact ⟨i + len, by omega, Or.inr (by omega), by unfold dnP; rw [if_neg (by omega)]; omega, fun a b => by omega⟩
theorem delP_dn {n : Nat} {pp : Nat → Nat} {s e i : Nat} (hL : Lp n pp) (h : En n pp s e) (i0 : 0 < i) (hi : i < n) (hio : i < s ∨ e ≤ i) : delP pp s (e - s) (dnP s (e - s) i) = dnP s (e - s) (pp i) := by
  have := hL.1 i i0 hi
  have h1 := h.1
  by_cases c : i < s
  · have e1 : dnP s (e - s) i = i := by unfold dnP; rw [if_pos c]
    have e2 : dnP s (e - s) (pp i) = pp i := by unfold dnP; rw [if_pos (by omega)]
    rw [e1, e2, delP_lo c]
  · have e1 : dnP s (e - s) i = i - (e - s) := by unfold dnP; rw [if_neg c]
    rw [e1, delP_hi (by omega), show i - (e - s) + (e - s) = i by omega]
theorem ck_del_dn {n : Nat} {pp : Nat → Nat} {s e i : Nat} (hL : Lp n pp) (h0 : 0 < s) (h : En n pp s e) (i0 : 0 < i) (hi : i < n) (hio : i < s ∨ e ≤ i) : ck pp (pp i) i = ck (delP pp s (e - s)) (dnP s (e - s) (pp i)) (dnP s (e - s) i) + if pp i = pp s ∧ e ≤ i then 1 else 0 := by
  have hp := hL.1 i i0 hi
  have h1 := h.1
  by_cases c : i < s
  · have e1 : dnP s (e - s) i = i := by unfold dnP; rw [if_pos c]
    have e2 : dnP s (e - s) (pp i) = pp i := by unfold dnP; rw [if_pos (by omega)]
    rw [e1, e2, ck_del_lo (by omega), if_neg (by omega), Nat.add_zero]
  · have e1 : dnP s (e - s) i = i - (e - s) := by unfold dnP; rw [if_neg c]
    rw [e1, ck_del_hi hL h0 h (by have := En_out hL h (i := i) (by omega) hi; exact this) i (by omega) (by omega)]
    congr 1
    by_cases d : pp i = pp s
    · rw [if_pos d, if_pos ⟨d, by omega⟩]
    · rw [if_neg d, if_neg (fun z => d z.1)]
theorem Pf_del {pa pl pa' pl' : Nat → Int32} {n : Nat} {o pp : Nat → Nat} {s e : Nat} (hS : Sh n o pp) (h0 : 0 < s) (he : En n pp s e) (h : Pf pa pl n o pp) (hpa : ∀ i, i < n → (i < s ∨ e ≤ i) → pa' (o i) = pa (o i)) (hpl : ∀ i, i < n → (i < s ∨ e ≤ i) → pl' (o i) = if 0 < i ∧ pp i = pp s ∧ ck pp (pp s) s ≤ ck pp (pp s) i then pl (o i) + -1 else pl (o i)) :
    Pf pa' pl' (n - (e - s)) (delO o s (e - s)) (delP pp s (e - s)) := by
  have hL := hS.2.2.2.2.2
  have h1 := he.1
  have h2 := he.2.1
  have hps := hL.1 s h0 (by omega)
  refine ⟨?_, ?_, fun i i0 hi => ?_⟩
  · have := hpa 0 hS.1 (Or.inl h0); rw [hS.2.2.1] at this; rw [this]; exact h.1
  · have := hpl 0 hS.1 (Or.inl h0); rw [if_neg (by omega), hS.2.2.1] at this; rw [this]; exact h.2.1
  · obtain ⟨j, hj, hjo, rfl, hj0⟩ := dn_or (s := s) hi
    have j0 := hj0 h0 i0
    have hjo' : j < s ∨ e ≤ j := by omega
    have hpj := hL.1 j j0 hj
    have hpo : pp j < s ∨ e ≤ pp j := by
      rcases hjo' with z | z
      · left; omega
      · exact En_out hL he z hj
    rw [delO_dn (by omega), delP_dn hL he j0 hj hjo', delO_dn (by omega), hpa j hj hjo', hpl j hj hjo']
    refine ⟨(h.2.2 j j0 hj).1, ?_⟩
    rw [(h.2.2 j j0 hj).2, ck_del_dn hL h0 he j0 hj hjo']
    by_cases d : pp j = pp s
    · by_cases d2 : e ≤ j
      · have m := ck_inj (pp := pp) (s := pp s) (j := j) h0 (by omega) rfl
        rw [if_pos ⟨j0, d, by omega⟩, if_pos ⟨d, d2⟩, pk_m1]
      · have m := ck_inj (pp := pp) (s := pp s) (j := s) j0 (by omega) d
        rw [if_neg (fun z => by omega), if_neg (fun z => d2 z.2), Nat.add_zero]
    · rw [if_neg (fun z => d z.2.1), if_neg (fun z => d z.1), Nat.add_zero]
/-- counting children inside a part -/
theorem ck_part {n : Nat} {pp : Nat → Nat} {s e c : Nat} (hL : Lp n pp) (h : En n pp s e) : ∀ d, 0 < d → d ≤ e - s → ck (fun i => pp (s + i) - s) c d = ck pp (s + c) (s + d)
  | 0, a, _ => by omega
  | 1, _, _ => by
    have h1 := h.1
    have h2 := h.2.1
    rw [ck_zero (pp := pp) (s + 1) (fun j a b z => by have := hL.1 j a (by omega); omega)]
    exact ck_no (i := 0) (fun z => by omega)
  | d + 2, _, hd => by
    have h1 := h.1
    have h2 := h.2.1
    have ih := ck_part (c := c) hL h (d + 1) (by omega) (by omega)
    have hin := En_in hL h (i := s + (d + 1)) (by omega) (by omega)
    rw [show s + (d + 2) = s + (d + 1) + 1 by omega]
    by_cases q : pp (s + (d + 1)) = s + c
    · rw [ck_yes (by omega) (by show pp (s + (d + 1)) - s = c; omega), ck_yes (by omega) q, ih]
    · rw [ck_no (fun z => q (by have : pp (s + (d + 1)) - s = c := z.2; omega)), ck_no (fun z => q z.2), ih]
theorem TM.pf {S : ab_S} {u n : Nat} {o pp : Nat → Nat} {lb : Nat → Int32} (h : TM S u n o pp lb) : Pf (fun v => S 24 0 (24 * u + v)) (fun v => S 25 0 (24 * u + v)) n o pp := ⟨h.2.1.1, h.2.1.2, h.2.2.1⟩
/-- the model's insert into a tree -/
theorem TM_ins {S S' : ab_S} {u n s k v sl : Nat} {o pp : Nat → Nat} {lb lb' : Nat → Int32} (hS : Sh n o pp) (h : TM S u n o pp lb) (hs : s < n) (hk : k ≤ ck pp s n) (hsl : Slt n pp s k sl) (hv : v < 24) (hnew : ∀ i, i < n → o i ≠ v) (hn : n < 24)
    (a1 : ∀ w, w < 24 → w ≠ v → S' 22 0 (24 * u + w) = S 22 0 (24 * u + w) ∧ S' 24 0 (24 * u + w) = S 24 0 (24 * u + w)) (a2 : S' 22 0 (24 * u + v) = 1) (a3 : S' 24 0 (24 * u + v) = nI (o s)) (a4 : S' 25 0 (24 * u + v) = nI k)
    (a5 : ∀ w, w < 24 → w ≠ v → S' 25 0 (24 * u + w) = if ich S u w (nI (o s)) = true ∧ ¬ S 25 0 (24 * u + w) < nI k then S 25 0 (24 * u + w) + 1 else S 25 0 (24 * u + w)) (a6 : ∀ w, w < 24 → w ≠ v → S' 23 0 (24 * u + w) = lb w → lb' w = S' 23 0 (24 * u + w)) (a7 : ∀ i, i < n → S' 23 0 (24 * u + o i) = lb (o i)) (a8 : S' 23 0 (24 * u + v) = lb' v) :
    TM S' u (n + 1) (insO o (fun _ => v) sl 1) (insP pp (fun _ => 0) sl 1 s) lb' := by
  have hL := hS.2.2.2.2.2
  have hslv := hsl.slv hL
  have hc1 : Lp 1 (fun _ => 0) := ⟨fun i h0 hi => by omega, fun i j h0 h1 h2 => by omega⟩
  have o24 := hS.2.2.2.1
  have hck := ck_le (pp := pp) (s := s) n
  have hpf := Pf_ins (pa' := fun w => S' 24 0 (24 * u + w)) (pl' := fun w => S' 25 0 (24 * u + w)) (c := fun _ => v) hS hc1 (by omega) (by omega) hk hsl h.pf (fun i i0 hi => by omega) (fun i hi => (a1 _ (o24 i hi) (hnew i hi)).2) a3 a4 (fun i hi => by
    show S' 25 0 (24 * u + o i) = _
    rw [a5 _ (o24 i hi) (hnew i hi), h.kid hS hs _ (o24 i hi), gch_at n hi (fun j hj e => hS.2.2.2.2.1 j i hj hi e)]
    by_cases i0 : 0 < i
    · have hb := ck_le (pp := pp) (s := pp i) i
      rw [(h.2.2.1 i i0 hi).2]
      by_cases d : pp i = s
      · rw [d] at hb ⊢
        have hlt := nI_ltI (a := ck pp s i) (b := k) (by omega) (by omega)
        by_cases f : k ≤ ck pp s i
        · rw [if_pos ⟨by simp [i0], fun z => by have := hlt.mp z; omega⟩, if_pos ⟨i0, rfl, f⟩]
        · rw [if_neg (fun z => z.2 (hlt.mpr (by omega))), if_neg (fun z => f z.2.2)]
      · rw [if_neg (fun z => by simp [d] at z), if_neg (fun z => d z.2.1)]
    · rw [if_neg (fun z => by simp [i0] at z), if_neg (fun z => i0 z.1)])
  refine ⟨fun i hi => ?_, ⟨hpf.1, hpf.2.1⟩, hpf.2.2, fun w hw hno => ?_⟩
  · by_cases q : sl ≤ i ∧ i < sl + 1
    · rw [insO_in q.1 q.2]
      exact ⟨a2, a8⟩
    · obtain ⟨j, hj, rfl, -⟩ := up_or hslv.2.1 hi q
      rw [insO_up, (a1 _ (o24 j hj) (hnew j hj)).1]
      exact ⟨(h.1 j hj).1, (a6 _ (o24 j hj) (hnew j hj) (a7 j hj)).symm⟩
  · have wv : w ≠ v := fun e => hno sl (by have := hslv.2.1; omega) (by rw [insO_in (Nat.le_refl _) (by omega)]; exact e.symm)
    rw [(a1 w hw wv).1]
    exact h.2.2.2 w hw (fun i hi e => hno (upP sl 1 i) (by unfold upP; split <;> omega) (by rw [insO_up]; exact e))
