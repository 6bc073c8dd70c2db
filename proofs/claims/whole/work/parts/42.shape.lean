/-! The shape of a tree by spots: n spots, the node o at each, the parent's spot pp of each but the first. -/
def lam (n : Nat) (pp : Nat → Nat) : Prop := ∀ i j, 0 < i → i < j → j < n → pp j < i → pp j ≤ pp i
def Lp (n : Nat) (pp : Nat → Nat) : Prop := (∀ i, 0 < i → i < n → pp i < i) ∧ lam n pp
def Sh (n : Nat) (o pp : Nat → Nat) : Prop := 0 < n ∧ n ≤ 24 ∧ o 0 = 0 ∧ (∀ i, i < n → o i < 24) ∧ (∀ i j, i < n → j < n → o i = o j → i = j) ∧ Lp n pp
theorem En_ex {n : Nat} {pp : Nat → Nat} {s : Nat} (hs : s < n) : ∃ e, En n pp s e := by
  have key : ∀ i, i ≤ n → s < i → (∀ j, s < j → j < i → s ≤ pp j) → ∃ e, En n pp s e := by
    refine ind_up _ ?_ ?_
    · intro h1 h2
      exact ⟨n, h1, Nat.le_refl _, h2, Or.inl rfl⟩
    · intro i hi ih h1 h2
      by_cases q : s ≤ pp i
      · refine ih (by omega) (fun j q1 q2 => ?_)
        by_cases e : j = i
        · rw [e]; exact q
        · exact h2 j q1 (by omega)
      · exact ⟨i, h1, by omega, h2, Or.inr (by omega)⟩
  exact key (s + 1) (by omega) (by omega) (fun j q1 q2 => by omega)
theorem En_one {n : Nat} {pp : Nat → Nat} {s e e' : Nat} (h : En n pp s e) (h' : En n pp s e') : e = e' := by
  obtain ⟨a1, a2, a3, a4⟩ := h
  obtain ⟨b1, b2, b3, b4⟩ := h'
  rcases Nat.lt_trichotomy e e' with q | q | q
  · have := b3 e a1 q; omega
  · exact q
  · have := a3 e' b1 q; omega
theorem En_0 {n : Nat} {pp : Nat → Nat} {e : Nat} (h : En n pp 0 e) : e = n := by
  obtain ⟨a1, a2, a3, a4⟩ := h
  omega
/-- a spot outside a part has its parent outside -/
theorem En_out {n : Nat} {pp : Nat → Nat} {s e i : Nat} (hL : Lp n pp) (h : En n pp s e) (hi : e ≤ i) (hin : i < n) : pp i < s ∨ e ≤ pp i := by
  obtain ⟨a1, a2, a3, a4⟩ := h
  by_cases q : i = e
  · subst q; omega
  · have := hL.2 e i (by omega) (by omega) hin
    omega
theorem En_in {n : Nat} {pp : Nat → Nat} {s e i : Nat} (hL : Lp n pp) (h : En n pp s e) (hi : s < i) (hie : i < e) : s ≤ pp i ∧ pp i < i := ⟨h.2.2.1 i hi hie, hL.1 i (by omega) (by have := h.2.1; omega)⟩
/-- ends nest -/
theorem En_le {n : Nat} {pp : Nat → Nat} {s e i e' : Nat} (hL : Lp n pp) (h : En n pp s e) (h' : En n pp i e') (hi : s ≤ i) (hie : i < e) : e' ≤ e := by
  obtain ⟨a1, a2, a3, a4⟩ := h
  obtain ⟨b1, b2, b3, b4⟩ := h'
  rcases Nat.lt_or_ge e e' with q | q
  · have := b3 e hie q
    omega
  · exact q
/-- a slot for a child of the node at s -/
def Slv (n : Nat) (pp : Nat → Nat) (s sl : Nat) : Prop := s < sl ∧ sl ≤ n ∧ (∀ j, s < j → j < sl → s ≤ pp j) ∧ (sl = n ∨ pp sl ≤ s)
theorem Slt.slv {n : Nat} {pp : Nat → Nat} {s k i : Nat} (hL : Lp n pp) (h : Slt n pp s k i) : Slv n pp s i := by
  rcases h with ⟨h1, h2, h3, -⟩ | ⟨⟨h1, h2, h3, h4⟩, -⟩
  · refine ⟨h1, Nat.le_of_lt h2, fun j q1 q2 => ?_, Or.inr (by omega)⟩
    have := hL.2 j i (by omega) q2 h2 (by omega)
    omega
  · exact ⟨h1, h2, h3, by omega⟩
/-- the number of children of s before a slot is its place -/
theorem ck_same {pp : Nat → Nat} {s a : Nat} : ∀ b, a ≤ b → (∀ j, a ≤ j → j < b → pp j ≠ s) → ck pp s b = ck pp s a
  | 0, h, _ => by rw [Nat.le_zero.mp h]
  | b + 1, h, hj => by
    rcases Nat.lt_or_ge b a with q | q
    · rw [show a = b + 1 by omega]
    · rw [ck_no (fun z => hj b q (by omega) z.2)]
      exact ck_same b q (fun j q1 q2 => hj j q1 (by omega))
theorem ck_end {n : Nat} {pp : Nat → Nat} {s e : Nat} (hL : Lp n pp) (h : En n pp s e) : ck pp s n = ck pp s e :=
  ck_same n h.2.1 (fun j q1 q2 q3 => by have := En_out hL h q1 q2; have := h.1; omega)
theorem Slt.place {n : Nat} {pp : Nat → Nat} {s k i : Nat} (hL : Lp n pp) (hk : k ≤ ck pp s n) (h : Slt n pp s k i) : ck pp s i = k := by
  rcases h with ⟨h1, h2, h3, h4⟩ | ⟨h, h5⟩
  · exact h4
  · rw [← ck_end hL h]; omega
def upP (sl len j : Nat) : Nat := if j < sl then j else j + len
/-- parents' spots with a part of len spots put in at a slot as a child of s; cp: the part's own -/
def insP (pp cp : Nat → Nat) (sl len s : Nat) : Nat → Nat := fun i => if i < sl then pp i else if i = sl then s else if i < sl + len then sl + cp (i - sl) else upP sl len (pp (i - len))
theorem insP_lo {pp cp : Nat → Nat} {sl len s i : Nat} (h : i < sl) : insP pp cp sl len s i = pp i := if_pos h
theorem insP_hd {pp cp : Nat → Nat} {sl len s : Nat} : insP pp cp sl len s sl = s := by unfold insP; rw [if_neg (by omega), if_pos rfl]
theorem insP_in {pp cp : Nat → Nat} {sl len s i : Nat} (h : sl < i) (h2 : i < sl + len) : insP pp cp sl len s i = sl + cp (i - sl) := by unfold insP; rw [if_neg (by omega), if_neg (by omega), if_pos h2]
theorem insP_hi {pp cp : Nat → Nat} {sl len s i : Nat} (hl : 0 < len) (h : sl + len ≤ i) : insP pp cp sl len s i = upP sl len (pp (i - len)) := by unfold insP; rw [if_neg (by omega), if_neg (by omega), if_neg (by omega)]
theorem insP_Lp {n : Nat} {pp cp : Nat → Nat} {sl len s : Nat} (hL : Lp n pp) (hc : Lp len cp) (hl : 0 < len) (h : Slv n pp s sl) : Lp (n + len) (insP pp cp sl len s) := by
  obtain ⟨h1, h2, h3, h4⟩ := h
  refine ⟨fun i hi hn => ?_, fun i j hi hij hj hp => ?_⟩
  · by_cases q1 : i < sl
    · rw [insP_lo q1]; exact hL.1 i hi (by omega)
    · by_cases q2 : i = sl
      · subst q2; rw [insP_hd]; exact h1
      · by_cases q3 : i < sl + len
        · rw [insP_in (by omega) q3]
          have := hc.1 (i - sl) (by omega) (by omega)
          omega
        · rw [insP_hi hl (by omega)]
          have := hL.1 (i - len) (by omega) (by omega)
          unfold upP
          split <;> omega
  · by_cases j1 : j < sl
    · rw [insP_lo j1] at hp ⊢
      rw [insP_lo (show i < sl by omega)]
      exact hL.2 i j hi hij (by omega) hp
    · by_cases j2 : j = sl
      · subst j2
        rw [insP_hd] at hp ⊢
        rw [insP_lo (show i < j by omega)]
        exact h3 i hp hij
      · by_cases j3 : j < sl + len
        · rw [insP_in (by omega) j3] at hp ⊢
          rw [insP_in (show sl < i by omega) (by omega)]
          have := hc.2 (i - sl) (j - sl) (by omega) (by omega) (by omega) (by omega)
          omega
        · rw [insP_hi hl (by omega)] at hp ⊢
          by_cases i1 : i < sl
          · rw [insP_lo i1]
            have hq : pp (j - len) < sl := by unfold upP at hp; split at hp <;> omega
            unfold upP at hp ⊢
            rw [if_pos hq] at hp ⊢
            exact hL.2 i (j - len) hi (by omega) (by omega) hp
          · by_cases i2 : i = sl
            · subst i2
              rw [insP_hd]
              have hq : pp (j - len) < i := by unfold upP at hp; split at hp <;> omega
              unfold upP
              rw [if_pos hq]
              by_cases e : j - len = i
              · rw [e] at hq ⊢; omega
              · have := hL.2 i (j - len) hi (by omega) (by omega) hq
                omega
            · by_cases i3 : i < sl + len
              · rw [insP_in (by omega) i3]
                unfold upP at hp ⊢
                by_cases z : pp (j - len) < sl
                · rw [if_pos z] at hp ⊢; omega
                · rw [if_neg z] at hp; omega
              · rw [insP_hi hl (by omega)]
                have := hL.2 (i - len) (j - len) (by omega) (by omega) (by omega)
                unfold upP at hp ⊢
                split at hp <;> split <;> (try omega)
                all_goals split <;> omega
theorem ck_congr {pp pp' : Nat → Nat} {q : Nat} : ∀ i, (∀ j, 0 < j → j < i → pp' j = pp j) → ck pp' q i = ck pp q i
  | 0, _ => rfl
  | i + 1, h => by
    simp only [ck]
    rw [ck_congr i (fun j h1 h2 => h j h1 (by omega))]
    by_cases h0 : 0 < i
    · rw [h i h0 (by omega)]
    · simp [h0]
theorem ck_ins_lo {pp cp : Nat → Nat} {sl len s q i : Nat} (h : i ≤ sl) : ck (insP pp cp sl len s) q i = ck pp q i := ck_congr i (fun j _ h2 => insP_lo (by omega))
theorem ck_ins_in {n : Nat} {pp cp : Nat → Nat} {sl len s c : Nat} (hL : Lp n pp) (h1 : s < sl) (h2 : sl ≤ n) : ∀ d, 0 < d → d ≤ len → ck (insP pp cp sl len s) (sl + c) (sl + d) = ck cp c d
  | 0, h, _ => by omega
  | 1, _, hd => by
    rw [ck_no (fun z => by rw [insP_hd] at z; omega), ck_ins_lo (Nat.le_refl _), ck_zero sl (fun j q1 q2 q3 => by have := hL.1 j q1 (by omega); omega)]
    rfl
  | d + 2, _, hd => by
    have ih := ck_ins_in (cp := cp) (len := len) (c := c) hL h1 h2 (d + 1) (by omega) (by omega)
    show ck _ _ (sl + (d + 1) + 1) = _
    by_cases q : cp (d + 1) = c
    · rw [ck_yes (by omega) (by rw [insP_in (by omega) (by omega), show sl + (d + 1) - sl = d + 1 by omega, q]), ck_yes (by omega) q, ih]
    · rw [ck_no (fun z => q (by rw [insP_in (by omega) (by omega), show sl + (d + 1) - sl = d + 1 by omega] at z; omega)), ck_no (fun z => q z.2), ih]
theorem ck_ins_hi {n : Nat} {pp cp : Nat → Nat} {sl len s q : Nat} (hL : Lp n pp) (hc : Lp len cp) (hl : 0 < len) (h1 : s < sl) (h2 : sl ≤ n) (hq : q < n) : ∀ i, sl ≤ i → i ≤ n → ck (insP pp cp sl len s) (upP sl len q) (i + len) = ck pp q i + if q = s then 1 else 0 := by
  have key : ∀ d, d ≤ len → 0 < d → ck (insP pp cp sl len s) (upP sl len q) (sl + d) = ck pp q sl + if q = s then 1 else 0 := by
    intro d
    induction d with
    | zero => intro _ h; omega
    | succ d ih =>
      intro hd _
      by_cases d0 : d = 0
      · subst d0
        show ck _ _ (sl + 1) = _
        by_cases e : q = s
        · subst e
          have hu : upP sl len q = q := by unfold upP; rw [if_pos h1]
          rw [hu, ck_yes (by omega) insP_hd, ck_ins_lo (Nat.le_refl _), if_pos rfl]
        · rw [ck_no (fun z => by
            rw [insP_hd] at z
            unfold upP at z
            split at z <;> omega), if_neg e]
          by_cases hqs : q < sl
          · rw [ck_ins_lo (Nat.le_refl _)]
            unfold upP
            rw [if_pos hqs]; rfl
          · rw [ck_zero sl (fun j a b z => by rw [insP_lo b] at z; have := hL.1 j a (by omega); unfold upP at z; rw [if_neg hqs] at z; omega), ck_zero sl (fun j a b z => by have := hL.1 j a (by omega); omega)]
      · show ck _ _ (sl + d + 1) = _
        rw [ck_no (fun z => by
          rw [insP_in (by omega) (by omega), show sl + d - sl = d by omega] at z
          have := hc.1 d (by omega) (by omega)
          unfold upP at z
          split at z <;> omega)]
        exact ih (by omega) (by omega)
  intro i hi hin
  obtain ⟨d, rfl⟩ : ∃ d, i = sl + d := ⟨i - sl, by omega⟩
  induction d with
  | zero => exact key len (Nat.le_refl _) hl
  | succ d ih =>
    have h := ih (by omega) (by omega)
    rw [show sl + (d + 1) + len = sl + d + len + 1 by omega, show sl + (d + 1) = sl + d + 1 by omega]
    have e1 : insP pp cp sl len s (sl + d + len) = upP sl len (pp (sl + d)) := by rw [insP_hi hl (by omega), show sl + d + len - len = sl + d by omega]
    by_cases e : pp (sl + d) = q
    · rw [ck_yes (by omega) (by rw [e1, e]), ck_yes (by omega) e, h]
      omega
    · rw [ck_no (fun z => e (by rw [e1] at z; unfold upP at z; split at z <;> split at z <;> omega)), ck_no (fun z => e z.2), h]
/-- parents' spots without a part of len spots from s on -/
def dnP (s len q : Nat) : Nat := if q < s then q else q - len
def delP (pp : Nat → Nat) (s len : Nat) : Nat → Nat := fun i => if i < s then pp i else dnP s len (pp (i + len))
theorem delP_lo {pp : Nat → Nat} {s len i : Nat} (h : i < s) : delP pp s len i = pp i := if_pos h
theorem delP_hi {pp : Nat → Nat} {s len i : Nat} (h : s ≤ i) : delP pp s len i = dnP s len (pp (i + len)) := if_neg (by omega)
theorem delP_Lp {n : Nat} {pp : Nat → Nat} {s e : Nat} (hL : Lp n pp) (h0 : 0 < s) (h : En n pp s e) : Lp (n - (e - s)) (delP pp s (e - s)) := by
  have hE := h
  obtain ⟨h1, h2, h3, h4⟩ := h
  refine ⟨fun i hi hn => ?_, fun i j hi hij hj hp => ?_⟩
  · by_cases q : i < s
    · rw [delP_lo q]; exact hL.1 i hi (by omega)
    · rw [delP_hi (by omega)]
      have := hL.1 (i + (e - s)) (by omega) (by omega)
      have := En_out hL hE (i := i + (e - s)) (by omega) (by omega)
      unfold dnP
      split <;> omega
  · by_cases j1 : j < s
    · rw [delP_lo j1] at hp ⊢
      rw [delP_lo (show i < s by omega)]
      exact hL.2 i j hi hij (by omega) hp
    · rw [delP_hi (by omega)] at hp ⊢
      have oj := En_out hL hE (i := j + (e - s)) (by omega) (by omega)
      by_cases i1 : i < s
      · rw [delP_lo i1]
        have := hL.2 i (j + (e - s)) hi (by omega) (by omega)
        unfold dnP at hp ⊢
        by_cases z : pp (j + (e - s)) < s
        · rw [if_pos z] at hp ⊢; omega
        · rw [if_neg z] at hp; omega
      · rw [delP_hi (by omega)]
        have oi := En_out hL hE (i := i + (e - s)) (by omega) (by omega)
        have := hL.2 (i + (e - s)) (j + (e - s)) (by omega) (by omega) (by omega)
        unfold dnP at hp ⊢
        split at hp <;> split <;> (try split) <;> omega
theorem ck_del_lo {pp : Nat → Nat} {s len q i : Nat} (h : i ≤ s) : ck (delP pp s len) q i = ck pp q i := ck_congr i (fun j _ h2 => delP_lo (by omega))
theorem ck_del_hi {n : Nat} {pp : Nat → Nat} {s e q : Nat} (hL : Lp n pp) (h0 : 0 < s) (h : En n pp s e) (hq : q < s ∨ e ≤ q) : ∀ i, e ≤ i → i ≤ n → ck pp q i = ck (delP pp s (e - s)) (dnP s (e - s) q) (i - (e - s)) + if q = pp s then 1 else 0 := by
  have hE := h
  obtain ⟨h1, h2, h3, h4⟩ := h
  have hps := hL.1 s h0 (by omega)
  have base : ck pp q e = ck (delP pp s (e - s)) (dnP s (e - s) q) s + if q = pp s then 1 else 0 := by
    have a1 : ck pp q e = ck pp q (s + 1) := ck_same e (by omega) (fun j q1 q2 q3 => by have := En_in hL hE (i := j) (by omega) q2; omega)
    rw [a1, ck_del_lo (Nat.le_refl _)]
    by_cases c : q = pp s
    · subst c
      have hd : dnP s (e - s) (pp s) = pp s := by unfold dnP; rw [if_pos hps]
      rw [ck_yes h0 rfl, hd, if_pos rfl]
    · rw [ck_no (fun z => c z.2.symm), if_neg c, Nat.add_zero]
      by_cases hqs : q < s
      · unfold dnP; rw [if_pos hqs]
      · rw [ck_zero s (fun j a b z => by have := hL.1 j a (by omega); omega), ck_zero s (fun j a b z => by have := hL.1 j a (by omega); unfold dnP at z; rw [if_neg hqs] at z; omega)]
  intro i hi hin
  obtain ⟨d, rfl⟩ : ∃ d, i = e + d := ⟨i - e, by omega⟩
  induction d with
  | zero => rw [show e + 0 - (e - s) = s by omega]; exact base
  | succ d ih =>
    have hh := ih (by omega) (by omega)
    rw [show e + (d + 1) - (e - s) = e + d - (e - s) + 1 by omega, show e + (d + 1) = e + d + 1 by omega]
    have e1 : delP pp s (e - s) (e + d - (e - s)) = dnP s (e - s) (pp (e + d)) := by rw [delP_hi (by omega), show e + d - (e - s) + (e - s) = e + d by omega]
    have od := En_out hL hE (i := e + d) (by omega) (by omega)
    by_cases c : pp (e + d) = q
    · rw [ck_yes (pp := pp) (by omega) c, ck_yes (pp := delP pp s (e - s)) (by omega) (by rw [e1, c]), hh]
      omega
    · rw [ck_no (pp := delP pp s (e - s)) (fun z => c (by rw [e1] at z; unfold dnP at z; split at z <;> split at z <;> omega)), ck_no (fun z => c z.2), hh]
