/-! What holds at the law's entry. -/
def lw_more : List Cond := [Cond.stringRef RX5 71 "all nodes were made", Cond.stringRef RX5 82 "the root can't be deleted", Cond.stringRef RX5 92 "a node can't be moved into its own part", Cond.stringRef RX5 108 "all commits were made", Cond.stringRef RX5 131 "the working tree is not the head's, or a commit is taken in", Cond.stringRef RX5 146 "no such conflict", Cond.stringRef RX5 157 "no such part", Cond.stringRef RX5 178 "the path finds no such node", Cond.stringRef RX5 190 "no such part of the state", Cond.stringRef RX5 202 "no such node in the working tree", Cond.stringRef RX5 204 "no such commit", Cond.stringRef RX5 206 "no such place", Cond.stringRef RX5 208 "no such label", Cond.arrayClass .int, Cond.arrayClass .boolean, Cond.arrayClass .long, Cond.arrayOver (.object "GroveMerge$Tree"), Cond.arrayOver (.array .int), Cond.instantiable RX0 4, Cond.instantiable RX1 5, Cond.instantiable RX2 3, Cond.instantiable RX4 6, Cond.instantiable RX5 7, Cond.instantiable RX6 27, Cond.methodLinkNest RX1 40 yX5_isIn "GroveMerge", Cond.methodLinkNest RX3 41 yX5_isIn "GroveMerge", Cond.methodLinkNest RX4 75 yX5_isIn "GroveMerge", Cond.methodLinkNest RX5 25 yX2_init "GroveMerge", Cond.methodLinkNest RX5 32 yX0_init "GroveMerge", Cond.laysStatic Bundle.tN "UNASSIGNED_STACK" Bundle.steD, Cond.laysStatic Bundle.tN "SUPPRESSED_SENTINEL" Bundle.listD, Cond.initialized Bundle.tN, Cond.declares (Bundle.initS "java/lang/RuntimeException"), Cond.declares (Bundle.initS "java/lang/Exception"), Cond.declares (Bundle.initS Bundle.tN), Cond.castable (ab_ex 0) (ab_ex 0), Cond.castable (ab_ex 1) (ab_ex 1), Cond.castable (ab_ex 2) (ab_ex 2), Cond.castable (ab_ex 3) (ab_ex 3), Cond.castable (ab_ex 4) (ab_ex 4)]
def lw_nar : List Cond := [Cond.isRef (.static Bundle.tN "UNASSIGNED_STACK" Bundle.steD), Cond.isRef (.static Bundle.tN "SUPPRESSED_SENTINEL" Bundle.listD), Cond.not (.castable (ab_ex 0) (ab_ex 1)), Cond.not (.castable (ab_ex 0) (ab_ex 2)), Cond.not (.castable (ab_ex 0) (ab_ex 3)), Cond.not (.castable (ab_ex 0) (ab_ex 4)), Cond.not (.castable (ab_ex 1) (ab_ex 0)), Cond.not (.castable (ab_ex 1) (ab_ex 2)), Cond.not (.castable (ab_ex 1) (ab_ex 3)), Cond.not (.castable (ab_ex 1) (ab_ex 4)), Cond.not (.castable (ab_ex 2) (ab_ex 0)), Cond.not (.castable (ab_ex 2) (ab_ex 1)), Cond.not (.castable (ab_ex 2) (ab_ex 3)), Cond.not (.castable (ab_ex 2) (ab_ex 4)), Cond.not (.castable (ab_ex 3) (ab_ex 0)), Cond.not (.castable (ab_ex 3) (ab_ex 1)), Cond.not (.castable (ab_ex 3) (ab_ex 2)), Cond.not (.castable (ab_ex 3) (ab_ex 4)), Cond.not (.castable (ab_ex 4) (ab_ex 0)), Cond.not (.castable (ab_ex 4) (ab_ex 1)), Cond.not (.castable (ab_ex 4) (ab_ex 2)), Cond.not (.castable (ab_ex 4) (ab_ex 3))]
set_option maxRecDepth 20000 in
theorem lw_more_in : ∀ w ∈ lw_more, w ∈ lw_tbl := in_p [425, 455, 475, 494, 549, 606, 614, 630, 692, 347, 506, 390, 409, 125, 792, 983, 133, 183, 177, 127, 156, 77, 69, 701, 519, 267, 635, 157, 178, 331, 333, 57, 308, 310, 312, 306, 383, 402, 418, 542] (by decide +kernel)
set_option maxRecDepth 20000 in
theorem lw_nar_in : ∀ w ∈ lw_nar, w ∈ flatC (Jvm.Cond.and given_1 narrow_1) := in_p [4, 5, 22, 32, 42, 52, 12, 33, 43, 53, 13, 23, 44, 54, 14, 24, 34, 55, 15, 25, 35, 45] (by decide +kernel)
theorem lw_arrT {U : State} {cA : ClassId} {ty : FieldType} {k : Class} {comp : ClassId} (h2 : U.vm.classes[cA]? = some k) (h3 : k.kind = .array comp ty) : ArrOfT U cA ty := fun n z => ⟨fun k h => (by cases h), k, h2, comp, h3⟩
theorem lw_known {s : State} {args : Array Value} (hts : ∀ w ∈ lw_tbl, w.before args s = true) (hgv : (Jvm.Cond.and given_1 narrow_1).before args s = true) : ∃ (D : va_G) (cy : Nat → ClassId) (sa : Nat → Nat), cn_K D s.heap.size cy sa s ∧ wr_K s := by
  have hm : ∀ (i : Nat) (w : Cond), lw_more[i]? = some w → w.before args s = true := fun i w h => hts w (lw_more_in w (List.mem_of_getElem? h))
  have hn : ∀ (i : Nat) (w : Cond), lw_nar[i]? = some w → w.before args s = true := fun i w h => flat_of_before _ hgv w (lw_nar_in w (List.mem_of_getElem? h))
  obtain ⟨c0, iS0, hK0⟩ := u_known (C := RX0) (T := TX0) (N := 4) (n := 4) hts li_29 (hm 18 _ rfl)
  obtain ⟨c1, iS1, hK1⟩ := u_known (C := RX1) (T := TX1) (N := 5) (n := 5) hts li_30 (hm 19 _ rfl)
  obtain ⟨c2, iS2, hK2⟩ := u_known (C := RX2) (T := TX2) (N := 3) (n := 3) hts li_31 (hm 20 _ rfl)
  obtain ⟨c3, iS3, hK3⟩ := u_known (C := RX4) (T := TX4) (N := 6) (n := 6) hts li_32 (hm 21 _ rfl)
  obtain ⟨c4, iS4, hK4⟩ := u_known (C := RX5) (T := TX5) (N := 7) (n := 7) hts li_33 (hm 22 _ rfl)
  obtain ⟨c5, iS5, hK5⟩ := u_known (C := RX6) (T := TX6) (N := 27) (n := 27) hts li_34 (hm 23 _ rfl)
  obtain ⟨a0, k0, p0, e0, f0, g0⟩ := Cond.arrayClass_spec (hm 13 (.arrayClass .int) rfl)
  obtain ⟨a1, k1, p1, e1, f1, g1⟩ := Cond.arrayClass_spec (hm 14 (.arrayClass .boolean) rfl)
  obtain ⟨a4, k4, p4, e4, f4, g4⟩ := Cond.arrayClass_spec (hm 15 (.arrayClass .long) rfl)
  obtain ⟨p2, a2, k2, b2, -, f2, g2, e2⟩ := Cond.arrayOver_spec (hm 16 (.arrayOver (.object "GroveMerge$Tree")) rfl)
  obtain ⟨p3, a3, k3, b3, -, f3, g3, e3⟩ := arrayOver_specB (hm 17 (.arrayOver (.array .int)) rfl)
  have hc5 : s.vm.findClass RX5 = some c4 := hK4.2.1
  have hstr : ∀ t : Nat × String, ∃ a : Nat, t ∈ ab_strs → vk_R RX5 t.1 t.2 a s := by
    intro t
    by_cases ht : t ∈ ab_strs
    · have hw : (Cond.stringRef RX5 t.1 t.2).before args s = true := by
        have : Cond.stringRef RX5 t.1 t.2 ∈ lw_more.take 13 := by
          have : lw_more.take 13 = ab_strs.map fun t => Cond.stringRef RX5 t.1 t.2 := rfl
          rw [this]
          exact List.mem_map.mpr ⟨t, ht, rfl⟩
        exact hts _ (lw_more_in _ (List.mem_of_mem_take this))
      obtain ⟨k, cf, i, a, -, -, -, -, -, hev⟩ := Cond.stringRef_spec hc5 hw
      exact ⟨a, fun _ => vk_R.of hw hev⟩
    · exact ⟨0, fun h => absurd h ht⟩
  obtain ⟨sa, hsa⟩ := Classical.axiomOfChoice hstr
  have hsa2 : ∃ sb : Nat → Nat, ∀ t ∈ ab_strs, vk_R RX5 t.1 t.2 (sb t.1) s := by
    refine ⟨fun n => sa ((ab_strs.find? fun t => t.1 == n).getD (0, "")), fun t ht => ?_⟩
    have hf : ∀ t ∈ ab_strs, (ab_strs.find? fun u => u.1 == t.1) = some t := by decide
    simp only
    rw [hf t ht]
    exact hsa t ht
  obtain ⟨sb, hsb⟩ := hsa2
  have hA : ∀ a : Nat, a < s.heap.size → ¬ ab_A s.heap.size a := fun a h1 h2 => by have : s.heap.size ≤ a := h2; omega
  refine ⟨(fun k => [c0, c1, c2, c3, c4, c5].getD k c0, fun k => [iS0, iS1, iS2, iS3, iS4, iS5].getD k iS0), fun k => [a0, a1, a2, a3, a4].getD k a0, sb, ⟨⟨?_, ?_⟩, ?_, hsb, vx_Zqof (hm 29 _ rfl) (hm 31 _ rfl) (hn 0 _ rfl) hA, vx_Zqof (hm 30 _ rfl) (hm 31 _ rfl) (hn 1 _ rfl) hA, ?_, ?_, hm 16 _ rfl, hm 17 _ rfl, va_Nw.of rfl (hm 27 _ rfl), va_Nw.of rfl (hm 28 _ rfl)⟩, ?_⟩
  · intro k q hq
    match k, hq with
    | 0, hq => cases hq; exact hK0
    | 1, hq => cases hq; exact hK1
    | 2, hq => cases hq; exact hK2
    | 3, hq => cases hq; exact hK3
    | 4, hq => cases hq; exact hK4
    | 5, hq => cases hq; exact hK5
    | k + 6, hq => simp [vwCl] at hq
  · intro k q hq
    match k, hq with
    | 0, hq => cases hq; exact ⟨lw_arrT f0 g0, e0⟩
    | 1, hq => cases hq; exact ⟨lw_arrT f1 g1, e1⟩
    | 2, hq => cases hq; exact ⟨lw_arrT f2 g2, ⟨k2, p2, f2, g2, b2, e2⟩⟩
    | 3, hq => cases hq; exact ⟨lw_arrT f3 g3, e3⟩
    | 4, hq => cases hq; exact ⟨lw_arrT f4 g4, e4⟩
    | k + 5, hq => simp [ab_tys] at hq
  · intro t ht
    simp only [ab_nest, List.mem_cons, List.not_mem_nil, or_false] at ht
    rcases ht with rfl | rfl | rfl
    · exact va_Nw.of rfl (hm 24 _ rfl)
    · exact va_Nw.of rfl (hm 25 _ rfl)
    · exact va_Nw.of rfl (hm 26 _ rfl)
  · intro y hy
    simp only [ab_nd, List.mem_cons, List.not_mem_nil, or_false] at hy
    rcases hy with rfl | rfl | rfl
    · exact va_Nw.of rfl (hm 32 _ rfl)
    · exact va_Nw.of rfl (hm 33 _ rfl)
    · exact va_Nw.of rfl (hm 34 _ rfl)
  · intro E hE
    match E, hE with
    | 0, _ => exact va_Nw.of rfl (hm 35 _ rfl)
    | 1, _ => exact va_Nw.of rfl (hm 36 _ rfl)
    | 2, _ => exact va_Nw.of rfl (hm 37 _ rfl)
    | 3, _ => exact va_Nw.of rfl (hm 38 _ rfl)
    | 4, _ => exact va_Nw.of rfl (hm 39 _ rfl)
  · intro E hE E' hE' hne
    match E, E', hE, hE', hne with
    | 0, 0, _, _, h => exact absurd rfl h
    | 0, 1, _, _, _ => exact va_Nc.of (hn 2 _ rfl)
    | 0, 2, _, _, _ => exact va_Nc.of (hn 3 _ rfl)
    | 0, 3, _, _, _ => exact va_Nc.of (hn 4 _ rfl)
    | 0, 4, _, _, _ => exact va_Nc.of (hn 5 _ rfl)
    | 1, 0, _, _, _ => exact va_Nc.of (hn 6 _ rfl)
    | 1, 1, _, _, h => exact absurd rfl h
    | 1, 2, _, _, _ => exact va_Nc.of (hn 7 _ rfl)
    | 1, 3, _, _, _ => exact va_Nc.of (hn 8 _ rfl)
    | 1, 4, _, _, _ => exact va_Nc.of (hn 9 _ rfl)
    | 2, 0, _, _, _ => exact va_Nc.of (hn 10 _ rfl)
    | 2, 1, _, _, _ => exact va_Nc.of (hn 11 _ rfl)
    | 2, 2, _, _, h => exact absurd rfl h
    | 2, 3, _, _, _ => exact va_Nc.of (hn 12 _ rfl)
    | 2, 4, _, _, _ => exact va_Nc.of (hn 13 _ rfl)
    | 3, 0, _, _, _ => exact va_Nc.of (hn 14 _ rfl)
    | 3, 1, _, _, _ => exact va_Nc.of (hn 15 _ rfl)
    | 3, 2, _, _, _ => exact va_Nc.of (hn 16 _ rfl)
    | 3, 3, _, _, h => exact absurd rfl h
    | 3, 4, _, _, _ => exact va_Nc.of (hn 17 _ rfl)
    | 4, 0, _, _, _ => exact va_Nc.of (hn 18 _ rfl)
    | 4, 1, _, _, _ => exact va_Nc.of (hn 19 _ rfl)
    | 4, 2, _, _, _ => exact va_Nc.of (hn 20 _ rfl)
    | 4, 3, _, _, _ => exact va_Nc.of (hn 21 _ rfl)
    | 4, 4, _, _, h => exact absurd rfl h
/-! What the law asks of a call and of its model's. -/
def LQI (τm : ab_TR) (vm : List ab_V) (r : Int32) (S' : ab_S) : Prop := τm vm S' (fun o2 S2 => (∀ E, o2 ≠ .inr E) ∧ S2 41 = S' 41 ∧ Jv S2 ∧ S2 21 0 0 = r ∧ (r = 0 → o2 = .inl (some (S' 41 0 0))))
def LQV (τm : ab_TR) (vm : List ab_V) (r : Int32) (S' : ab_S) : Prop := τm vm S' (fun o2 S2 => (∀ E, o2 ≠ .inr E) ∧ S2 41 = S' 41 ∧ Jv S2 ∧ S2 21 0 0 = r)
theorem lw_strong {τ : ab_TR} {vs : List ab_V} {S : ab_S} {Q : ab_Po} (ht : Thr (fun _ => False) τ) (hk : Kp τ) (h : τ vs S Q) : τ vs S (fun o S2 => (∀ E, o ≠ .inr E) ∧ S2 41 = S 41 ∧ Q o S2) :=
  hk _ _ _ _ (fun o S2 a k => ⟨a.2, k, a.1⟩) (ht _ _ _ (fun o S2 => Q o S2 ∧ ∀ E, o ≠ .inr E) (fun o S2 a b => ⟨a, fun E e => b E e⟩) h)
theorem lw_mono {τ : ab_TR} {vs : List ab_V} {S : ab_S} {Q Q' : ab_Po} (ht : Thr (fun _ => False) τ) (h : τ vs S Q) (hq : ∀ o S2, Q o S2 → Q' o S2) : τ vs S Q' := ht _ _ _ _ (fun o S2 a _ => hq o S2 a) h
theorem lw_qI {τc : ab_TR} {vc : List ab_V} {τm : ab_TR} {vm : List ab_V} {cd : Nat → Int32} {S : ab_S} {cdl : List (Nat × Int32)} {X : Nat → Prop} (hop : Op2 τc vc τm vm cd S) (ht : Thr X τc) (hX : ∀ E, X E → (E, cd E) ∈ cdl ∧ cd E ≠ 0) (htm : Thr (fun _ => False) τm) (hkm : Kp τm) : τc vc S (wqI cdl (LQI τm vm)) := by
  refine ht _ _ _ _ (fun o S1 h hE => ?_) hop
  match o, h, hE with
  | .inl none, _, _ => exact trivial
  | .inl (some x), h, _ =>
    have h1 := h (ab_su S1 41 0 0 x) (fun a ha => funext fun b => su_o (Or.inl ha))
    refine lw_mono htm (lw_strong htm hkm h1) (fun o S2 a => ⟨a.1, a.2.1, a.2.2.1, a.2.2.2.1, fun _ => ?_⟩)
    rw [su_at]; exact a.2.2.2.2 x rfl
  | .inr E, h, hE =>
    have hx := hX E (hE E rfl)
    exact ⟨cd E, hx.1, lw_mono htm (lw_strong htm hkm (h S1 (fun _ _ => rfl))) (fun o S2 a => ⟨a.1, a.2.1, a.2.2.1, a.2.2.2, fun z => absurd z hx.2⟩)⟩
theorem lw_qV {τc : ab_TR} {vc : List ab_V} {τm : ab_TR} {vm : List ab_V} {cd : Nat → Int32} {S : ab_S} {cdl : List (Nat × Int32)} {X : Nat → Prop} (hop : Op2 τc vc τm vm cd S) (ht : Thr X τc) (hX : ∀ E, X E → (E, cd E) ∈ cdl) (htm : Thr (fun _ => False) τm) (hkm : Kp τm) : τc vc S (wqV cdl (LQV τm vm)) := by
  refine ht _ _ _ _ (fun o S1 h hE => ?_) hop
  match o, h, hE with
  | .inl none, h, _ => exact lw_mono htm (lw_strong htm hkm (h S1 (fun _ _ => rfl))) (fun o S2 a => ⟨a.1, a.2.1, a.2.2.1, a.2.2.2.1⟩)
  | .inl (some x), _, _ => exact trivial
  | .inr E, h, hE => exact ⟨cd E, hX E (hE E rfl), lw_mono htm (lw_strong htm hkm (h S1 (fun _ _ => rfl))) (fun o S2 a => ⟨a.1, a.2.1, a.2.2.1, a.2.2.2⟩)⟩
theorem lw_thr {S : ab_S} {Q : ab_Po} (h : Q (.inl (some (S 21 0 0))) S) : Sp_X6_thrown [.inr (21, 0)] S Q := ⟨Nat.le_of_ble_eq_true rfl, fun G hG => bl_X6_thrown_0 hG S h⟩
section LWR
variable {p : Program} {l : Launch} {e : Env} {R : Room} {s : State} {m : MethodId} {args : Array Value} {below : List Frame} {meth : Method} {c : Code} {cc : ByteArray} {H : Heap} {locs : List Loc} {cells slots pc : Nat} {ls : Array Slot} {rest : List Value} {Q : State → Prop}
theorem lv_lcmp0 (hexec : p.tables.exec = Jvm.exec) (hb : c.code = cc) {x : Int64} (hdg : decode cc pc = .ok (.lcmp, 1)) (k : W p l e R s m args below meth c H locs cells slots Q (F0 m (pc + 1) ls (.int 0 :: rest))) : W p l e R s m args below meth c H locs cells slots Q (F0 m pc ls (.long x :: .long x :: rest)) := by
  intro T hT X
  obtain ⟨t, a, b⟩ := k T hT X
  refine ⟨t, ?_, b⟩
  jvm_step X.here [X.here.top, hexec, hb, hdg]
  have hc : ¬ x < x := Int64.lt_irrefl
  try simp [hc]
  exact a
/-- a number of the script -/
theorem lw_arg {b L i k : Nat} {xs : Nat → Int32} {cI : Int} (hx : p.tables.exec = Jvm.exec) (hb : c.code = cc) (hX : va_X b L xs s s.heap) (hbl : b < s.heap.size) (hS : va_S (ab_A s.heap.size) s.heap H locs) (hL : L ≤ 256) (hik : i + k < L) (h0 : ls[0]? = some (.val (.ref b))) (h4 : ls[4]? = some (.val (.int (nI i)))) (hc : Int32.ofInt cI = nI k)
    (d0 : decode cc pc = .ok (.aload_n 0, 1)) (d1 : decode cc (pc + 1) = .ok (.iload 4, 2)) (d3 : decode cc (pc + 3) = .ok (.iconst cI, 1)) (d4 : decode cc (pc + 4) = .ok (.iadd, 1)) (d5 : decode cc (pc + 5) = .ok (.iaload, 1))
    (kk : W p l e R s m args below meth c H locs cells slots Q (F0 m (pc + 6) ls (.int (xs (i + k)) :: rest))) : W p l e R s m args below meth c H locs cells slots Q (F0 m pc ls rest) := by
  refine lv_aload_n hx hb d0 rfl h0 ?_
  refine lv_iload hx hb d1 h4 ?_
  refine lv_iconst hx hb d3 hc ?_
  refine lv_iadd hx hb d4 ?_
  have hadd : nI i + nI k = nI (i + k) := nI_add i k
  rw [hadd]
  refine va_sld hx hb hX hbl (fun h => by have : s.heap.size ≤ b := h; omega) hS (vp_in_nI (by omega) (by omega)) d5 ?_
  rw [nI_clamp (by omega)]
  exact kk
end LWR
