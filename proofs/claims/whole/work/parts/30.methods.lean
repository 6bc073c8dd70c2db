def M_J6_bitCount_0f7a4 : ab_M := (cJ6_bitCount_0f7a4, [], [], (fun i => none), (fun i => none), (fun i => none), [], [], (fun i => none), [(265, (1431655765)), (266, (858993459)), (267, (252645135))], 1, 0)
def Sp_J6_bitCount_0f7a4 : ab_TR := ab_Sem M_J6_bitCount_0f7a4 1
def rm_J6_bitCount_0f7a4 : Room := { frames := 1, cells := 0, slots := 0, locals := 1 }
set_option maxRecDepth 20000 in
theorem so_J6_bitCount_0f7a4 (l : Launch) : ab_Sound l yJ6_bitCount_0f7a4 wsJ6_bitCount_0f7a4 rm_J6_bitCount_0f7a4 1 Sp_J6_bitCount_0f7a4 := by
  refine ab_sound (by decide +kernel) rfl rfl rfl ?_
  refine ⟨?_, ?_, ?_, ?_, ?_, ?_, ?_, ?_, ?_, ?_, ?_, ?_, ?_⟩
  · exact by decide
  · exact Or.inl rfl
  · exact by unfold ab_flok; decide +kernel
  · exact by unfold ab_plok ab_flok; decide +kernel
  · exact by decide +kernel
  · exact fun _ _ _ _ _ _ h => ab_no h
  · exact fun _ _ _ _ _ _ h => ab_no h
  · exact fun _ _ _ _ _ _ h => ab_no h
  · exact by decide +kernel
  · exact by decide +kernel
  · exact fun _ _ h => ab_no h
  · exact by decide
  · exact by decide
def M_J7_fill_53178 : ab_M := (cJ7_fill_53178, [], [], (fun i => none), (fun i => none), (fun i => none), [], [], (fun i => none), [], 0, 0)
def Sp_J7_fill_53178 : ab_TR := ab_Sem M_J7_fill_53178 4
def rm_J7_fill_53178 : Room := { frames := 1, cells := 0, slots := 0, locals := 1 }
set_option maxRecDepth 20000 in
theorem so_J7_fill_53178 (l : Launch) : ab_Sound l yJ7_fill_53178 wsJ7_fill_53178 rm_J7_fill_53178 0 Sp_J7_fill_53178 := by
  refine ab_sound (by decide +kernel) rfl rfl rfl ?_
  refine ⟨?_, ?_, ?_, ?_, ?_, ?_, ?_, ?_, ?_, ?_, ?_, ?_, ?_⟩
  · exact by decide
  · exact Or.inl rfl
  · exact by unfold ab_flok; decide +kernel
  · exact by unfold ab_plok ab_flok; decide +kernel
  · exact by decide +kernel
  · exact fun _ _ _ _ _ _ h => ab_no h
  · exact fun _ _ _ _ _ _ h => ab_no h
  · exact fun _ _ _ _ _ _ h => ab_no h
  · exact by decide +kernel
  · exact by decide +kernel
  · exact fun _ _ h => ab_no h
  · exact by decide
  · exact by decide
def M_X4_parentSpot : ab_M := (cX4_parentSpot, [(18, 4, 2), (9, 4, 0), (15, 4, 1)], [], (fun i => none), (fun i => none), (fun i => none), [], [], (fun i => none), [], 1, 0)
def Sp_X4_parentSpot : ab_TR := ab_Sem M_X4_parentSpot 3
def rm_X4_parentSpot : Room := { frames := 1, cells := 0, slots := 0, locals := 1 }
set_option maxRecDepth 20000 in
theorem so_X4_parentSpot (l : Launch) : ab_Sound l yX4_parentSpot wsX4_parentSpot rm_X4_parentSpot 1 Sp_X4_parentSpot := by
  refine ab_sound (by decide +kernel) rfl rfl rfl ?_
  refine ⟨?_, ?_, ?_, ?_, ?_, ?_, ?_, ?_, ?_, ?_, ?_, ?_, ?_⟩
  · exact by decide
  · exact Or.inl rfl
  · exact by unfold ab_flok; decide +kernel
  · exact by unfold ab_plok ab_flok; decide +kernel
  · exact by decide +kernel
  · exact fun _ _ _ _ _ _ h => ab_no h
  · exact fun _ _ _ _ _ _ h => ab_no h
  · exact fun _ _ _ _ _ _ h => ab_no h
  · exact by decide +kernel
  · exact by decide +kernel
  · exact fun _ _ h => ab_no h
  · exact by decide
  · exact by decide
def M_X4_endOf : ab_M := (cX4_endOf, [(36, 4, 4)], [], (fun i => if i = 54 then some (3, 1, 1, 0, Sp_X4_parentSpot) else none), (fun i => none), (fun i => none), [], [], (fun i => none), [], 1, 0)
def Sp_X4_endOf : ab_TR := ab_Sem M_X4_endOf 3
def rm_X4_endOf : Room := { frames := 2, cells := 0, slots := 0, locals := 23 }
set_option maxRecDepth 20000 in
theorem so_X4_endOf (l : Launch) : ab_Sound l yX4_endOf wsX4_endOf rm_X4_endOf 1 Sp_X4_endOf := by
  refine ab_sound (by decide +kernel) rfl rfl rfl ?_
  refine ⟨?_, ?_, ?_, ?_, ?_, ?_, ?_, ?_, ?_, ?_, ?_, ?_, ?_⟩
  · exact by decide
  · exact Or.inl rfl
  · exact by unfold ab_flok; decide +kernel
  · exact by unfold ab_plok ab_flok; decide +kernel
  · exact by decide +kernel
  · exact by
      intro idx rc n ri kc τ h
      simp only [M_X4_endOf, ab_cv, ab_cs, ab_cn] at h
      split at h
      · rename_i hi; subst hi; cases h; exact ⟨yX4_parentSpot, cX4_parentSpot, 3, _, wsX4_parentSpot, _, rm_X4_parentSpot, (so_X4_parentSpot l), gX4_endOf_X4_parentSpot, rfl, rfl, rfl, rfl, ⟨by decide +kernel, by decide +kernel, by decide +kernel⟩, by decide⟩
      cases h
  · exact fun _ _ _ _ _ _ h => ab_no h
  · exact fun _ _ _ _ _ _ h => ab_no h
  · exact by decide +kernel
  · exact by decide +kernel
  · exact fun _ _ h => ab_no h
  · exact by decide
  · exact by decide
def M_X0_noteEnds : ab_M := (cX0_noteEnds, [(30, 4, 4)], [], (fun i => if i = 48 then some (3, 1, 1, 0, Sp_X4_endOf) else none), (fun i => none), (fun i => none), [], [], (fun i => none), [], 0, 0)
def Sp_X0_noteEnds : ab_TR := ab_Sem M_X0_noteEnds 3
def rm_X0_noteEnds : Room := { frames := 3, cells := 0, slots := 0, locals := 45 }
set_option maxRecDepth 20000 in
theorem so_X0_noteEnds (l : Launch) : ab_Sound l yX0_noteEnds wsX0_noteEnds rm_X0_noteEnds 0 Sp_X0_noteEnds := by
  refine ab_sound (by decide +kernel) rfl rfl rfl ?_
  refine ⟨?_, ?_, ?_, ?_, ?_, ?_, ?_, ?_, ?_, ?_, ?_, ?_, ?_⟩
  · exact by decide
  · exact Or.inl rfl
  · exact by unfold ab_flok; decide +kernel
  · exact by unfold ab_plok ab_flok; decide +kernel
  · exact by decide +kernel
  · exact by
      intro idx rc n ri kc τ h
      simp only [M_X0_noteEnds, ab_cv, ab_cs, ab_cn] at h
      split at h
      · rename_i hi; subst hi; cases h; exact ⟨yX4_endOf, cX4_endOf, 3, _, wsX4_endOf, _, rm_X4_endOf, (so_X4_endOf l), gX0_noteEnds_X4_endOf, rfl, rfl, rfl, rfl, ⟨by decide +kernel, by decide +kernel, by decide +kernel⟩, by decide⟩
      cases h
  · exact fun _ _ _ _ _ _ h => ab_no h
  · exact fun _ _ _ _ _ _ h => ab_no h
  · exact by decide +kernel
  · exact by decide +kernel
  · exact fun _ _ h => ab_no h
  · exact by decide
  · exact by decide
def M_X0_isWidest : ab_M := (cX0_isWidest, [], [], (fun i => if i = 52 then some (3, 1, 1, 0, Sp_X4_parentSpot) else none), (fun i => none), (fun i => none), [], [], (fun i => none), [], 2, 0)
def Sp_X0_isWidest : ab_TR := ab_Sem M_X0_isWidest 3
def rm_X0_isWidest : Room := { frames := 2, cells := 0, slots := 0, locals := 23 }
set_option maxRecDepth 20000 in
theorem so_X0_isWidest (l : Launch) : ab_Sound l yX0_isWidest wsX0_isWidest rm_X0_isWidest 1 Sp_X0_isWidest := by
  refine ab_sound (by decide +kernel) rfl rfl rfl ?_
  refine ⟨?_, ?_, ?_, ?_, ?_, ?_, ?_, ?_, ?_, ?_, ?_, ?_, ?_⟩
  · exact by decide
  · exact Or.inl rfl
  · exact by unfold ab_flok; decide +kernel
  · exact by unfold ab_plok ab_flok; decide +kernel
  · exact by decide +kernel
  · exact by
      intro idx rc n ri kc τ h
      simp only [M_X0_isWidest, ab_cv, ab_cs, ab_cn] at h
      split at h
      · rename_i hi; subst hi; cases h; exact ⟨yX4_parentSpot, cX4_parentSpot, 3, _, wsX4_parentSpot, _, rm_X4_parentSpot, (so_X4_parentSpot l), gX0_isWidest_X4_parentSpot, rfl, rfl, rfl, rfl, ⟨by decide +kernel, by decide +kernel, by decide +kernel⟩, by decide⟩
      cases h
  · exact fun _ _ _ _ _ _ h => ab_no h
  · exact fun _ _ _ _ _ _ h => ab_no h
  · exact by decide +kernel
  · exact by decide +kernel
  · exact fun _ _ h => ab_no h
  · exact by decide
  · exact by decide
def M_X0_least : ab_M := (cX0_least, [(16, 3, 1)], [], (fun i => none), (fun i => none), (fun i => none), [65], [], (fun i => none), [], 1, 0)
def Sp_X0_least : ab_TR := ab_Sem M_X0_least 5
def rm_X0_least : Room := { frames := 1, cells := 0, slots := 0, locals := 21 }
set_option maxRecDepth 20000 in
theorem so_X0_least (l : Launch) : ab_Sound l yX0_least wsX0_least rm_X0_least 1 Sp_X0_least := by
  refine ab_sound (by decide +kernel) rfl rfl rfl ?_
  refine ⟨?_, ?_, ?_, ?_, ?_, ?_, ?_, ?_, ?_, ?_, ?_, ?_, ?_⟩
  · exact by decide
  · exact Or.inl rfl
  · exact by unfold ab_flok; decide +kernel
  · exact by unfold ab_plok ab_flok; decide +kernel
  · exact by decide +kernel
  · exact fun _ _ _ _ _ _ h => ab_no h
  · exact fun _ _ _ _ _ _ h => ab_no h
  · exact fun _ _ _ _ _ _ h => ab_no h
  · exact by decide +kernel
  · exact by decide +kernel
  · exact fun _ _ h => ab_no h
  · exact by decide
  · exact by decide
def M_X0_compareParts : ab_M := (cX0_compareParts, [(19, 3, 2), (23, 3, 3), (16, 3, 1), (55, 4, 3), (58, 4, 0), (11, 3, 0)], [], (fun i => if i = 61 then some (0, 3, 1, 0, Sp_X0_least) else none), (fun i => none), (fun i => none), [], [], (fun i => none), [], 0, 0)
def Sp_X0_compareParts : ab_TR := ab_Sem M_X0_compareParts 10
def rm_X0_compareParts : Room := { frames := 2, cells := 0, slots := 0, locals := 45 }
set_option maxRecDepth 20000 in
theorem so_X0_compareParts (l : Launch) : ab_Sound l yX0_compareParts wsX0_compareParts rm_X0_compareParts 0 Sp_X0_compareParts := by
  refine ab_sound (by decide +kernel) rfl rfl rfl ?_
  refine ⟨?_, ?_, ?_, ?_, ?_, ?_, ?_, ?_, ?_, ?_, ?_, ?_, ?_⟩
  · exact by decide
  · exact Or.inl rfl
  · exact by unfold ab_flok; decide +kernel
  · exact by unfold ab_plok ab_flok; decide +kernel
  · exact by decide +kernel
  · exact by
      intro idx rc n ri kc τ h
      simp only [M_X0_compareParts, ab_cv, ab_cs, ab_cn] at h
      split at h
      · rename_i hi; subst hi; cases h; exact ⟨yX0_least, cX0_least, 5, _, wsX0_least, _, rm_X0_least, (so_X0_least l), gX0_compareParts_X0_least, rfl, rfl, rfl, rfl, ⟨by decide +kernel, by decide +kernel, by decide +kernel⟩, by decide⟩
      cases h
  · exact fun _ _ _ _ _ _ h => ab_no h
  · exact fun _ _ _ _ _ _ h => ab_no h
  · exact by decide +kernel
  · exact by decide +kernel
  · exact fun _ _ h => ab_no h
  · exact by decide
  · exact by decide
def M_X0_compareWithAll : ab_M := (cX0_compareWithAll, [(30, 4, 4), (23, 3, 3)], [], (fun i => if i = 44 then some (0, 4, 0, 0, Sp_X0_compareParts) else none), (fun i => if i = 36 then some (0, 3, 1, 0, Sp_X0_isWidest) else none), (fun i => none), [], [], (fun i => none), [], 0, 0)
def Sp_X0_compareWithAll : ab_TR := ab_Sem M_X0_compareWithAll 5
def rm_X0_compareWithAll : Room := { frames := 3, cells := 0, slots := 0, locals := 74 }
set_option maxRecDepth 20000 in
theorem so_X0_compareWithAll (l : Launch) : ab_Sound l yX0_compareWithAll wsX0_compareWithAll rm_X0_compareWithAll 0 Sp_X0_compareWithAll := by
  refine ab_sound (by decide +kernel) rfl rfl rfl ?_
  refine ⟨?_, ?_, ?_, ?_, ?_, ?_, ?_, ?_, ?_, ?_, ?_, ?_, ?_⟩
  · exact by decide
  · exact Or.inl rfl
  · exact by unfold ab_flok; decide +kernel
  · exact by unfold ab_plok ab_flok; decide +kernel
  · exact by decide +kernel
  · exact by
      intro idx rc n ri kc τ h
      simp only [M_X0_compareWithAll, ab_cv, ab_cs, ab_cn] at h
      split at h
      · rename_i hi; subst hi; cases h; exact ⟨yX0_compareParts, cX0_compareParts, 10, _, wsX0_compareParts, _, rm_X0_compareParts, (so_X0_compareParts l), gX0_compareWithAll_X0_compareParts, rfl, rfl, rfl, rfl, ⟨by decide +kernel, by decide +kernel, by decide +kernel⟩, by decide⟩
      cases h
  · exact by
      intro idx rc n ri kc τ h
      simp only [M_X0_compareWithAll, ab_cv, ab_cs, ab_cn] at h
      split at h
      · rename_i hi; subst hi; cases h; exact ⟨yX0_isWidest, cX0_isWidest, 3, _, wsX0_isWidest, _, rm_X0_isWidest, (so_X0_isWidest l), gX0_compareWithAll_X0_isWidest, rfl, rfl, rfl, ⟨by decide +kernel, by decide +kernel, by decide +kernel⟩, by decide⟩
      cases h
  · exact fun _ _ _ _ _ _ h => ab_no h
  · exact by decide +kernel
  · exact by decide +kernel
  · exact fun _ _ h => ab_no h
  · exact by decide
  · exact by decide
def M_X0_between : ab_M := (cX0_between, [(19, 3, 2), (23, 3, 3), (30, 4, 4), (11, 3, 0)], [], (fun i => if i = 40 then some (0, 3, 0, 0, Sp_X0_compareWithAll) else none), (fun i => if i = 26 then some (0, 2, 0, 0, Sp_X0_noteEnds) else if i = 36 then some (0, 3, 1, 0, Sp_X0_isWidest) else none), (fun i => none), [], [], (fun i => none), [], 1, 0)
def Sp_X0_between : ab_TR := ab_Sem M_X0_between 4
def rm_X0_between : Room := { frames := 4, cells := 0, slots := 0, locals := 98 }
set_option maxRecDepth 20000 in
theorem so_X0_between (l : Launch) : ab_Sound l yX0_between wsX0_between rm_X0_between 1 Sp_X0_between := by
  refine ab_sound (by decide +kernel) rfl rfl rfl ?_
  refine ⟨?_, ?_, ?_, ?_, ?_, ?_, ?_, ?_, ?_, ?_, ?_, ?_, ?_⟩
  · exact by decide
  · exact Or.inl rfl
  · exact by unfold ab_flok; decide +kernel
  · exact by unfold ab_plok ab_flok; decide +kernel
  · exact by decide +kernel
  · exact by
      intro idx rc n ri kc τ h
      simp only [M_X0_between, ab_cv, ab_cs, ab_cn] at h
      split at h
      · rename_i hi; subst hi; cases h; exact ⟨yX0_compareWithAll, cX0_compareWithAll, 5, _, wsX0_compareWithAll, _, rm_X0_compareWithAll, (so_X0_compareWithAll l), gX0_between_X0_compareWithAll, rfl, rfl, rfl, rfl, ⟨by decide +kernel, by decide +kernel, by decide +kernel⟩, by decide⟩
      cases h
  · exact by
      intro idx rc n ri kc τ h
      simp only [M_X0_between, ab_cv, ab_cs, ab_cn] at h
      split at h
      · rename_i hi; subst hi; cases h; exact ⟨yX0_noteEnds, cX0_noteEnds, 3, _, wsX0_noteEnds, _, rm_X0_noteEnds, (so_X0_noteEnds l), gX0_between_X0_noteEnds, rfl, rfl, rfl, ⟨by decide +kernel, by decide +kernel, by decide +kernel⟩, by decide⟩
      split at h
      · rename_i hi; subst hi; cases h; exact ⟨yX0_isWidest, cX0_isWidest, 3, _, wsX0_isWidest, _, rm_X0_isWidest, (so_X0_isWidest l), gX0_between_X0_isWidest, rfl, rfl, rfl, ⟨by decide +kernel, by decide +kernel, by decide +kernel⟩, by decide⟩
      cases h
  · exact fun _ _ _ _ _ _ h => ab_no h
  · exact by decide +kernel
  · exact by decide +kernel
  · exact fun _ _ h => ab_no h
  · exact by decide
  · exact by decide
def M_X4_copyFrom : ab_M := (cX4_copyFrom, [(9, 4, 0), (15, 4, 1), (18, 4, 2), (21, 4, 3), (36, 4, 4)], [(36, 4, 4)], (fun i => none), (fun i => none), (fun i => none), [], [40], (fun i => none), [], 0, 0)
def Sp_X4_copyFrom : ab_TR := ab_Sem M_X4_copyFrom 2
def rm_X4_copyFrom : Room := { frames := 1, cells := 0, slots := 0, locals := 26 }
set_option maxRecDepth 20000 in
theorem so_X4_copyFrom (l : Launch) : ab_Sound l yX4_copyFrom wsX4_copyFrom rm_X4_copyFrom 0 Sp_X4_copyFrom := by
  refine ab_sound (by decide +kernel) rfl rfl rfl ?_
  refine ⟨?_, ?_, ?_, ?_, ?_, ?_, ?_, ?_, ?_, ?_, ?_, ?_, ?_⟩
  · exact by decide
  · exact Or.inl rfl
  · exact by unfold ab_flok; decide +kernel
  · exact by unfold ab_plok ab_flok; decide +kernel
  · exact by decide +kernel
  · exact fun _ _ _ _ _ _ h => ab_no h
  · exact fun _ _ _ _ _ _ h => ab_no h
  · exact fun _ _ _ _ _ _ h => ab_no h
  · exact by decide +kernel
  · exact by decide +kernel
  · exact fun _ _ h => ab_no h
  · exact by decide
  · exact by decide
def M_X1_reachOf : ab_M := (cX1_reachOf, [(24, 1, 4)], [], (fun i => none), (fun i => none), (fun i => none), [], [], (fun i => none), [], 1, 0)
def Sp_X1_reachOf : ab_TR := ab_Sem M_X1_reachOf 2
def rm_X1_reachOf : Room := { frames := 1, cells := 0, slots := 0, locals := 1 }
set_option maxRecDepth 20000 in
theorem so_X1_reachOf (l : Launch) : ab_Sound l yX1_reachOf wsX1_reachOf rm_X1_reachOf 1 Sp_X1_reachOf := by
  refine ab_sound (by decide +kernel) rfl rfl rfl ?_
  refine ⟨?_, ?_, ?_, ?_, ?_, ?_, ?_, ?_, ?_, ?_, ?_, ?_, ?_⟩
  · exact by decide
  · exact Or.inl rfl
  · exact by unfold ab_flok; decide +kernel
  · exact by unfold ab_plok ab_flok; decide +kernel
  · exact by decide +kernel
  · exact fun _ _ _ _ _ _ h => ab_no h
  · exact fun _ _ _ _ _ _ h => ab_no h
  · exact fun _ _ _ _ _ _ h => ab_no h
  · exact by decide +kernel
  · exact by decide +kernel
  · exact fun _ _ h => ab_no h
  · exact by decide
  · exact by decide
def M_X1_record : ab_M := (cX1_record, [(28, 1, 3), (11, 1, 0), (17, 1, 1), (21, 1, 2), (24, 1, 4)], [(28, 1, 3)], (fun i => if i = 32 then some (3, 1, 0, 0, Sp_X4_copyFrom) else if i = 36 then some (1, 1, 1, 0, Sp_X1_reachOf) else none), (fun i => none), (fun i => none), [], [], (fun i => none), [], 1, 0)
def Sp_X1_record : ab_TR := ab_Sem M_X1_record 5
def rm_X1_record : Room := { frames := 2, cells := 0, slots := 0, locals := 47 }
set_option maxRecDepth 20000 in
theorem so_X1_record (l : Launch) : ab_Sound l yX1_record wsX1_record rm_X1_record 1 Sp_X1_record := by
  refine ab_sound (by decide +kernel) rfl rfl rfl ?_
  refine ⟨?_, ?_, ?_, ?_, ?_, ?_, ?_, ?_, ?_, ?_, ?_, ?_, ?_⟩
  · exact by decide
  · exact Or.inl rfl
  · exact by unfold ab_flok; decide +kernel
  · exact by unfold ab_plok ab_flok; decide +kernel
  · exact by decide +kernel
  · exact by
      intro idx rc n ri kc τ h
      simp only [M_X1_record, ab_cv, ab_cs, ab_cn] at h
      split at h
      · rename_i hi; subst hi; cases h; exact ⟨yX4_copyFrom, cX4_copyFrom, 2, _, wsX4_copyFrom, _, rm_X4_copyFrom, (so_X4_copyFrom l), gX1_record_X4_copyFrom, rfl, rfl, rfl, rfl, ⟨by decide +kernel, by decide +kernel, by decide +kernel⟩, by decide⟩
      split at h
      · rename_i hi; subst hi; cases h; exact ⟨yX1_reachOf, cX1_reachOf, 2, _, wsX1_reachOf, _, rm_X1_reachOf, (so_X1_reachOf l), gX1_record_X1_reachOf, rfl, rfl, rfl, rfl, ⟨by decide +kernel, by decide +kernel, by decide +kernel⟩, by decide⟩
      cases h
  · exact fun _ _ _ _ _ _ h => ab_no h
  · exact fun _ _ _ _ _ _ h => ab_no h
  · exact by decide +kernel
  · exact by decide +kernel
  · exact fun _ _ h => ab_no h
  · exact by decide
  · exact by decide
def M_X5_isIn : ab_M := (cX5_isIn, [], [], (fun i => none), (fun i => none), (fun i => none), [], [], (fun i => none), [], 2, 0)
def Sp_X5_isIn : ab_TR := ab_Sem M_X5_isIn 2
def rm_X5_isIn : Room := { frames := 1, cells := 0, slots := 0, locals := 1 }
set_option maxRecDepth 20000 in
theorem so_X5_isIn (l : Launch) : ab_Sound l yX5_isIn wsX5_isIn rm_X5_isIn 1 Sp_X5_isIn := by
  refine ab_sound (by decide +kernel) rfl rfl rfl ?_
  refine ⟨?_, ?_, ?_, ?_, ?_, ?_, ?_, ?_, ?_, ?_, ?_, ?_, ?_⟩
  · exact by decide
  · exact Or.inl rfl
  · exact by unfold ab_flok; decide +kernel
  · exact by unfold ab_plok ab_flok; decide +kernel
  · exact by decide +kernel
  · exact fun _ _ _ _ _ _ h => ab_no h
  · exact fun _ _ _ _ _ _ h => ab_no h
  · exact fun _ _ _ _ _ _ h => ab_no h
  · exact by decide +kernel
  · exact by decide +kernel
  · exact fun _ _ h => ab_no h
  · exact by decide
  · exact by decide
def M_X1_isReachedFromAnother : ab_M := (cX1_isReachedFromAnother, [(28, 1, 3), (24, 1, 4)], [], (fun i => none), (fun i => none), (fun i => if i = 40 then some (4, 2, 1, 0, Sp_X5_isIn) else none), [], [], (fun i => none), [], 2, 0)
def Sp_X1_isReachedFromAnother : ab_TR := ab_Sem M_X1_isReachedFromAnother 4
def rm_X1_isReachedFromAnother : Room := { frames := 2, cells := 0, slots := 0, locals := 22 }
set_option maxRecDepth 20000 in
theorem so_X1_isReachedFromAnother (l : Launch) : ab_Sound l yX1_isReachedFromAnother wsX1_isReachedFromAnother rm_X1_isReachedFromAnother 1 Sp_X1_isReachedFromAnother := by
  refine ab_sound (by decide +kernel) rfl rfl rfl ?_
  refine ⟨?_, ?_, ?_, ?_, ?_, ?_, ?_, ?_, ?_, ?_, ?_, ?_, ?_⟩
  · exact by decide
  · exact Or.inl rfl
  · exact by unfold ab_flok; decide +kernel
  · exact by unfold ab_plok ab_flok; decide +kernel
  · exact by decide +kernel
  · exact fun _ _ _ _ _ _ h => ab_no h
  · exact fun _ _ _ _ _ _ h => ab_no h
  · exact by
      intro idx rc n ri kc τ h
      simp only [M_X1_isReachedFromAnother, ab_cv, ab_cs, ab_cn] at h
      split at h
      · rename_i hi; subst hi; cases h; exact ⟨by decide +kernel, cX5_isIn, 2, _, wsX5_isIn, _, rm_X5_isIn, (so_X5_isIn l), gX1_isReachedFromAnother_X5_isIn_n40, by decide +kernel, by decide +kernel, rfl, rfl, rfl, ⟨by decide +kernel, by decide +kernel, by decide +kernel⟩, by decide⟩
      cases h
  · exact by decide +kernel
  · exact by decide +kernel
  · exact fun _ _ h => ab_no h
  · exact by decide
  · exact by decide
def M_X1_baseOf : ab_M := (cX1_baseOf, [(24, 1, 4), (28, 1, 3)], [], (fun i => if i = 44 then some (1, 2, 1, 0, Sp_X1_isReachedFromAnother) else none), (fun i => none), (fun i => if i = 40 then some (4, 2, 1, 0, Sp_X5_isIn) else none), [], [], (fun i => none), [], 1, 0)
def Sp_X1_baseOf : ab_TR := ab_Sem M_X1_baseOf 5
def rm_X1_baseOf : Room := { frames := 3, cells := 0, slots := 0, locals := 45 }
set_option maxRecDepth 20000 in
theorem so_X1_baseOf (l : Launch) : ab_Sound l yX1_baseOf wsX1_baseOf rm_X1_baseOf 1 Sp_X1_baseOf := by
  refine ab_sound (by decide +kernel) rfl rfl rfl ?_
  refine ⟨?_, ?_, ?_, ?_, ?_, ?_, ?_, ?_, ?_, ?_, ?_, ?_, ?_⟩
  · exact by decide
  · exact Or.inl rfl
  · exact by unfold ab_flok; decide +kernel
  · exact by unfold ab_plok ab_flok; decide +kernel
  · exact by decide +kernel
  · exact by
      intro idx rc n ri kc τ h
      simp only [M_X1_baseOf, ab_cv, ab_cs, ab_cn] at h
      split at h
      · rename_i hi; subst hi; cases h; exact ⟨yX1_isReachedFromAnother, cX1_isReachedFromAnother, 4, _, wsX1_isReachedFromAnother, _, rm_X1_isReachedFromAnother, (so_X1_isReachedFromAnother l), gX1_baseOf_X1_isReachedFromAnother, rfl, rfl, rfl, rfl, ⟨by decide +kernel, by decide +kernel, by decide +kernel⟩, by decide⟩
      cases h
  · exact fun _ _ _ _ _ _ h => ab_no h
  · exact by
      intro idx rc n ri kc τ h
      simp only [M_X1_baseOf, ab_cv, ab_cs, ab_cn] at h
      split at h
      · rename_i hi; subst hi; cases h; exact ⟨by decide +kernel, cX5_isIn, 2, _, wsX5_isIn, _, rm_X5_isIn, (so_X5_isIn l), gX1_baseOf_X5_isIn_n40, by decide +kernel, by decide +kernel, rfl, rfl, rfl, ⟨by decide +kernel, by decide +kernel, by decide +kernel⟩, by decide⟩
      cases h
  · exact by decide +kernel
  · exact by decide +kernel
  · exact fun _ _ h => ab_no h
  · exact by decide
  · exact by decide
def M_X4_clear : ab_M := (cX4_clear, [(18, 4, 2), (21, 4, 3)], [(36, 4, 4)], (fun i => none), (fun i => if i = 30 then some (0, 2, 0, 0, Sp_J7_fill_53178) else none), (fun i => none), [], [], (fun i => none), [], 0, 0)
def Sp_X4_clear : ab_TR := ab_Sem M_X4_clear 1
def rm_X4_clear : Room := { frames := 2, cells := 0, slots := 0, locals := 24 }
set_option maxRecDepth 20000 in
theorem so_X4_clear (l : Launch) : ab_Sound l yX4_clear wsX4_clear rm_X4_clear 0 Sp_X4_clear := by
  refine ab_sound (by decide +kernel) rfl rfl rfl ?_
  refine ⟨?_, ?_, ?_, ?_, ?_, ?_, ?_, ?_, ?_, ?_, ?_, ?_, ?_⟩
  · exact by decide
  · exact Or.inl rfl
  · exact by unfold ab_flok; decide +kernel
  · exact by unfold ab_plok ab_flok; decide +kernel
  · exact by decide +kernel
  · exact fun _ _ _ _ _ _ h => ab_no h
  · exact by
      intro idx rc n ri kc τ h
      simp only [M_X4_clear, ab_cv, ab_cs, ab_cn] at h
      split at h
      · rename_i hi; subst hi; cases h; exact ⟨yJ7_fill_53178, cJ7_fill_53178, 4, _, wsJ7_fill_53178, _, rm_J7_fill_53178, (so_J7_fill_53178 l), gX4_clear_J7_fill_53178, rfl, rfl, rfl, ⟨by decide +kernel, by decide +kernel, by decide +kernel⟩, by decide⟩
      cases h
  · exact fun _ _ _ _ _ _ h => ab_no h
  · exact by decide +kernel
  · exact by decide +kernel
  · exact fun _ _ h => ab_no h
  · exact by decide
  · exact by decide
def M_X4_holds : ab_M := (cX4_holds, [(21, 4, 3)], [], (fun i => none), (fun i => none), (fun i => none), [], [], (fun i => none), [], 2, 0)
def Sp_X4_holds : ab_TR := ab_Sem M_X4_holds 2
def rm_X4_holds : Room := { frames := 1, cells := 0, slots := 0, locals := 1 }
set_option maxRecDepth 20000 in
theorem so_X4_holds (l : Launch) : ab_Sound l yX4_holds wsX4_holds rm_X4_holds 1 Sp_X4_holds := by
  refine ab_sound (by decide +kernel) rfl rfl rfl ?_
  refine ⟨?_, ?_, ?_, ?_, ?_, ?_, ?_, ?_, ?_, ?_, ?_, ?_, ?_⟩
  · exact by decide
  · exact Or.inl rfl
  · exact by unfold ab_flok; decide +kernel
  · exact by unfold ab_plok ab_flok; decide +kernel
  · exact by decide +kernel
  · exact fun _ _ _ _ _ _ h => ab_no h
  · exact fun _ _ _ _ _ _ h => ab_no h
  · exact fun _ _ _ _ _ _ h => ab_no h
  · exact by decide +kernel
  · exact by decide +kernel
  · exact fun _ _ h => ab_no h
  · exact by decide
  · exact by decide
def M_X4_hasAsIn : ab_M := (cX4_hasAsIn, [(21, 4, 3), (18, 4, 2)], [], (fun i => none), (fun i => none), (fun i => none), [], [], (fun i => none), [], 2, 0)
def Sp_X4_hasAsIn : ab_TR := ab_Sem M_X4_hasAsIn 3
def rm_X4_hasAsIn : Room := { frames := 1, cells := 0, slots := 0, locals := 1 }
set_option maxRecDepth 20000 in
theorem so_X4_hasAsIn (l : Launch) : ab_Sound l yX4_hasAsIn wsX4_hasAsIn rm_X4_hasAsIn 1 Sp_X4_hasAsIn := by
  refine ab_sound (by decide +kernel) rfl rfl rfl ?_
  refine ⟨?_, ?_, ?_, ?_, ?_, ?_, ?_, ?_, ?_, ?_, ?_, ?_, ?_⟩
  · exact by decide
  · exact Or.inl rfl
  · exact by unfold ab_flok; decide +kernel
  · exact by unfold ab_plok ab_flok; decide +kernel
  · exact by decide +kernel
  · exact fun _ _ _ _ _ _ h => ab_no h
  · exact fun _ _ _ _ _ _ h => ab_no h
  · exact fun _ _ _ _ _ _ h => ab_no h
  · exact by decide +kernel
  · exact by decide +kernel
  · exact fun _ _ h => ab_no h
  · exact by decide
  · exact by decide
def M_X2_name : ab_M := (cX2_name, [(18, 2, 1), (22, 2, 2)], [(22, 2, 2)], (fun i => none), (fun i => none), (fun i => none), [], [], (fun i => none), [], 0, 0)
def Sp_X2_name : ab_TR := ab_Sem M_X2_name 3
def rm_X2_name : Room := { frames := 1, cells := 0, slots := 0, locals := 1 }
set_option maxRecDepth 20000 in
theorem so_X2_name (l : Launch) : ab_Sound l yX2_name wsX2_name rm_X2_name 0 Sp_X2_name := by
  refine ab_sound (by decide +kernel) rfl rfl rfl ?_
  refine ⟨?_, ?_, ?_, ?_, ?_, ?_, ?_, ?_, ?_, ?_, ?_, ?_, ?_⟩
  · exact by decide
  · exact Or.inl rfl
  · exact by unfold ab_flok; decide +kernel
  · exact by unfold ab_plok ab_flok; decide +kernel
  · exact by decide +kernel
  · exact fun _ _ _ _ _ _ h => ab_no h
  · exact fun _ _ _ _ _ _ h => ab_no h
  · exact fun _ _ _ _ _ _ h => ab_no h
  · exact by decide +kernel
  · exact by decide +kernel
  · exact fun _ _ h => ab_no h
  · exact by decide
  · exact by decide
def M_X2_agreed : ab_M := (cX2_agreed, [], [], (fun i => none), (fun i => none), (fun i => none), [], [], (fun i => none), [], 1, 0)
def Sp_X2_agreed : ab_TR := ab_Sem M_X2_agreed 3
def rm_X2_agreed : Room := { frames := 1, cells := 0, slots := 0, locals := 1 }
set_option maxRecDepth 20000 in
theorem so_X2_agreed (l : Launch) : ab_Sound l yX2_agreed wsX2_agreed rm_X2_agreed 1 Sp_X2_agreed := by
  refine ab_sound (by decide +kernel) rfl rfl rfl ?_
  refine ⟨?_, ?_, ?_, ?_, ?_, ?_, ?_, ?_, ?_, ?_, ?_, ?_, ?_⟩
  · exact by decide
  · exact Or.inl rfl
  · exact by unfold ab_flok; decide +kernel
  · exact by unfold ab_plok ab_flok; decide +kernel
  · exact by decide +kernel
  · exact fun _ _ _ _ _ _ h => ab_no h
  · exact fun _ _ _ _ _ _ h => ab_no h
  · exact fun _ _ _ _ _ _ h => ab_no h
  · exact by decide +kernel
  · exact by decide +kernel
  · exact fun _ _ h => ab_no h
  · exact by decide
  · exact by decide
def M_X2_settle : ab_M := (cX2_settle, [(55, 4, 3), (62, 4, 2), (12, 2, 0)], [], (fun i => if i = 29 then some (3, 1, 1, 0, Sp_X4_holds) else if i = 47 then some (3, 2, 1, 0, Sp_X4_hasAsIn) else if i = 51 then some (2, 2, 0, 0, Sp_X2_name) else none), (fun i => if i = 58 then some (2, 3, 1, 0, Sp_X2_agreed) else none), (fun i => none), [], [], (fun i => none), [], 0, 0)
def Sp_X2_settle : ab_TR := ab_Sem M_X2_settle 8
def rm_X2_settle : Room := { frames := 2, cells := 0, slots := 0, locals := 23 }
set_option maxRecDepth 20000 in
theorem so_X2_settle (l : Launch) : ab_Sound l yX2_settle wsX2_settle rm_X2_settle 0 Sp_X2_settle := by
  refine ab_sound (by decide +kernel) rfl rfl rfl ?_
  refine ⟨?_, ?_, ?_, ?_, ?_, ?_, ?_, ?_, ?_, ?_, ?_, ?_, ?_⟩
  · exact by decide
  · exact Or.inl rfl
  · exact by unfold ab_flok; decide +kernel
  · exact by unfold ab_plok ab_flok; decide +kernel
  · exact by decide +kernel
  · exact by
      intro idx rc n ri kc τ h
      simp only [M_X2_settle, ab_cv, ab_cs, ab_cn] at h
      split at h
      · rename_i hi; subst hi; cases h; exact ⟨yX4_holds, cX4_holds, 2, _, wsX4_holds, _, rm_X4_holds, (so_X4_holds l), gX2_settle_X4_holds, rfl, rfl, rfl, rfl, ⟨by decide +kernel, by decide +kernel, by decide +kernel⟩, by decide⟩
      split at h
      · rename_i hi; subst hi; cases h; exact ⟨yX4_hasAsIn, cX4_hasAsIn, 3, _, wsX4_hasAsIn, _, rm_X4_hasAsIn, (so_X4_hasAsIn l), gX2_settle_X4_hasAsIn, rfl, rfl, rfl, rfl, ⟨by decide +kernel, by decide +kernel, by decide +kernel⟩, by decide⟩
      split at h
      · rename_i hi; subst hi; cases h; exact ⟨yX2_name, cX2_name, 3, _, wsX2_name, _, rm_X2_name, (so_X2_name l), gX2_settle_X2_name, rfl, rfl, rfl, rfl, ⟨by decide +kernel, by decide +kernel, by decide +kernel⟩, by decide⟩
      cases h
  · exact by
      intro idx rc n ri kc τ h
      simp only [M_X2_settle, ab_cv, ab_cs, ab_cn] at h
      split at h
      · rename_i hi; subst hi; cases h; exact ⟨yX2_agreed, cX2_agreed, 3, _, wsX2_agreed, _, rm_X2_agreed, (so_X2_agreed l), gX2_settle_X2_agreed, rfl, rfl, rfl, ⟨by decide +kernel, by decide +kernel, by decide +kernel⟩, by decide⟩
      cases h
  · exact fun _ _ _ _ _ _ h => ab_no h
  · exact by decide +kernel
  · exact by decide +kernel
  · exact fun _ _ h => ab_no h
  · exact by decide
  · exact by decide
def M_X2_nameThoseWithoutParent : ab_M := (cX2_nameThoseWithoutParent, [(12, 2, 0), (62, 4, 2)], [], (fun i => if i = 29 then some (3, 1, 1, 0, Sp_X4_holds) else if i = 51 then some (2, 2, 0, 0, Sp_X2_name) else none), (fun i => none), (fun i => none), [], [], (fun i => none), [], 0, 0)
def Sp_X2_nameThoseWithoutParent : ab_TR := ab_Sem M_X2_nameThoseWithoutParent 2
def rm_X2_nameThoseWithoutParent : Room := { frames := 2, cells := 0, slots := 0, locals := 23 }
set_option maxRecDepth 20000 in
theorem so_X2_nameThoseWithoutParent (l : Launch) : ab_Sound l yX2_nameThoseWithoutParent wsX2_nameThoseWithoutParent rm_X2_nameThoseWithoutParent 0 Sp_X2_nameThoseWithoutParent := by
  refine ab_sound (by decide +kernel) rfl rfl rfl ?_
  refine ⟨?_, ?_, ?_, ?_, ?_, ?_, ?_, ?_, ?_, ?_, ?_, ?_, ?_⟩
  · exact by decide
  · exact Or.inl rfl
  · exact by unfold ab_flok; decide +kernel
  · exact by unfold ab_plok ab_flok; decide +kernel
  · exact by decide +kernel
  · exact by
      intro idx rc n ri kc τ h
      simp only [M_X2_nameThoseWithoutParent, ab_cv, ab_cs, ab_cn] at h
      split at h
      · rename_i hi; subst hi; cases h; exact ⟨yX4_holds, cX4_holds, 2, _, wsX4_holds, _, rm_X4_holds, (so_X4_holds l), gX2_nameThoseWithoutParent_X4_holds, rfl, rfl, rfl, rfl, ⟨by decide +kernel, by decide +kernel, by decide +kernel⟩, by decide⟩
      split at h
      · rename_i hi; subst hi; cases h; exact ⟨yX2_name, cX2_name, 3, _, wsX2_name, _, rm_X2_name, (so_X2_name l), gX2_nameThoseWithoutParent_X2_name, rfl, rfl, rfl, rfl, ⟨by decide +kernel, by decide +kernel, by decide +kernel⟩, by decide⟩
      cases h
  · exact fun _ _ _ _ _ _ h => ab_no h
  · exact fun _ _ _ _ _ _ h => ab_no h
  · exact by decide +kernel
  · exact by decide +kernel
  · exact fun _ _ h => ab_no h
  · exact by decide
  · exact by decide
def M_X2_comesToRoot : ab_M := (cX2_comesToRoot, [(12, 2, 0), (62, 4, 2)], [], (fun i => none), (fun i => none), (fun i => none), [], [], (fun i => none), [], 2, 0)
def Sp_X2_comesToRoot : ab_TR := ab_Sem M_X2_comesToRoot 4
def rm_X2_comesToRoot : Room := { frames := 1, cells := 0, slots := 0, locals := 1 }
set_option maxRecDepth 20000 in
theorem so_X2_comesToRoot (l : Launch) : ab_Sound l yX2_comesToRoot wsX2_comesToRoot rm_X2_comesToRoot 1 Sp_X2_comesToRoot := by
  refine ab_sound (by decide +kernel) rfl rfl rfl ?_
  refine ⟨?_, ?_, ?_, ?_, ?_, ?_, ?_, ?_, ?_, ?_, ?_, ?_, ?_⟩
  · exact by decide
  · exact Or.inl rfl
  · exact by unfold ab_flok; decide +kernel
  · exact by unfold ab_plok ab_flok; decide +kernel
  · exact by decide +kernel
  · exact fun _ _ _ _ _ _ h => ab_no h
  · exact fun _ _ _ _ _ _ h => ab_no h
  · exact fun _ _ _ _ _ _ h => ab_no h
  · exact by decide +kernel
  · exact by decide +kernel
  · exact fun _ _ h => ab_no h
  · exact by decide
  · exact by decide
def M_X2_nameThoseCutOff : ab_M := (cX2_nameThoseCutOff, [(12, 2, 0)], [], (fun i => if i = 29 then some (3, 1, 1, 0, Sp_X4_holds) else if i = 65 then some (2, 1, 1, 0, Sp_X2_comesToRoot) else if i = 51 then some (2, 2, 0, 0, Sp_X2_name) else none), (fun i => none), (fun i => none), [], [], (fun i => none), [], 0, 0)
def Sp_X2_nameThoseCutOff : ab_TR := ab_Sem M_X2_nameThoseCutOff 2
def rm_X2_nameThoseCutOff : Room := { frames := 2, cells := 0, slots := 0, locals := 24 }
set_option maxRecDepth 20000 in
theorem so_X2_nameThoseCutOff (l : Launch) : ab_Sound l yX2_nameThoseCutOff wsX2_nameThoseCutOff rm_X2_nameThoseCutOff 0 Sp_X2_nameThoseCutOff := by
  refine ab_sound (by decide +kernel) rfl rfl rfl ?_
  refine ⟨?_, ?_, ?_, ?_, ?_, ?_, ?_, ?_, ?_, ?_, ?_, ?_, ?_⟩
  · exact by decide
  · exact Or.inl rfl
  · exact by unfold ab_flok; decide +kernel
  · exact by unfold ab_plok ab_flok; decide +kernel
  · exact by decide +kernel
  · exact by
      intro idx rc n ri kc τ h
      simp only [M_X2_nameThoseCutOff, ab_cv, ab_cs, ab_cn] at h
      split at h
      · rename_i hi; subst hi; cases h; exact ⟨yX4_holds, cX4_holds, 2, _, wsX4_holds, _, rm_X4_holds, (so_X4_holds l), gX2_nameThoseCutOff_X4_holds, rfl, rfl, rfl, rfl, ⟨by decide +kernel, by decide +kernel, by decide +kernel⟩, by decide⟩
      split at h
      · rename_i hi; subst hi; cases h; exact ⟨yX2_comesToRoot, cX2_comesToRoot, 4, _, wsX2_comesToRoot, _, rm_X2_comesToRoot, (so_X2_comesToRoot l), gX2_nameThoseCutOff_X2_comesToRoot, rfl, rfl, rfl, rfl, ⟨by decide +kernel, by decide +kernel, by decide +kernel⟩, by decide⟩
      split at h
      · rename_i hi; subst hi; cases h; exact ⟨yX2_name, cX2_name, 3, _, wsX2_name, _, rm_X2_name, (so_X2_name l), gX2_nameThoseCutOff_X2_name, rfl, rfl, rfl, rfl, ⟨by decide +kernel, by decide +kernel, by decide +kernel⟩, by decide⟩
      cases h
  · exact fun _ _ _ _ _ _ h => ab_no h
  · exact fun _ _ _ _ _ _ h => ab_no h
  · exact by decide +kernel
  · exact by decide +kernel
  · exact fun _ _ h => ab_no h
  · exact by decide
  · exact by decide
def M_X4_renumberFrom : ab_M := (cX4_renumberFrom, [(36, 4, 4), (15, 4, 1), (9, 4, 0)], [], (fun i => none), (fun i => none), (fun i => none), [], [], (fun i => none), [], 0, 0)
def Sp_X4_renumberFrom : ab_TR := ab_Sem M_X4_renumberFrom 3
def rm_X4_renumberFrom : Room := { frames := 1, cells := 0, slots := 0, locals := 1 }
set_option maxRecDepth 20000 in
theorem so_X4_renumberFrom (l : Launch) : ab_Sound l yX4_renumberFrom wsX4_renumberFrom rm_X4_renumberFrom 0 Sp_X4_renumberFrom := by
  refine ab_sound (by decide +kernel) rfl rfl rfl ?_
  refine ⟨?_, ?_, ?_, ?_, ?_, ?_, ?_, ?_, ?_, ?_, ?_, ?_, ?_⟩
  · exact by decide
  · exact Or.inl rfl
  · exact by unfold ab_flok; decide +kernel
  · exact by unfold ab_plok ab_flok; decide +kernel
  · exact by decide +kernel
  · exact fun _ _ _ _ _ _ h => ab_no h
  · exact fun _ _ _ _ _ _ h => ab_no h
  · exact fun _ _ _ _ _ _ h => ab_no h
  · exact by decide +kernel
  · exact by decide +kernel
  · exact fun _ _ h => ab_no h
  · exact by decide
  · exact by decide
def M_X4_putCarried : ab_M := (cX4_putCarried, [(9, 4, 0), (36, 4, 4), (24, 4, 5)], [(36, 4, 4)], (fun i => if i = 71 then some (3, 1, 0, 0, Sp_X4_renumberFrom) else none), (fun i => none), (fun i => none), [], [40], (fun i => none), [], 0, 0)
def Sp_X4_putCarried : ab_TR := ab_Sem M_X4_putCarried 3
def rm_X4_putCarried : Room := { frames := 2, cells := 0, slots := 0, locals := 26 }
set_option maxRecDepth 20000 in
theorem so_X4_putCarried (l : Launch) : ab_Sound l yX4_putCarried wsX4_putCarried rm_X4_putCarried 0 Sp_X4_putCarried := by
  refine ab_sound (by decide +kernel) rfl rfl rfl ?_
  refine ⟨?_, ?_, ?_, ?_, ?_, ?_, ?_, ?_, ?_, ?_, ?_, ?_, ?_⟩
  · exact by decide
  · exact Or.inl rfl
  · exact by unfold ab_flok; decide +kernel
  · exact by unfold ab_plok ab_flok; decide +kernel
  · exact by decide +kernel
  · exact by
      intro idx rc n ri kc τ h
      simp only [M_X4_putCarried, ab_cv, ab_cs, ab_cn] at h
      split at h
      · rename_i hi; subst hi; cases h; exact ⟨yX4_renumberFrom, cX4_renumberFrom, 3, _, wsX4_renumberFrom, _, rm_X4_renumberFrom, (so_X4_renumberFrom l), gX4_putCarried_X4_renumberFrom, rfl, rfl, rfl, rfl, ⟨by decide +kernel, by decide +kernel, by decide +kernel⟩, by decide⟩
      cases h
  · exact fun _ _ _ _ _ _ h => ab_no h
  · exact fun _ _ _ _ _ _ h => ab_no h
  · exact by decide +kernel
  · exact by decide +kernel
  · exact fun _ _ h => ab_no h
  · exact by decide
  · exact by decide
def M_X4_putInto : ab_M := (cX4_putInto, [(24, 4, 5)], [], (fun i => if i = 68 then some (3, 2, 0, 0, Sp_X4_putCarried) else none), (fun i => none), (fun i => none), [], [], (fun i => none), [], 0, 0)
def Sp_X4_putInto : ab_TR := ab_Sem M_X4_putInto 3
def rm_X4_putInto : Room := { frames := 3, cells := 0, slots := 0, locals := 48 }
set_option maxRecDepth 20000 in
theorem so_X4_putInto (l : Launch) : ab_Sound l yX4_putInto wsX4_putInto rm_X4_putInto 0 Sp_X4_putInto := by
  refine ab_sound (by decide +kernel) rfl rfl rfl ?_
  refine ⟨?_, ?_, ?_, ?_, ?_, ?_, ?_, ?_, ?_, ?_, ?_, ?_, ?_⟩
  · exact by decide
  · exact Or.inl rfl
  · exact by unfold ab_flok; decide +kernel
  · exact by unfold ab_plok ab_flok; decide +kernel
  · exact by decide +kernel
  · exact by
      intro idx rc n ri kc τ h
      simp only [M_X4_putInto, ab_cv, ab_cs, ab_cn] at h
      split at h
      · rename_i hi; subst hi; cases h; exact ⟨yX4_putCarried, cX4_putCarried, 3, _, wsX4_putCarried, _, rm_X4_putCarried, (so_X4_putCarried l), gX4_putInto_X4_putCarried, rfl, rfl, rfl, rfl, ⟨by decide +kernel, by decide +kernel, by decide +kernel⟩, by decide⟩
      cases h
  · exact fun _ _ _ _ _ _ h => ab_no h
  · exact fun _ _ _ _ _ _ h => ab_no h
  · exact by decide +kernel
  · exact by decide +kernel
  · exact fun _ _ h => ab_no h
  · exact by decide
  · exact by decide
def M_X2_isChildNowAsIn : ab_M := (cX2_isChildNowAsIn, [(62, 4, 2), (12, 2, 0)], [], (fun i => none), (fun i => none), (fun i => none), [], [], (fun i => none), [], 2, 0)
def Sp_X2_isChildNowAsIn : ab_TR := ab_Sem M_X2_isChildNowAsIn 4
def rm_X2_isChildNowAsIn : Room := { frames := 1, cells := 0, slots := 0, locals := 1 }
set_option maxRecDepth 20000 in
theorem so_X2_isChildNowAsIn (l : Launch) : ab_Sound l yX2_isChildNowAsIn wsX2_isChildNowAsIn rm_X2_isChildNowAsIn 1 Sp_X2_isChildNowAsIn := by
  refine ab_sound (by decide +kernel) rfl rfl rfl ?_
  refine ⟨?_, ?_, ?_, ?_, ?_, ?_, ?_, ?_, ?_, ?_, ?_, ?_, ?_⟩
  · exact by decide
  · exact Or.inl rfl
  · exact by unfold ab_flok; decide +kernel
  · exact by unfold ab_plok ab_flok; decide +kernel
  · exact by decide +kernel
  · exact fun _ _ _ _ _ _ h => ab_no h
  · exact fun _ _ _ _ _ _ h => ab_no h
  · exact fun _ _ _ _ _ _ h => ab_no h
  · exact by decide +kernel
  · exact by decide +kernel
  · exact fun _ _ h => ab_no h
  · exact by decide
  · exact by decide
def M_X2_arrangeChildren : ab_M := (cX2_arrangeChildren, [(12, 2, 0), (78, 4, 0), (71, 4, 4), (85, 4, 1)], [], (fun i => if i = 81 then some (2, 3, 1, 0, Sp_X2_isChildNowAsIn) else if i = 68 then some (3, 2, 0, 0, Sp_X4_putInto) else none), (fun i => none), (fun i => none), [], [], (fun i => none), [], 0, 0)
def Sp_X2_arrangeChildren : ab_TR := ab_Sem M_X2_arrangeChildren 8
def rm_X2_arrangeChildren : Room := { frames := 4, cells := 0, slots := 0, locals := 70 }
set_option maxRecDepth 20000 in
theorem so_X2_arrangeChildren (l : Launch) : ab_Sound l yX2_arrangeChildren wsX2_arrangeChildren rm_X2_arrangeChildren 0 Sp_X2_arrangeChildren := by
  refine ab_sound (by decide +kernel) rfl rfl rfl ?_
  refine ⟨?_, ?_, ?_, ?_, ?_, ?_, ?_, ?_, ?_, ?_, ?_, ?_, ?_⟩
  · exact by decide
  · exact Or.inl rfl
  · exact by unfold ab_flok; decide +kernel
  · exact by unfold ab_plok ab_flok; decide +kernel
  · exact by decide +kernel
  · exact by
      intro idx rc n ri kc τ h
      simp only [M_X2_arrangeChildren, ab_cv, ab_cs, ab_cn] at h
      split at h
      · rename_i hi; subst hi; cases h; exact ⟨yX2_isChildNowAsIn, cX2_isChildNowAsIn, 4, _, wsX2_isChildNowAsIn, _, rm_X2_isChildNowAsIn, (so_X2_isChildNowAsIn l), gX2_arrangeChildren_X2_isChildNowAsIn, rfl, rfl, rfl, rfl, ⟨by decide +kernel, by decide +kernel, by decide +kernel⟩, by decide⟩
      split at h
      · rename_i hi; subst hi; cases h; exact ⟨yX4_putInto, cX4_putInto, 3, _, wsX4_putInto, _, rm_X4_putInto, (so_X4_putInto l), gX2_arrangeChildren_X4_putInto, rfl, rfl, rfl, rfl, ⟨by decide +kernel, by decide +kernel, by decide +kernel⟩, by decide⟩
      cases h
  · exact fun _ _ _ _ _ _ h => ab_no h
  · exact fun _ _ _ _ _ _ h => ab_no h
  · exact by decide +kernel
  · exact by decide +kernel
  · exact fun _ _ h => ab_no h
  · exact by decide
  · exact by decide
def M_X2_arrange : ab_M := (cX2_arrange, [(12, 2, 0), (71, 4, 4)], [], (fun i => if i = 68 then some (3, 2, 0, 0, Sp_X4_putInto) else if i = 74 then some (2, 3, 0, 0, Sp_X2_arrangeChildren) else none), (fun i => none), (fun i => none), [], [], (fun i => none), [], 0, 0)
def Sp_X2_arrange : ab_TR := ab_Sem M_X2_arrange 4
def rm_X2_arrange : Room := { frames := 5, cells := 0, slots := 0, locals := 97 }
set_option maxRecDepth 20000 in
theorem so_X2_arrange (l : Launch) : ab_Sound l yX2_arrange wsX2_arrange rm_X2_arrange 0 Sp_X2_arrange := by
  refine ab_sound (by decide +kernel) rfl rfl rfl ?_
  refine ⟨?_, ?_, ?_, ?_, ?_, ?_, ?_, ?_, ?_, ?_, ?_, ?_, ?_⟩
  · exact by decide
  · exact Or.inl rfl
  · exact by unfold ab_flok; decide +kernel
  · exact by unfold ab_plok ab_flok; decide +kernel
  · exact by decide +kernel
  · exact by
      intro idx rc n ri kc τ h
      simp only [M_X2_arrange, ab_cv, ab_cs, ab_cn] at h
      split at h
      · rename_i hi; subst hi; cases h; exact ⟨yX4_putInto, cX4_putInto, 3, _, wsX4_putInto, _, rm_X4_putInto, (so_X4_putInto l), gX2_arrange_X4_putInto, rfl, rfl, rfl, rfl, ⟨by decide +kernel, by decide +kernel, by decide +kernel⟩, by decide⟩
      split at h
      · rename_i hi; subst hi; cases h; exact ⟨yX2_arrangeChildren, cX2_arrangeChildren, 8, _, wsX2_arrangeChildren, _, rm_X2_arrangeChildren, (so_X2_arrangeChildren l), gX2_arrange_X2_arrangeChildren, rfl, rfl, rfl, rfl, ⟨by decide +kernel, by decide +kernel, by decide +kernel⟩, by decide⟩
      cases h
  · exact fun _ _ _ _ _ _ h => ab_no h
  · exact fun _ _ _ _ _ _ h => ab_no h
  · exact by decide +kernel
  · exact by decide +kernel
  · exact fun _ _ h => ab_no h
  · exact by decide
  · exact by decide
def M_X2_run : ab_M := (cX2_run, [(12, 2, 0), (22, 2, 2)], [(22, 2, 2)], (fun i => if i = 26 then some (3, 0, 0, 0, Sp_X4_clear) else if i = 29 then some (3, 1, 1, 0, Sp_X4_holds) else if i = 33 then some (2, 4, 0, 0, Sp_X2_settle) else if i = 37 then some (2, 0, 0, 0, Sp_X2_nameThoseWithoutParent) else if i = 40 then some (2, 0, 0, 0, Sp_X2_nameThoseCutOff) else if i = 43 then some (2, 2, 0, 0, Sp_X2_arrange) else none), (fun i => none), (fun i => none), [], [], (fun i => none), [], 1, 0)
def Sp_X2_run : ab_TR := ab_Sem M_X2_run 5
def rm_X2_run : Room := { frames := 6, cells := 0, slots := 0, locals := 120 }
set_option maxRecDepth 20000 in
theorem so_X2_run (l : Launch) : ab_Sound l yX2_run wsX2_run rm_X2_run 1 Sp_X2_run := by
  refine ab_sound (by decide +kernel) rfl rfl rfl ?_
  refine ⟨?_, ?_, ?_, ?_, ?_, ?_, ?_, ?_, ?_, ?_, ?_, ?_, ?_⟩
  · exact by decide
  · exact Or.inl rfl
  · exact by unfold ab_flok; decide +kernel
  · exact by unfold ab_plok ab_flok; decide +kernel
  · exact by decide +kernel
  · exact by
      intro idx rc n ri kc τ h
      simp only [M_X2_run, ab_cv, ab_cs, ab_cn] at h
      split at h
      · rename_i hi; subst hi; cases h; exact ⟨yX4_clear, cX4_clear, 1, _, wsX4_clear, _, rm_X4_clear, (so_X4_clear l), gX2_run_X4_clear, rfl, rfl, rfl, rfl, ⟨by decide +kernel, by decide +kernel, by decide +kernel⟩, by decide⟩
      split at h
      · rename_i hi; subst hi; cases h; exact ⟨yX4_holds, cX4_holds, 2, _, wsX4_holds, _, rm_X4_holds, (so_X4_holds l), gX2_run_X4_holds, rfl, rfl, rfl, rfl, ⟨by decide +kernel, by decide +kernel, by decide +kernel⟩, by decide⟩
      split at h
      · rename_i hi; subst hi; cases h; exact ⟨yX2_settle, cX2_settle, 8, _, wsX2_settle, _, rm_X2_settle, (so_X2_settle l), gX2_run_X2_settle, rfl, rfl, rfl, rfl, ⟨by decide +kernel, by decide +kernel, by decide +kernel⟩, by decide⟩
      split at h
      · rename_i hi; subst hi; cases h; exact ⟨yX2_nameThoseWithoutParent, cX2_nameThoseWithoutParent, 2, _, wsX2_nameThoseWithoutParent, _, rm_X2_nameThoseWithoutParent, (so_X2_nameThoseWithoutParent l), gX2_run_X2_nameThoseWithoutParent, rfl, rfl, rfl, rfl, ⟨by decide +kernel, by decide +kernel, by decide +kernel⟩, by decide⟩
      split at h
      · rename_i hi; subst hi; cases h; exact ⟨yX2_nameThoseCutOff, cX2_nameThoseCutOff, 2, _, wsX2_nameThoseCutOff, _, rm_X2_nameThoseCutOff, (so_X2_nameThoseCutOff l), gX2_run_X2_nameThoseCutOff, rfl, rfl, rfl, rfl, ⟨by decide +kernel, by decide +kernel, by decide +kernel⟩, by decide⟩
      split at h
      · rename_i hi; subst hi; cases h; exact ⟨yX2_arrange, cX2_arrange, 4, _, wsX2_arrange, _, rm_X2_arrange, (so_X2_arrange l), gX2_run_X2_arrange, rfl, rfl, rfl, rfl, ⟨by decide +kernel, by decide +kernel, by decide +kernel⟩, by decide⟩
      cases h
  · exact fun _ _ _ _ _ _ h => ab_no h
  · exact fun _ _ _ _ _ _ h => ab_no h
  · exact by decide +kernel
  · exact by decide +kernel
  · exact fun _ _ h => ab_no h
  · exact by decide
  · exact by decide
def M_X3_childrenOf : ab_M := (cX3_childrenOf, [(28, 4, 4), (34, 4, 0), (38, 4, 2)], [], (fun i => none), (fun i => none), (fun i => if i = 41 then some (4, 2, 1, 0, Sp_X5_isIn) else none), [], [], (fun i => none), [], 1, 0)
def Sp_X3_childrenOf : ab_TR := ab_Sem M_X3_childrenOf 5
def rm_X3_childrenOf : Room := { frames := 2, cells := 0, slots := 0, locals := 22 }
set_option maxRecDepth 20000 in
theorem so_X3_childrenOf (l : Launch) : ab_Sound l yX3_childrenOf wsX3_childrenOf rm_X3_childrenOf 1 Sp_X3_childrenOf := by
  refine ab_sound (by decide +kernel) rfl rfl rfl ?_
  refine ⟨?_, ?_, ?_, ?_, ?_, ?_, ?_, ?_, ?_, ?_, ?_, ?_, ?_⟩
  · exact by decide
  · exact Or.inl rfl
  · exact by unfold ab_flok; decide +kernel
  · exact by unfold ab_plok ab_flok; decide +kernel
  · exact by decide +kernel
  · exact fun _ _ _ _ _ _ h => ab_no h
  · exact fun _ _ _ _ _ _ h => ab_no h
  · exact by
      intro idx rc n ri kc τ h
      simp only [M_X3_childrenOf, ab_cv, ab_cs, ab_cn] at h
      split at h
      · rename_i hi; subst hi; cases h; exact ⟨by decide +kernel, cX5_isIn, 2, _, wsX5_isIn, _, rm_X5_isIn, (so_X5_isIn l), gX3_childrenOf_X5_isIn_n41, by decide +kernel, by decide +kernel, rfl, rfl, rfl, ⟨by decide +kernel, by decide +kernel, by decide +kernel⟩, by decide⟩
      cases h
  · exact by decide +kernel
  · exact by decide +kernel
  · exact fun _ _ h => ab_no h
  · exact by decide
  · exact by decide
def M_X3_below : ab_M := (cX3_below, [(28, 4, 4), (34, 4, 0), (38, 4, 2)], [], (fun i => none), (fun i => none), (fun i => if i = 41 then some (4, 2, 1, 0, Sp_X5_isIn) else none), [], [], (fun i => none), [], 1, 0)
def Sp_X3_below : ab_TR := ab_Sem M_X3_below 5
def rm_X3_below : Room := { frames := 2, cells := 0, slots := 0, locals := 22 }
set_option maxRecDepth 20000 in
theorem so_X3_below (l : Launch) : ab_Sound l yX3_below wsX3_below rm_X3_below 1 Sp_X3_below := by
  refine ab_sound (by decide +kernel) rfl rfl rfl ?_
  refine ⟨?_, ?_, ?_, ?_, ?_, ?_, ?_, ?_, ?_, ?_, ?_, ?_, ?_⟩
  · exact by decide
  · exact Or.inl rfl
  · exact by unfold ab_flok; decide +kernel
  · exact by unfold ab_plok ab_flok; decide +kernel
  · exact by decide +kernel
  · exact fun _ _ _ _ _ _ h => ab_no h
  · exact fun _ _ _ _ _ _ h => ab_no h
  · exact by
      intro idx rc n ri kc τ h
      simp only [M_X3_below, ab_cv, ab_cs, ab_cn] at h
      split at h
      · rename_i hi; subst hi; cases h; exact ⟨by decide +kernel, cX5_isIn, 2, _, wsX5_isIn, _, rm_X5_isIn, (so_X5_isIn l), gX3_below_X5_isIn_n41, by decide +kernel, by decide +kernel, rfl, rfl, rfl, ⟨by decide +kernel, by decide +kernel, by decide +kernel⟩, by decide⟩
      cases h
  · exact by decide +kernel
  · exact by decide +kernel
  · exact fun _ _ h => ab_no h
  · exact by decide
  · exact by decide
def M_X3_behind : ab_M := (cX3_behind, [(28, 4, 4), (34, 4, 0), (38, 4, 2)], [], (fun i => none), (fun i => none), (fun i => if i = 41 then some (4, 2, 1, 0, Sp_X5_isIn) else none), [], [], (fun i => none), [], 1, 0)
def Sp_X3_behind : ab_TR := ab_Sem M_X3_behind 7
def rm_X3_behind : Room := { frames := 2, cells := 0, slots := 0, locals := 22 }
set_option maxRecDepth 20000 in
theorem so_X3_behind (l : Launch) : ab_Sound l yX3_behind wsX3_behind rm_X3_behind 1 Sp_X3_behind := by
  refine ab_sound (by decide +kernel) rfl rfl rfl ?_
  refine ⟨?_, ?_, ?_, ?_, ?_, ?_, ?_, ?_, ?_, ?_, ?_, ?_, ?_⟩
  · exact by decide
  · exact Or.inl rfl
  · exact by unfold ab_flok; decide +kernel
  · exact by unfold ab_plok ab_flok; decide +kernel
  · exact by decide +kernel
  · exact fun _ _ _ _ _ _ h => ab_no h
  · exact fun _ _ _ _ _ _ h => ab_no h
  · exact by
      intro idx rc n ri kc τ h
      simp only [M_X3_behind, ab_cv, ab_cs, ab_cn] at h
      split at h
      · rename_i hi; subst hi; cases h; exact ⟨by decide +kernel, cX5_isIn, 2, _, wsX5_isIn, _, rm_X5_isIn, (so_X5_isIn l), gX3_behind_X5_isIn_n41, by decide +kernel, by decide +kernel, rfl, rfl, rfl, ⟨by decide +kernel, by decide +kernel, by decide +kernel⟩, by decide⟩
      cases h
  · exact by decide +kernel
  · exact by decide +kernel
  · exact fun _ _ h => ab_no h
  · exact by decide
  · exact by decide
def M_X3_alongAxis : ab_M := (cX3_alongAxis, [], [], (fun i => none), (fun i => if i = 19 then some (0, 2, 1, 0, Sp_X3_childrenOf) else if i = 22 then some (0, 2, 1, 0, Sp_X3_below) else if i = 25 then some (0, 2, 1, 0, Sp_X3_behind) else none), (fun i => none), [], [], (fun i => none), [], 1, 0)
def Sp_X3_alongAxis : ab_TR := ab_Sem M_X3_alongAxis 3
def rm_X3_alongAxis : Room := { frames := 3, cells := 0, slots := 0, locals := 48 }
set_option maxRecDepth 20000 in
theorem so_X3_alongAxis (l : Launch) : ab_Sound l yX3_alongAxis wsX3_alongAxis rm_X3_alongAxis 1 Sp_X3_alongAxis := by
  refine ab_sound (by decide +kernel) rfl rfl rfl ?_
  refine ⟨?_, ?_, ?_, ?_, ?_, ?_, ?_, ?_, ?_, ?_, ?_, ?_, ?_⟩
  · exact by decide
  · exact Or.inl rfl
  · exact by unfold ab_flok; decide +kernel
  · exact by unfold ab_plok ab_flok; decide +kernel
  · exact by decide +kernel
  · exact fun _ _ _ _ _ _ h => ab_no h
  · exact by
      intro idx rc n ri kc τ h
      simp only [M_X3_alongAxis, ab_cv, ab_cs, ab_cn] at h
      split at h
      · rename_i hi; subst hi; cases h; exact ⟨yX3_childrenOf, cX3_childrenOf, 5, _, wsX3_childrenOf, _, rm_X3_childrenOf, (so_X3_childrenOf l), gX3_alongAxis_X3_childrenOf, rfl, rfl, rfl, ⟨by decide +kernel, by decide +kernel, by decide +kernel⟩, by decide⟩
      split at h
      · rename_i hi; subst hi; cases h; exact ⟨yX3_below, cX3_below, 5, _, wsX3_below, _, rm_X3_below, (so_X3_below l), gX3_alongAxis_X3_below, rfl, rfl, rfl, ⟨by decide +kernel, by decide +kernel, by decide +kernel⟩, by decide⟩
      split at h
      · rename_i hi; subst hi; cases h; exact ⟨yX3_behind, cX3_behind, 7, _, wsX3_behind, _, rm_X3_behind, (so_X3_behind l), gX3_alongAxis_X3_behind, rfl, rfl, rfl, ⟨by decide +kernel, by decide +kernel, by decide +kernel⟩, by decide⟩
      cases h
  · exact fun _ _ _ _ _ _ h => ab_no h
  · exact by decide +kernel
  · exact by decide +kernel
  · exact fun _ _ h => ab_no h
  · exact by decide
  · exact by decide
def M_X3_labelled : ab_M := (cX3_labelled, [(28, 4, 4), (34, 4, 0), (45, 4, 3)], [], (fun i => none), (fun i => none), (fun i => none), [], [], (fun i => none), [], 1, 0)
def Sp_X3_labelled : ab_TR := ab_Sem M_X3_labelled 5
def rm_X3_labelled : Room := { frames := 1, cells := 0, slots := 0, locals := 1 }
set_option maxRecDepth 20000 in
theorem so_X3_labelled (l : Launch) : ab_Sound l yX3_labelled wsX3_labelled rm_X3_labelled 1 Sp_X3_labelled := by
  refine ab_sound (by decide +kernel) rfl rfl rfl ?_
  refine ⟨?_, ?_, ?_, ?_, ?_, ?_, ?_, ?_, ?_, ?_, ?_, ?_, ?_⟩
  · exact by decide
  · exact Or.inl rfl
  · exact by unfold ab_flok; decide +kernel
  · exact by unfold ab_plok ab_flok; decide +kernel
  · exact by decide +kernel
  · exact fun _ _ _ _ _ _ h => ab_no h
  · exact fun _ _ _ _ _ _ h => ab_no h
  · exact fun _ _ _ _ _ _ h => ab_no h
  · exact by decide +kernel
  · exact by decide +kernel
  · exact fun _ _ h => ab_no h
  · exact by decide
  · exact by decide
def M_X3_follow : ab_M := (cX3_follow, [], [], (fun i => none), (fun i => if i = 11 then some (0, 3, 1, 0, Sp_X3_alongAxis) else if i = 15 then some (0, 2, 1, 0, Sp_X3_labelled) else none), (fun i => none), [], [], (fun i => none), [], 1, 0)
def Sp_X3_follow : ab_TR := ab_Sem M_X3_follow 6
def rm_X3_follow : Room := { frames := 4, cells := 0, slots := 0, locals := 70 }
set_option maxRecDepth 20000 in
theorem so_X3_follow (l : Launch) : ab_Sound l yX3_follow wsX3_follow rm_X3_follow 1 Sp_X3_follow := by
  refine ab_sound (by decide +kernel) rfl rfl rfl ?_
  refine ⟨?_, ?_, ?_, ?_, ?_, ?_, ?_, ?_, ?_, ?_, ?_, ?_, ?_⟩
  · exact by decide
  · exact Or.inl rfl
  · exact by unfold ab_flok; decide +kernel
  · exact by unfold ab_plok ab_flok; decide +kernel
  · exact by decide +kernel
  · exact fun _ _ _ _ _ _ h => ab_no h
  · exact by
      intro idx rc n ri kc τ h
      simp only [M_X3_follow, ab_cv, ab_cs, ab_cn] at h
      split at h
      · rename_i hi; subst hi; cases h; exact ⟨yX3_alongAxis, cX3_alongAxis, 3, _, wsX3_alongAxis, _, rm_X3_alongAxis, (so_X3_alongAxis l), gX3_follow_X3_alongAxis, rfl, rfl, rfl, ⟨by decide +kernel, by decide +kernel, by decide +kernel⟩, by decide⟩
      split at h
      · rename_i hi; subst hi; cases h; exact ⟨yX3_labelled, cX3_labelled, 5, _, wsX3_labelled, _, rm_X3_labelled, (so_X3_labelled l), gX3_follow_X3_labelled, rfl, rfl, rfl, ⟨by decide +kernel, by decide +kernel, by decide +kernel⟩, by decide⟩
      cases h
  · exact fun _ _ _ _ _ _ h => ab_no h
  · exact by decide +kernel
  · exact by decide +kernel
  · exact fun _ _ h => ab_no h
  · exact by decide
  · exact by decide
def M_X4_isSameAs : ab_M := (cX4_isSameAs, [(36, 4, 4), (9, 4, 0)], [], (fun i => if i = 46 then some (3, 2, 1, 0, Sp_X4_hasAsIn) else none), (fun i => none), (fun i => none), [], [], (fun i => none), [], 2, 0)
def Sp_X4_isSameAs : ab_TR := ab_Sem M_X4_isSameAs 4
def rm_X4_isSameAs : Room := { frames := 2, cells := 0, slots := 0, locals := 23 }
set_option maxRecDepth 20000 in
theorem so_X4_isSameAs (l : Launch) : ab_Sound l yX4_isSameAs wsX4_isSameAs rm_X4_isSameAs 1 Sp_X4_isSameAs := by
  refine ab_sound (by decide +kernel) rfl rfl rfl ?_
  refine ⟨?_, ?_, ?_, ?_, ?_, ?_, ?_, ?_, ?_, ?_, ?_, ?_, ?_⟩
  · exact by decide
  · exact Or.inl rfl
  · exact by unfold ab_flok; decide +kernel
  · exact by unfold ab_plok ab_flok; decide +kernel
  · exact by decide +kernel
  · exact by
      intro idx rc n ri kc τ h
      simp only [M_X4_isSameAs, ab_cv, ab_cs, ab_cn] at h
      split at h
      · rename_i hi; subst hi; cases h; exact ⟨yX4_hasAsIn, cX4_hasAsIn, 3, _, wsX4_hasAsIn, _, rm_X4_hasAsIn, (so_X4_hasAsIn l), gX4_isSameAs_X4_hasAsIn, rfl, rfl, rfl, rfl, ⟨by decide +kernel, by decide +kernel, by decide +kernel⟩, by decide⟩
      cases h
  · exact fun _ _ _ _ _ _ h => ab_no h
  · exact fun _ _ _ _ _ _ h => ab_no h
  · exact by decide +kernel
  · exact by decide +kernel
  · exact fun _ _ h => ab_no h
  · exact by decide
  · exact by decide
def M_X4_isWithin : ab_M := (cX4_isWithin, [(15, 4, 1)], [], (fun i => if i = 50 then some (3, 1, 1, 0, Sp_X4_endOf) else none), (fun i => none), (fun i => none), [], [], (fun i => none), [], 2, 0)
def Sp_X4_isWithin : ab_TR := ab_Sem M_X4_isWithin 3
def rm_X4_isWithin : Room := { frames := 3, cells := 0, slots := 0, locals := 45 }
set_option maxRecDepth 20000 in
theorem so_X4_isWithin (l : Launch) : ab_Sound l yX4_isWithin wsX4_isWithin rm_X4_isWithin 1 Sp_X4_isWithin := by
  refine ab_sound (by decide +kernel) rfl rfl rfl ?_
  refine ⟨?_, ?_, ?_, ?_, ?_, ?_, ?_, ?_, ?_, ?_, ?_, ?_, ?_⟩
  · exact by decide
  · exact Or.inl rfl
  · exact by unfold ab_flok; decide +kernel
  · exact by unfold ab_plok ab_flok; decide +kernel
  · exact by decide +kernel
  · exact by
      intro idx rc n ri kc τ h
      simp only [M_X4_isWithin, ab_cv, ab_cs, ab_cn] at h
      split at h
      · rename_i hi; subst hi; cases h; exact ⟨yX4_endOf, cX4_endOf, 3, _, wsX4_endOf, _, rm_X4_endOf, (so_X4_endOf l), gX4_isWithin_X4_endOf, rfl, rfl, rfl, rfl, ⟨by decide +kernel, by decide +kernel, by decide +kernel⟩, by decide⟩
      cases h
  · exact fun _ _ _ _ _ _ h => ab_no h
  · exact fun _ _ _ _ _ _ h => ab_no h
  · exact by decide +kernel
  · exact by decide +kernel
  · exact fun _ _ h => ab_no h
  · exact by decide
  · exact by decide
def M_X4_childCount : ab_M := (cX4_childCount, [(15, 4, 1), (36, 4, 4), (18, 4, 2), (9, 4, 0)], [], (fun i => none), (fun i => none), (fun i => none), [], [], (fun i => none), [], 1, 0)
def Sp_X4_childCount : ab_TR := ab_Sem M_X4_childCount 4
def rm_X4_childCount : Room := { frames := 1, cells := 0, slots := 0, locals := 1 }
set_option maxRecDepth 20000 in
theorem so_X4_childCount (l : Launch) : ab_Sound l yX4_childCount wsX4_childCount rm_X4_childCount 1 Sp_X4_childCount := by
  refine ab_sound (by decide +kernel) rfl rfl rfl ?_
  refine ⟨?_, ?_, ?_, ?_, ?_, ?_, ?_, ?_, ?_, ?_, ?_, ?_, ?_⟩
  · exact by decide
  · exact Or.inl rfl
  · exact by unfold ab_flok; decide +kernel
  · exact by unfold ab_plok ab_flok; decide +kernel
  · exact by decide +kernel
  · exact fun _ _ _ _ _ _ h => ab_no h
  · exact fun _ _ _ _ _ _ h => ab_no h
  · exact fun _ _ _ _ _ _ h => ab_no h
  · exact by decide +kernel
  · exact by decide +kernel
  · exact fun _ _ h => ab_no h
  · exact by decide
  · exact by decide
def M_X4_slotFor : ab_M := (cX4_slotFor, [(15, 4, 1), (36, 4, 4), (18, 4, 2), (9, 4, 0)], [], (fun i => if i = 50 then some (3, 1, 1, 0, Sp_X4_endOf) else none), (fun i => none), (fun i => none), [], [], (fun i => none), [], 1, 0)
def Sp_X4_slotFor : ab_TR := ab_Sem M_X4_slotFor 5
def rm_X4_slotFor : Room := { frames := 3, cells := 0, slots := 0, locals := 45 }
set_option maxRecDepth 20000 in
theorem so_X4_slotFor (l : Launch) : ab_Sound l yX4_slotFor wsX4_slotFor rm_X4_slotFor 1 Sp_X4_slotFor := by
  refine ab_sound (by decide +kernel) rfl rfl rfl ?_
  refine ⟨?_, ?_, ?_, ?_, ?_, ?_, ?_, ?_, ?_, ?_, ?_, ?_, ?_⟩
  · exact by decide
  · exact Or.inl rfl
  · exact by unfold ab_flok; decide +kernel
  · exact by unfold ab_plok ab_flok; decide +kernel
  · exact by decide +kernel
  · exact by
      intro idx rc n ri kc τ h
      simp only [M_X4_slotFor, ab_cv, ab_cs, ab_cn] at h
      split at h
      · rename_i hi; subst hi; cases h; exact ⟨yX4_endOf, cX4_endOf, 3, _, wsX4_endOf, _, rm_X4_endOf, (so_X4_endOf l), gX4_slotFor_X4_endOf, rfl, rfl, rfl, rfl, ⟨by decide +kernel, by decide +kernel, by decide +kernel⟩, by decide⟩
      cases h
  · exact fun _ _ _ _ _ _ h => ab_no h
  · exact fun _ _ _ _ _ _ h => ab_no h
  · exact by decide +kernel
  · exact by decide +kernel
  · exact fun _ _ h => ab_no h
  · exact by decide
  · exact by decide
def M_X4_plant : ab_M := (cX4_plant, [(18, 4, 2), (21, 4, 3)], [], (fun i => if i = 57 then some (3, 2, 0, 0, Sp_X4_putInto) else none), (fun i => none), (fun i => none), [], [], (fun i => none), [], 0, 0)
def Sp_X4_plant : ab_TR := ab_Sem M_X4_plant 3
def rm_X4_plant : Room := { frames := 4, cells := 0, slots := 0, locals := 70 }
set_option maxRecDepth 20000 in
theorem so_X4_plant (l : Launch) : ab_Sound l yX4_plant wsX4_plant rm_X4_plant 0 Sp_X4_plant := by
  refine ab_sound (by decide +kernel) rfl rfl rfl ?_
  refine ⟨?_, ?_, ?_, ?_, ?_, ?_, ?_, ?_, ?_, ?_, ?_, ?_, ?_⟩
  · exact by decide
  · exact Or.inl rfl
  · exact by unfold ab_flok; decide +kernel
  · exact by unfold ab_plok ab_flok; decide +kernel
  · exact by decide +kernel
  · exact by
      intro idx rc n ri kc τ h
      simp only [M_X4_plant, ab_cv, ab_cs, ab_cn] at h
      split at h
      · rename_i hi; subst hi; cases h; exact ⟨yX4_putInto, cX4_putInto, 3, _, wsX4_putInto, _, rm_X4_putInto, (so_X4_putInto l), gX4_plant_X4_putInto, rfl, rfl, rfl, rfl, ⟨by decide +kernel, by decide +kernel, by decide +kernel⟩, by decide⟩
      cases h
  · exact fun _ _ _ _ _ _ h => ab_no h
  · exact fun _ _ _ _ _ _ h => ab_no h
  · exact by decide +kernel
  · exact by decide +kernel
  · exact fun _ _ h => ab_no h
  · exact by decide
  · exact by decide
def M_X4_attach : ab_M := (cX4_attach, [(18, 4, 2), (21, 4, 3)], [], (fun i => if i = 61 then some (3, 2, 1, 0, Sp_X4_slotFor) else if i = 57 then some (3, 2, 0, 0, Sp_X4_putInto) else none), (fun i => none), (fun i => none), [], [], (fun i => none), [], 0, 0)
def Sp_X4_attach : ab_TR := ab_Sem M_X4_attach 5
def rm_X4_attach : Room := { frames := 4, cells := 0, slots := 0, locals := 70 }
set_option maxRecDepth 20000 in
theorem so_X4_attach (l : Launch) : ab_Sound l yX4_attach wsX4_attach rm_X4_attach 0 Sp_X4_attach := by
  refine ab_sound (by decide +kernel) rfl rfl rfl ?_
  refine ⟨?_, ?_, ?_, ?_, ?_, ?_, ?_, ?_, ?_, ?_, ?_, ?_, ?_⟩
  · exact by decide
  · exact Or.inl rfl
  · exact by unfold ab_flok; decide +kernel
  · exact by unfold ab_plok ab_flok; decide +kernel
  · exact by decide +kernel
  · exact by
      intro idx rc n ri kc τ h
      simp only [M_X4_attach, ab_cv, ab_cs, ab_cn] at h
      split at h
      · rename_i hi; subst hi; cases h; exact ⟨yX4_slotFor, cX4_slotFor, 5, _, wsX4_slotFor, _, rm_X4_slotFor, (so_X4_slotFor l), gX4_attach_X4_slotFor, rfl, rfl, rfl, rfl, ⟨by decide +kernel, by decide +kernel, by decide +kernel⟩, by decide⟩
      split at h
      · rename_i hi; subst hi; cases h; exact ⟨yX4_putInto, cX4_putInto, 3, _, wsX4_putInto, _, rm_X4_putInto, (so_X4_putInto l), gX4_attach_X4_putInto, rfl, rfl, rfl, rfl, ⟨by decide +kernel, by decide +kernel, by decide +kernel⟩, by decide⟩
      cases h
  · exact fun _ _ _ _ _ _ h => ab_no h
  · exact fun _ _ _ _ _ _ h => ab_no h
  · exact by decide +kernel
  · exact by decide +kernel
  · exact fun _ _ h => ab_no h
  · exact by decide
  · exact by decide
def M_X4_takeOut : ab_M := (cX4_takeOut, [(15, 4, 1), (9, 4, 0), (24, 4, 5), (36, 4, 4)], [(36, 4, 4)], (fun i => if i = 50 then some (3, 1, 1, 0, Sp_X4_endOf) else if i = 71 then some (3, 1, 0, 0, Sp_X4_renumberFrom) else none), (fun i => none), (fun i => none), [], [40], (fun i => none), [], 1, 0)
def Sp_X4_takeOut : ab_TR := ab_Sem M_X4_takeOut 4
def rm_X4_takeOut : Room := { frames := 3, cells := 0, slots := 0, locals := 45 }
set_option maxRecDepth 20000 in
theorem so_X4_takeOut (l : Launch) : ab_Sound l yX4_takeOut wsX4_takeOut rm_X4_takeOut 1 Sp_X4_takeOut := by
  refine ab_sound (by decide +kernel) rfl rfl rfl ?_
  refine ⟨?_, ?_, ?_, ?_, ?_, ?_, ?_, ?_, ?_, ?_, ?_, ?_, ?_⟩
  · exact by decide
  · exact Or.inl rfl
  · exact by unfold ab_flok; decide +kernel
  · exact by unfold ab_plok ab_flok; decide +kernel
  · exact by decide +kernel
  · exact by
      intro idx rc n ri kc τ h
      simp only [M_X4_takeOut, ab_cv, ab_cs, ab_cn] at h
      split at h
      · rename_i hi; subst hi; cases h; exact ⟨yX4_endOf, cX4_endOf, 3, _, wsX4_endOf, _, rm_X4_endOf, (so_X4_endOf l), gX4_takeOut_X4_endOf, rfl, rfl, rfl, rfl, ⟨by decide +kernel, by decide +kernel, by decide +kernel⟩, by decide⟩
      split at h
      · rename_i hi; subst hi; cases h; exact ⟨yX4_renumberFrom, cX4_renumberFrom, 3, _, wsX4_renumberFrom, _, rm_X4_renumberFrom, (so_X4_renumberFrom l), gX4_takeOut_X4_renumberFrom, rfl, rfl, rfl, rfl, ⟨by decide +kernel, by decide +kernel, by decide +kernel⟩, by decide⟩
      cases h
  · exact fun _ _ _ _ _ _ h => ab_no h
  · exact fun _ _ _ _ _ _ h => ab_no h
  · exact by decide +kernel
  · exact by decide +kernel
  · exact fun _ _ h => ab_no h
  · exact by decide
  · exact by decide
def M_X4_prune : ab_M := (cX4_prune, [(18, 4, 2), (24, 4, 5), (21, 4, 3)], [], (fun i => if i = 65 then some (3, 1, 1, 0, Sp_X4_takeOut) else none), (fun i => none), (fun i => none), [], [], (fun i => none), [], 1, 0)
def Sp_X4_prune : ab_TR := ab_Sem M_X4_prune 4
def rm_X4_prune : Room := { frames := 4, cells := 0, slots := 0, locals := 68 }
set_option maxRecDepth 20000 in
theorem so_X4_prune (l : Launch) : ab_Sound l yX4_prune wsX4_prune rm_X4_prune 1 Sp_X4_prune := by
  refine ab_sound (by decide +kernel) rfl rfl rfl ?_
  refine ⟨?_, ?_, ?_, ?_, ?_, ?_, ?_, ?_, ?_, ?_, ?_, ?_, ?_⟩
  · exact by decide
  · exact Or.inl rfl
  · exact by unfold ab_flok; decide +kernel
  · exact by unfold ab_plok ab_flok; decide +kernel
  · exact by decide +kernel
  · exact by
      intro idx rc n ri kc τ h
      simp only [M_X4_prune, ab_cv, ab_cs, ab_cn] at h
      split at h
      · rename_i hi; subst hi; cases h; exact ⟨yX4_takeOut, cX4_takeOut, 4, _, wsX4_takeOut, _, rm_X4_takeOut, (so_X4_takeOut l), gX4_prune_X4_takeOut, rfl, rfl, rfl, rfl, ⟨by decide +kernel, by decide +kernel, by decide +kernel⟩, by decide⟩
      cases h
  · exact fun _ _ _ _ _ _ h => ab_no h
  · exact fun _ _ _ _ _ _ h => ab_no h
  · exact by decide +kernel
  · exact by decide +kernel
  · exact fun _ _ h => ab_no h
  · exact by decide
  · exact by decide
def M_X4_transplant : ab_M := (cX4_transplant, [(18, 4, 2)], [], (fun i => if i = 65 then some (3, 1, 1, 0, Sp_X4_takeOut) else if i = 61 then some (3, 2, 1, 0, Sp_X4_slotFor) else if i = 68 then some (3, 2, 0, 0, Sp_X4_putCarried) else none), (fun i => none), (fun i => none), [], [], (fun i => none), [], 0, 0)
def Sp_X4_transplant : ab_TR := ab_Sem M_X4_transplant 6
def rm_X4_transplant : Room := { frames := 4, cells := 0, slots := 0, locals := 69 }
set_option maxRecDepth 20000 in
theorem so_X4_transplant (l : Launch) : ab_Sound l yX4_transplant wsX4_transplant rm_X4_transplant 0 Sp_X4_transplant := by
  refine ab_sound (by decide +kernel) rfl rfl rfl ?_
  refine ⟨?_, ?_, ?_, ?_, ?_, ?_, ?_, ?_, ?_, ?_, ?_, ?_, ?_⟩
  · exact by decide
  · exact Or.inl rfl
  · exact by unfold ab_flok; decide +kernel
  · exact by unfold ab_plok ab_flok; decide +kernel
  · exact by decide +kernel
  · exact by
      intro idx rc n ri kc τ h
      simp only [M_X4_transplant, ab_cv, ab_cs, ab_cn] at h
      split at h
      · rename_i hi; subst hi; cases h; exact ⟨yX4_takeOut, cX4_takeOut, 4, _, wsX4_takeOut, _, rm_X4_takeOut, (so_X4_takeOut l), gX4_transplant_X4_takeOut, rfl, rfl, rfl, rfl, ⟨by decide +kernel, by decide +kernel, by decide +kernel⟩, by decide⟩
      split at h
      · rename_i hi; subst hi; cases h; exact ⟨yX4_slotFor, cX4_slotFor, 5, _, wsX4_slotFor, _, rm_X4_slotFor, (so_X4_slotFor l), gX4_transplant_X4_slotFor, rfl, rfl, rfl, rfl, ⟨by decide +kernel, by decide +kernel, by decide +kernel⟩, by decide⟩
      split at h
      · rename_i hi; subst hi; cases h; exact ⟨yX4_putCarried, cX4_putCarried, 3, _, wsX4_putCarried, _, rm_X4_putCarried, (so_X4_putCarried l), gX4_transplant_X4_putCarried, rfl, rfl, rfl, rfl, ⟨by decide +kernel, by decide +kernel, by decide +kernel⟩, by decide⟩
      cases h
  · exact fun _ _ _ _ _ _ h => ab_no h
  · exact fun _ _ _ _ _ _ h => ab_no h
  · exact by decide +kernel
  · exact by decide +kernel
  · exact fun _ _ h => ab_no h
  · exact by decide
  · exact by decide
def M_X4_pick : ab_M := (cX4_pick, [(36, 4, 4), (9, 4, 0)], [], (fun i => none), (fun i => none), (fun i => if i = 75 then some (4, 2, 1, 0, Sp_X5_isIn) else none), [], [], (fun i => none), [], 1, 0)
def Sp_X4_pick : ab_TR := ab_Sem M_X4_pick 5
def rm_X4_pick : Room := { frames := 2, cells := 0, slots := 0, locals := 22 }
set_option maxRecDepth 20000 in
theorem so_X4_pick (l : Launch) : ab_Sound l yX4_pick wsX4_pick rm_X4_pick 1 Sp_X4_pick := by
  refine ab_sound (by decide +kernel) rfl rfl rfl ?_
  refine ⟨?_, ?_, ?_, ?_, ?_, ?_, ?_, ?_, ?_, ?_, ?_, ?_, ?_⟩
  · exact by decide
  · exact Or.inl rfl
  · exact by unfold ab_flok; decide +kernel
  · exact by unfold ab_plok ab_flok; decide +kernel
  · exact by decide +kernel
  · exact fun _ _ _ _ _ _ h => ab_no h
  · exact fun _ _ _ _ _ _ h => ab_no h
  · exact by
      intro idx rc n ri kc τ h
      simp only [M_X4_pick, ab_cv, ab_cs, ab_cn] at h
      split at h
      · rename_i hi; subst hi; cases h; exact ⟨by decide +kernel, cX5_isIn, 2, _, wsX5_isIn, _, rm_X5_isIn, (so_X5_isIn l), gX4_pick_X5_isIn_n75, by decide +kernel, by decide +kernel, rfl, rfl, rfl, ⟨by decide +kernel, by decide +kernel, by decide +kernel⟩, by decide⟩
      cases h
  · exact by decide +kernel
  · exact by decide +kernel
  · exact fun _ _ h => ab_no h
  · exact by decide
  · exact by decide
def M_X4_areAlike : ab_M := (cX4_areAlike, [(21, 4, 3), (9, 4, 0)], [], (fun i => if i = 50 then some (3, 1, 1, 0, Sp_X4_endOf) else if i = 54 then some (3, 1, 1, 0, Sp_X4_parentSpot) else none), (fun i => none), (fun i => none), [], [], (fun i => none), [], 2, 0)
def Sp_X4_areAlike : ab_TR := ab_Sem M_X4_areAlike 7
def rm_X4_areAlike : Room := { frames := 3, cells := 0, slots := 0, locals := 45 }
set_option maxRecDepth 20000 in
theorem so_X4_areAlike (l : Launch) : ab_Sound l yX4_areAlike wsX4_areAlike rm_X4_areAlike 1 Sp_X4_areAlike := by
  refine ab_sound (by decide +kernel) rfl rfl rfl ?_
  refine ⟨?_, ?_, ?_, ?_, ?_, ?_, ?_, ?_, ?_, ?_, ?_, ?_, ?_⟩
  · exact by decide
  · exact Or.inl rfl
  · exact by unfold ab_flok; decide +kernel
  · exact by unfold ab_plok ab_flok; decide +kernel
  · exact by decide +kernel
  · exact by
      intro idx rc n ri kc τ h
      simp only [M_X4_areAlike, ab_cv, ab_cs, ab_cn] at h
      split at h
      · rename_i hi; subst hi; cases h; exact ⟨yX4_endOf, cX4_endOf, 3, _, wsX4_endOf, _, rm_X4_endOf, (so_X4_endOf l), gX4_areAlike_X4_endOf, rfl, rfl, rfl, rfl, ⟨by decide +kernel, by decide +kernel, by decide +kernel⟩, by decide⟩
      split at h
      · rename_i hi; subst hi; cases h; exact ⟨yX4_parentSpot, cX4_parentSpot, 3, _, wsX4_parentSpot, _, rm_X4_parentSpot, (so_X4_parentSpot l), gX4_areAlike_X4_parentSpot, rfl, rfl, rfl, rfl, ⟨by decide +kernel, by decide +kernel, by decide +kernel⟩, by decide⟩
      cases h
  · exact fun _ _ _ _ _ _ h => ab_no h
  · exact fun _ _ _ _ _ _ h => ab_no h
  · exact by decide +kernel
  · exact by decide +kernel
  · exact fun _ _ h => ab_no h
  · exact by decide
  · exact by decide
def M_X4_firstAlike : ab_M := (cX4_firstAlike, [(15, 4, 1), (9, 4, 0)], [], (fun i => if i = 79 then some (3, 2, 1, 0, Sp_X4_areAlike) else none), (fun i => none), (fun i => none), [], [], (fun i => none), [], 1, 0)
def Sp_X4_firstAlike : ab_TR := ab_Sem M_X4_firstAlike 3
def rm_X4_firstAlike : Room := { frames := 4, cells := 0, slots := 0, locals := 71 }
set_option maxRecDepth 20000 in
theorem so_X4_firstAlike (l : Launch) : ab_Sound l yX4_firstAlike wsX4_firstAlike rm_X4_firstAlike 1 Sp_X4_firstAlike := by
  refine ab_sound (by decide +kernel) rfl rfl rfl ?_
  refine ⟨?_, ?_, ?_, ?_, ?_, ?_, ?_, ?_, ?_, ?_, ?_, ?_, ?_⟩
  · exact by decide
  · exact Or.inl rfl
  · exact by unfold ab_flok; decide +kernel
  · exact by unfold ab_plok ab_flok; decide +kernel
  · exact by decide +kernel
  · exact by
      intro idx rc n ri kc τ h
      simp only [M_X4_firstAlike, ab_cv, ab_cs, ab_cn] at h
      split at h
      · rename_i hi; subst hi; cases h; exact ⟨yX4_areAlike, cX4_areAlike, 7, _, wsX4_areAlike, _, rm_X4_areAlike, (so_X4_areAlike l), gX4_firstAlike_X4_areAlike, rfl, rfl, rfl, rfl, ⟨by decide +kernel, by decide +kernel, by decide +kernel⟩, by decide⟩
      cases h
  · exact fun _ _ _ _ _ _ h => ab_no h
  · exact fun _ _ _ _ _ _ h => ab_no h
  · exact by decide +kernel
  · exact by decide +kernel
  · exact fun _ _ h => ab_no h
  · exact by decide
  · exact by decide
def M_X5_requireNode : ab_M := (cX5_requireNode, [(10, 0, 0)], [], (fun i => if i = 198 then some (3, 1, 1, 0, Sp_X4_holds) else none), (fun i => none), (fun i => none), [], [], (fun i => if i = 11 then some 0 else none), [], 0, 1)
def Sp_X5_requireNode : ab_TR := ab_Sem M_X5_requireNode 2
def rm_X5_requireNode : Room := { frames := 6, cells := 1, slots := 6, locals := 90 }
set_option maxRecDepth 20000 in
theorem so_X5_requireNode (l : Launch) (hlt : l.stackTraces = false) : ab_Sound l yX5_requireNode wsX5_requireNode rm_X5_requireNode 0 Sp_X5_requireNode := by
  refine ab_sound (by decide +kernel) rfl rfl rfl ?_
  refine ⟨?_, ?_, ?_, ?_, ?_, ?_, ?_, ?_, ?_, ?_, ?_, ?_, ?_⟩
  · exact by decide
  · exact Or.inr hlt
  · exact by unfold ab_flok; decide +kernel
  · exact by unfold ab_plok ab_flok; decide +kernel
  · exact by decide +kernel
  · exact by
      intro idx rc n ri kc τ h
      simp only [M_X5_requireNode, ab_cv, ab_cs, ab_cn] at h
      split at h
      · rename_i hi; subst hi; cases h; exact ⟨yX4_holds, cX4_holds, 2, _, wsX4_holds, _, rm_X4_holds, (so_X4_holds l), gX5_requireNode_X4_holds, rfl, rfl, rfl, rfl, ⟨by decide +kernel, by decide +kernel, by decide +kernel⟩, by decide⟩
      cases h
  · exact fun _ _ _ _ _ _ h => ab_no h
  · exact fun _ _ _ _ _ _ h => ab_no h
  · exact by decide +kernel
  · exact by decide +kernel
  · exact by
      intro pc E h
      simp only [M_X5_requireNode, ab_th] at h
      split at h
      · rename_i hi; subst hi; cases h; exact ⟨144, 202, 148, "no such node in the working tree", ["java/lang/RuntimeException", "java/lang/Exception"], rfl, by decide +kernel, by decide +kernel, by decide +kernel, by decide +kernel, by decide +kernel, by decide +kernel, by decide +kernel, by decide +kernel, dX5_requireNode_11, dX5_requireNode_14, dX5_requireNode_15, dX5_requireNode_17, dX5_requireNode_20, by decide, by decide⟩
      cases h
  · exact by decide
  · exact by decide
def M_X5_requirePlace : ab_M := (cX5_requirePlace, [], [], (fun i => none), (fun i => none), (fun i => none), [], [], (fun i => if i = 9 then some 1 else none), [], 0, 1)
def Sp_X5_requirePlace : ab_TR := ab_Sem M_X5_requirePlace 2
def rm_X5_requirePlace : Room := { frames := 6, cells := 1, slots := 6, locals := 90 }
set_option maxRecDepth 20000 in
theorem so_X5_requirePlace (l : Launch) (hlt : l.stackTraces = false) : ab_Sound l yX5_requirePlace wsX5_requirePlace rm_X5_requirePlace 0 Sp_X5_requirePlace := by
  refine ab_sound (by decide +kernel) rfl rfl rfl ?_
  refine ⟨?_, ?_, ?_, ?_, ?_, ?_, ?_, ?_, ?_, ?_, ?_, ?_, ?_⟩
  · exact by decide
  · exact Or.inr hlt
  · exact by unfold ab_flok; decide +kernel
  · exact by unfold ab_plok ab_flok; decide +kernel
  · exact by decide +kernel
  · exact fun _ _ _ _ _ _ h => ab_no h
  · exact fun _ _ _ _ _ _ h => ab_no h
  · exact fun _ _ _ _ _ _ h => ab_no h
  · exact by decide +kernel
  · exact by decide +kernel
  · exact by
      intro pc E h
      simp only [M_X5_requirePlace, ab_th] at h
      split at h
      · rename_i hi; subst hi; cases h; exact ⟨155, 206, 159, "no such place", ["java/lang/RuntimeException", "java/lang/Exception"], rfl, by decide +kernel, by decide +kernel, by decide +kernel, by decide +kernel, by decide +kernel, by decide +kernel, by decide +kernel, by decide +kernel, dX5_requirePlace_9, dX5_requirePlace_12, dX5_requirePlace_13, dX5_requirePlace_15, dX5_requirePlace_18, by decide, by decide⟩
      cases h
  · exact by decide
  · exact by decide
def M_X5_requireLabel : ab_M := (cX5_requireLabel, [], [], (fun i => none), (fun i => none), (fun i => none), [], [], (fun i => if i = 10 then some 2 else none), [], 0, 1)
def Sp_X5_requireLabel : ab_TR := ab_Sem M_X5_requireLabel 1
def rm_X5_requireLabel : Room := { frames := 6, cells := 1, slots := 6, locals := 90 }
set_option maxRecDepth 20000 in
theorem so_X5_requireLabel (l : Launch) (hlt : l.stackTraces = false) : ab_Sound l yX5_requireLabel wsX5_requireLabel rm_X5_requireLabel 0 Sp_X5_requireLabel := by
  refine ab_sound (by decide +kernel) rfl rfl rfl ?_
  refine ⟨?_, ?_, ?_, ?_, ?_, ?_, ?_, ?_, ?_, ?_, ?_, ?_, ?_⟩
  · exact by decide
  · exact Or.inr hlt
  · exact by unfold ab_flok; decide +kernel
  · exact by unfold ab_plok ab_flok; decide +kernel
  · exact by decide +kernel
  · exact fun _ _ _ _ _ _ h => ab_no h
  · exact fun _ _ _ _ _ _ h => ab_no h
  · exact fun _ _ _ _ _ _ h => ab_no h
  · exact by decide +kernel
  · exact by decide +kernel
  · exact by
      intro pc E h
      simp only [M_X5_requireLabel, ab_th] at h
      split at h
      · rename_i hi; subst hi; cases h; exact ⟨80, 208, 84, "no such label", ["java/lang/RuntimeException", "java/lang/Exception"], rfl, by decide +kernel, by decide +kernel, by decide +kernel, by decide +kernel, by decide +kernel, by decide +kernel, by decide +kernel, by decide +kernel, dX5_requireLabel_10, dX5_requireLabel_13, dX5_requireLabel_14, dX5_requireLabel_16, dX5_requireLabel_19, by decide, by decide⟩
      cases h
  · exact by decide
  · exact by decide
def M_X5_insert : ab_M := (cX5_insert, [(10, 0, 0), (41, 0, 4)], [(41, 0, 4)], (fun i => if i = 55 then some (4, 1, 0, 1, Sp_X5_requireNode) else if i = 59 then some (3, 1, 1, 0, Sp_X4_childCount) else if i = 76 then some (3, 4, 0, 0, Sp_X4_attach) else none), (fun i => if i = 63 then some (4, 2, 0, 1, Sp_X5_requirePlace) else if i = 66 then some (4, 1, 0, 1, Sp_X5_requireLabel) else none), (fun i => none), [], [], (fun i => if i = 30 then some 3 else none), [], 1, 4)
def Sp_X5_insert : ab_TR := ab_Sem M_X5_insert 5
def rm_X5_insert : Room := { frames := 7, cells := 4, slots := 24, locals := 111 }
set_option maxRecDepth 20000 in
theorem so_X5_insert (l : Launch) (hlt : l.stackTraces = false) : ab_Sound l yX5_insert wsX5_insert rm_X5_insert 1 Sp_X5_insert := by
  refine ab_sound (by decide +kernel) rfl rfl rfl ?_
  refine ⟨?_, ?_, ?_, ?_, ?_, ?_, ?_, ?_, ?_, ?_, ?_, ?_, ?_⟩
  · exact by decide
  · exact Or.inr hlt
  · exact by unfold ab_flok; decide +kernel
  · exact by unfold ab_plok ab_flok; decide +kernel
  · exact by decide +kernel
  · exact by
      intro idx rc n ri kc τ h
      simp only [M_X5_insert, ab_cv, ab_cs, ab_cn] at h
      split at h
      · rename_i hi; subst hi; cases h; exact ⟨yX5_requireNode, cX5_requireNode, 2, _, wsX5_requireNode, _, rm_X5_requireNode, (so_X5_requireNode l hlt), gX5_insert_X5_requireNode, rfl, rfl, rfl, rfl, ⟨by decide +kernel, by decide +kernel, by decide +kernel⟩, by decide⟩
      split at h
      · rename_i hi; subst hi; cases h; exact ⟨yX4_childCount, cX4_childCount, 4, _, wsX4_childCount, _, rm_X4_childCount, (so_X4_childCount l), gX5_insert_X4_childCount, rfl, rfl, rfl, rfl, ⟨by decide +kernel, by decide +kernel, by decide +kernel⟩, by decide⟩
      split at h
      · rename_i hi; subst hi; cases h; exact ⟨yX4_attach, cX4_attach, 5, _, wsX4_attach, _, rm_X4_attach, (so_X4_attach l), gX5_insert_X4_attach, rfl, rfl, rfl, rfl, ⟨by decide +kernel, by decide +kernel, by decide +kernel⟩, by decide⟩
      cases h
  · exact by
      intro idx rc n ri kc τ h
      simp only [M_X5_insert, ab_cv, ab_cs, ab_cn] at h
      split at h
      · rename_i hi; subst hi; cases h; exact ⟨yX5_requirePlace, cX5_requirePlace, 2, _, wsX5_requirePlace, _, rm_X5_requirePlace, (so_X5_requirePlace l hlt), gX5_insert_X5_requirePlace, rfl, rfl, rfl, ⟨by decide +kernel, by decide +kernel, by decide +kernel⟩, by decide⟩
      split at h
      · rename_i hi; subst hi; cases h; exact ⟨yX5_requireLabel, cX5_requireLabel, 1, _, wsX5_requireLabel, _, rm_X5_requireLabel, (so_X5_requireLabel l hlt), gX5_insert_X5_requireLabel, rfl, rfl, rfl, ⟨by decide +kernel, by decide +kernel, by decide +kernel⟩, by decide⟩
      cases h
  · exact fun _ _ _ _ _ _ h => ab_no h
  · exact by decide +kernel
  · exact by decide +kernel
  · exact by
      intro pc E h
      simp only [M_X5_insert, ab_th] at h
      split at h
      · rename_i hi; subst hi; cases h; exact ⟨69, 71, 73, "all nodes were made", ["java/lang/RuntimeException", "java/lang/Exception"], rfl, by decide +kernel, by decide +kernel, by decide +kernel, by decide +kernel, by decide +kernel, by decide +kernel, by decide +kernel, by decide +kernel, dX5_insert_30, dX5_insert_33, dX5_insert_34, dX5_insert_36, dX5_insert_39, by decide, by decide⟩
      cases h
  · exact by decide
  · exact by decide
def M_X5_delete : ab_M := (cX5_delete, [(10, 0, 0)], [], (fun i => if i = 55 then some (4, 1, 0, 1, Sp_X5_requireNode) else if i = 85 then some (3, 1, 1, 0, Sp_X4_prune) else none), (fun i => none), (fun i => none), [], [], (fun i => if i = 9 then some 2 else none), [], 1, 2)
def Sp_X5_delete : ab_TR := ab_Sem M_X5_delete 2
def rm_X5_delete : Room := { frames := 7, cells := 2, slots := 12, locals := 111 }
set_option maxRecDepth 20000 in
theorem so_X5_delete (l : Launch) (hlt : l.stackTraces = false) : ab_Sound l yX5_delete wsX5_delete rm_X5_delete 1 Sp_X5_delete := by
  refine ab_sound (by decide +kernel) rfl rfl rfl ?_
  refine ⟨?_, ?_, ?_, ?_, ?_, ?_, ?_, ?_, ?_, ?_, ?_, ?_, ?_⟩
  · exact by decide
  · exact Or.inr hlt
  · exact by unfold ab_flok; decide +kernel
  · exact by unfold ab_plok ab_flok; decide +kernel
  · exact by decide +kernel
  · exact by
      intro idx rc n ri kc τ h
      simp only [M_X5_delete, ab_cv, ab_cs, ab_cn] at h
      split at h
      · rename_i hi; subst hi; cases h; exact ⟨yX5_requireNode, cX5_requireNode, 2, _, wsX5_requireNode, _, rm_X5_requireNode, (so_X5_requireNode l hlt), gX5_delete_X5_requireNode, rfl, rfl, rfl, rfl, ⟨by decide +kernel, by decide +kernel, by decide +kernel⟩, by decide⟩
      split at h
      · rename_i hi; subst hi; cases h; exact ⟨yX4_prune, cX4_prune, 4, _, wsX4_prune, _, rm_X4_prune, (so_X4_prune l), gX5_delete_X4_prune, rfl, rfl, rfl, rfl, ⟨by decide +kernel, by decide +kernel, by decide +kernel⟩, by decide⟩
      cases h
  · exact fun _ _ _ _ _ _ h => ab_no h
  · exact fun _ _ _ _ _ _ h => ab_no h
  · exact by decide +kernel
  · exact by decide +kernel
  · exact by
      intro pc E h
      simp only [M_X5_delete, ab_th] at h
      split at h
      · rename_i hi; subst hi; cases h; exact ⟨80, 82, 84, "the root can't be deleted", ["java/lang/RuntimeException", "java/lang/Exception"], rfl, by decide +kernel, by decide +kernel, by decide +kernel, by decide +kernel, by decide +kernel, by decide +kernel, by decide +kernel, by decide +kernel, dX5_delete_9, dX5_delete_12, dX5_delete_13, dX5_delete_15, dX5_delete_18, by decide, by decide⟩
      cases h
  · exact by decide
  · exact by decide
def M_X5_move : ab_M := (cX5_move, [(10, 0, 0), (94, 4, 2)], [], (fun i => if i = 55 then some (4, 1, 0, 1, Sp_X5_requireNode) else if i = 88 then some (3, 2, 1, 0, Sp_X4_isWithin) else if i = 59 then some (3, 1, 1, 0, Sp_X4_childCount) else if i = 98 then some (3, 3, 0, 0, Sp_X4_transplant) else none), (fun i => if i = 63 then some (4, 2, 0, 1, Sp_X5_requirePlace) else none), (fun i => none), [], [], (fun i => if i = 22 then some 2 else none), [], 0, 4)
def Sp_X5_move : ab_TR := ab_Sem M_X5_move 4
def rm_X5_move : Room := { frames := 7, cells := 4, slots := 24, locals := 111 }
set_option maxRecDepth 20000 in
theorem so_X5_move (l : Launch) (hlt : l.stackTraces = false) : ab_Sound l yX5_move wsX5_move rm_X5_move 0 Sp_X5_move := by
  refine ab_sound (by decide +kernel) rfl rfl rfl ?_
  refine ⟨?_, ?_, ?_, ?_, ?_, ?_, ?_, ?_, ?_, ?_, ?_, ?_, ?_⟩
  · exact by decide
  · exact Or.inr hlt
  · exact by unfold ab_flok; decide +kernel
  · exact by unfold ab_plok ab_flok; decide +kernel
  · exact by decide +kernel
  · exact by
      intro idx rc n ri kc τ h
      simp only [M_X5_move, ab_cv, ab_cs, ab_cn] at h
      split at h
      · rename_i hi; subst hi; cases h; exact ⟨yX5_requireNode, cX5_requireNode, 2, _, wsX5_requireNode, _, rm_X5_requireNode, (so_X5_requireNode l hlt), gX5_move_X5_requireNode, rfl, rfl, rfl, rfl, ⟨by decide +kernel, by decide +kernel, by decide +kernel⟩, by decide⟩
      split at h
      · rename_i hi; subst hi; cases h; exact ⟨yX4_isWithin, cX4_isWithin, 3, _, wsX4_isWithin, _, rm_X4_isWithin, (so_X4_isWithin l), gX5_move_X4_isWithin, rfl, rfl, rfl, rfl, ⟨by decide +kernel, by decide +kernel, by decide +kernel⟩, by decide⟩
      split at h
      · rename_i hi; subst hi; cases h; exact ⟨yX4_childCount, cX4_childCount, 4, _, wsX4_childCount, _, rm_X4_childCount, (so_X4_childCount l), gX5_move_X4_childCount, rfl, rfl, rfl, rfl, ⟨by decide +kernel, by decide +kernel, by decide +kernel⟩, by decide⟩
      split at h
      · rename_i hi; subst hi; cases h; exact ⟨yX4_transplant, cX4_transplant, 6, _, wsX4_transplant, _, rm_X4_transplant, (so_X4_transplant l), gX5_move_X4_transplant, rfl, rfl, rfl, rfl, ⟨by decide +kernel, by decide +kernel, by decide +kernel⟩, by decide⟩
      cases h
  · exact by
      intro idx rc n ri kc τ h
      simp only [M_X5_move, ab_cv, ab_cs, ab_cn] at h
      split at h
      · rename_i hi; subst hi; cases h; exact ⟨yX5_requirePlace, cX5_requirePlace, 2, _, wsX5_requirePlace, _, rm_X5_requirePlace, (so_X5_requirePlace l hlt), gX5_move_X5_requirePlace, rfl, rfl, rfl, ⟨by decide +kernel, by decide +kernel, by decide +kernel⟩, by decide⟩
      cases h
  · exact fun _ _ _ _ _ _ h => ab_no h
  · exact by decide +kernel
  · exact by decide +kernel
  · exact by
      intro pc E h
      simp only [M_X5_move, ab_th] at h
      split at h
      · rename_i hi; subst hi; cases h; exact ⟨80, 92, 84, "a node can't be moved into its own part", ["java/lang/RuntimeException", "java/lang/Exception"], rfl, by decide +kernel, by decide +kernel, by decide +kernel, by decide +kernel, by decide +kernel, by decide +kernel, by decide +kernel, by decide +kernel, dX5_move_22, dX5_move_25, dX5_move_26, dX5_move_28, dX5_move_31, by decide, by decide⟩
      cases h
  · exact by decide
  · exact by decide
def M_X5_relabel : ab_M := (cX5_relabel, [(10, 0, 0), (102, 4, 3)], [], (fun i => if i = 55 then some (4, 1, 0, 1, Sp_X5_requireNode) else none), (fun i => if i = 66 then some (4, 1, 0, 1, Sp_X5_requireLabel) else none), (fun i => none), [], [], (fun i => none), [], 0, 2)
def Sp_X5_relabel : ab_TR := ab_Sem M_X5_relabel 3
def rm_X5_relabel : Room := { frames := 7, cells := 2, slots := 12, locals := 111 }
set_option maxRecDepth 20000 in
theorem so_X5_relabel (l : Launch) (hlt : l.stackTraces = false) : ab_Sound l yX5_relabel wsX5_relabel rm_X5_relabel 0 Sp_X5_relabel := by
  refine ab_sound (by decide +kernel) rfl rfl rfl ?_
  refine ⟨?_, ?_, ?_, ?_, ?_, ?_, ?_, ?_, ?_, ?_, ?_, ?_, ?_⟩
  · exact by decide
  · exact Or.inr hlt
  · exact by unfold ab_flok; decide +kernel
  · exact by unfold ab_plok ab_flok; decide +kernel
  · exact by decide +kernel
  · exact by
      intro idx rc n ri kc τ h
      simp only [M_X5_relabel, ab_cv, ab_cs, ab_cn] at h
      split at h
      · rename_i hi; subst hi; cases h; exact ⟨yX5_requireNode, cX5_requireNode, 2, _, wsX5_requireNode, _, rm_X5_requireNode, (so_X5_requireNode l hlt), gX5_relabel_X5_requireNode, rfl, rfl, rfl, rfl, ⟨by decide +kernel, by decide +kernel, by decide +kernel⟩, by decide⟩
      cases h
  · exact by
      intro idx rc n ri kc τ h
      simp only [M_X5_relabel, ab_cv, ab_cs, ab_cn] at h
      split at h
      · rename_i hi; subst hi; cases h; exact ⟨yX5_requireLabel, cX5_requireLabel, 1, _, wsX5_requireLabel, _, rm_X5_requireLabel, (so_X5_requireLabel l hlt), gX5_relabel_X5_requireLabel, rfl, rfl, rfl, ⟨by decide +kernel, by decide +kernel, by decide +kernel⟩, by decide⟩
      cases h
  · exact fun _ _ _ _ _ _ h => ab_no h
  · exact by decide +kernel
  · exact by decide +kernel
  · exact fun _ _ h => ab_no h
  · exact by decide
  · exact by decide
def M_X5_commit : ab_M := (cX5_commit, [(19, 0, 1), (105, 1, 3), (10, 0, 0), (49, 0, 5), (52, 0, 6)], [(49, 0, 5), (52, 0, 6)], (fun i => if i = 45 then some (1, 3, 1, 0, Sp_X1_record) else none), (fun i => none), (fun i => none), [], [], (fun i => if i = 12 then some 3 else none), [], 1, 1)
def Sp_X5_commit : ab_TR := ab_Sem M_X5_commit 1
def rm_X5_commit : Room := { frames := 6, cells := 1, slots := 6, locals := 90 }
set_option maxRecDepth 20000 in
theorem so_X5_commit (l : Launch) (hlt : l.stackTraces = false) : ab_Sound l yX5_commit wsX5_commit rm_X5_commit 1 Sp_X5_commit := by
  refine ab_sound (by decide +kernel) rfl rfl rfl ?_
  refine ⟨?_, ?_, ?_, ?_, ?_, ?_, ?_, ?_, ?_, ?_, ?_, ?_, ?_⟩
  · exact by decide
  · exact Or.inr hlt
  · exact by unfold ab_flok; decide +kernel
  · exact by unfold ab_plok ab_flok; decide +kernel
  · exact by decide +kernel
  · exact by
      intro idx rc n ri kc τ h
      simp only [M_X5_commit, ab_cv, ab_cs, ab_cn] at h
      split at h
      · rename_i hi; subst hi; cases h; exact ⟨yX1_record, cX1_record, 5, _, wsX1_record, _, rm_X1_record, (so_X1_record l), gX5_commit_X1_record, rfl, rfl, rfl, rfl, ⟨by decide +kernel, by decide +kernel, by decide +kernel⟩, by decide⟩
      cases h
  · exact fun _ _ _ _ _ _ h => ab_no h
  · exact fun _ _ _ _ _ _ h => ab_no h
  · exact by decide +kernel
  · exact by decide +kernel
  · exact by
      intro pc E h
      simp only [M_X5_commit, ab_th] at h
      split at h
      · rename_i hi; subst hi; cases h; exact ⟨69, 108, 73, "all commits were made", ["java/lang/RuntimeException", "java/lang/Exception"], rfl, by decide +kernel, by decide +kernel, by decide +kernel, by decide +kernel, by decide +kernel, by decide +kernel, by decide +kernel, by decide +kernel, dX5_commit_12, dX5_commit_15, dX5_commit_16, dX5_commit_18, dX5_commit_21, by decide, by decide⟩
      cases h
  · exact by decide
  · exact by decide
def M_X5_requireCommit : ab_M := (cX5_requireCommit, [(19, 0, 1), (105, 1, 3)], [], (fun i => none), (fun i => none), (fun i => none), [], [], (fun i => if i = 15 then some 0 else none), [], 0, 1)
def Sp_X5_requireCommit : ab_TR := ab_Sem M_X5_requireCommit 2
def rm_X5_requireCommit : Room := { frames := 6, cells := 1, slots := 6, locals := 90 }
set_option maxRecDepth 20000 in
theorem so_X5_requireCommit (l : Launch) (hlt : l.stackTraces = false) : ab_Sound l yX5_requireCommit wsX5_requireCommit rm_X5_requireCommit 0 Sp_X5_requireCommit := by
  refine ab_sound (by decide +kernel) rfl rfl rfl ?_
  refine ⟨?_, ?_, ?_, ?_, ?_, ?_, ?_, ?_, ?_, ?_, ?_, ?_, ?_⟩
  · exact by decide
  · exact Or.inr hlt
  · exact by unfold ab_flok; decide +kernel
  · exact by unfold ab_plok ab_flok; decide +kernel
  · exact by decide +kernel
  · exact fun _ _ _ _ _ _ h => ab_no h
  · exact fun _ _ _ _ _ _ h => ab_no h
  · exact fun _ _ _ _ _ _ h => ab_no h
  · exact by decide +kernel
  · exact by decide +kernel
  · exact by
      intro pc E h
      simp only [M_X5_requireCommit, ab_th] at h
      split at h
      · rename_i hi; subst hi; cases h; exact ⟨144, 204, 148, "no such commit", ["java/lang/RuntimeException", "java/lang/Exception"], rfl, by decide +kernel, by decide +kernel, by decide +kernel, by decide +kernel, by decide +kernel, by decide +kernel, by decide +kernel, by decide +kernel, dX5_requireCommit_15, dX5_requireCommit_18, dX5_requireCommit_19, dX5_requireCommit_21, dX5_requireCommit_24, by decide, by decide⟩
      cases h
  · exact by decide
  · exact by decide
def M_X5_checkout : ab_M := (cX5_checkout, [(10, 0, 0), (19, 0, 1), (113, 1, 0)], [(49, 0, 5), (52, 0, 6)], (fun i => if i = 110 then some (4, 1, 0, 1, Sp_X5_requireCommit) else if i = 117 then some (3, 1, 0, 0, Sp_X4_copyFrom) else none), (fun i => none), (fun i => none), [], [], (fun i => none), [], 0, 1)
def Sp_X5_checkout : ab_TR := ab_Sem M_X5_checkout 2
def rm_X5_checkout : Room := { frames := 7, cells := 1, slots := 6, locals := 111 }
set_option maxRecDepth 20000 in
theorem so_X5_checkout (l : Launch) (hlt : l.stackTraces = false) : ab_Sound l yX5_checkout wsX5_checkout rm_X5_checkout 0 Sp_X5_checkout := by
  refine ab_sound (by decide +kernel) rfl rfl rfl ?_
  refine ⟨?_, ?_, ?_, ?_, ?_, ?_, ?_, ?_, ?_, ?_, ?_, ?_, ?_⟩
  · exact by decide
  · exact Or.inr hlt
  · exact by unfold ab_flok; decide +kernel
  · exact by unfold ab_plok ab_flok; decide +kernel
  · exact by decide +kernel
  · exact by
      intro idx rc n ri kc τ h
      simp only [M_X5_checkout, ab_cv, ab_cs, ab_cn] at h
      split at h
      · rename_i hi; subst hi; cases h; exact ⟨yX5_requireCommit, cX5_requireCommit, 2, _, wsX5_requireCommit, _, rm_X5_requireCommit, (so_X5_requireCommit l hlt), gX5_checkout_X5_requireCommit, rfl, rfl, rfl, rfl, ⟨by decide +kernel, by decide +kernel, by decide +kernel⟩, by decide⟩
      split at h
      · rename_i hi; subst hi; cases h; exact ⟨yX4_copyFrom, cX4_copyFrom, 2, _, wsX4_copyFrom, _, rm_X4_copyFrom, (so_X4_copyFrom l), gX5_checkout_X4_copyFrom, rfl, rfl, rfl, rfl, ⟨by decide +kernel, by decide +kernel, by decide +kernel⟩, by decide⟩
      cases h
  · exact fun _ _ _ _ _ _ h => ab_no h
  · exact fun _ _ _ _ _ _ h => ab_no h
  · exact by decide +kernel
  · exact by decide +kernel
  · exact fun _ _ h => ab_no h
  · exact by decide
  · exact by decide
def M_X5_base : ab_M := (cX5_base, [(19, 0, 1)], [], (fun i => if i = 110 then some (4, 1, 0, 1, Sp_X5_requireCommit) else if i = 121 then some (1, 2, 1, 0, Sp_X1_baseOf) else none), (fun i => none), (fun i => none), [], [], (fun i => none), [], 1, 2)
def Sp_X5_base : ab_TR := ab_Sem M_X5_base 3
def rm_X5_base : Room := { frames := 7, cells := 2, slots := 12, locals := 111 }
set_option maxRecDepth 20000 in
theorem so_X5_base (l : Launch) (hlt : l.stackTraces = false) : ab_Sound l yX5_base wsX5_base rm_X5_base 1 Sp_X5_base := by
  refine ab_sound (by decide +kernel) rfl rfl rfl ?_
  refine ⟨?_, ?_, ?_, ?_, ?_, ?_, ?_, ?_, ?_, ?_, ?_, ?_, ?_⟩
  · exact by decide
  · exact Or.inr hlt
  · exact by unfold ab_flok; decide +kernel
  · exact by unfold ab_plok ab_flok; decide +kernel
  · exact by decide +kernel
  · exact by
      intro idx rc n ri kc τ h
      simp only [M_X5_base, ab_cv, ab_cs, ab_cn] at h
      split at h
      · rename_i hi; subst hi; cases h; exact ⟨yX5_requireCommit, cX5_requireCommit, 2, _, wsX5_requireCommit, _, rm_X5_requireCommit, (so_X5_requireCommit l hlt), gX5_base_X5_requireCommit, rfl, rfl, rfl, rfl, ⟨by decide +kernel, by decide +kernel, by decide +kernel⟩, by decide⟩
      split at h
      · rename_i hi; subst hi; cases h; exact ⟨yX1_baseOf, cX1_baseOf, 5, _, wsX1_baseOf, _, rm_X1_baseOf, (so_X1_baseOf l), gX5_base_X1_baseOf, rfl, rfl, rfl, rfl, ⟨by decide +kernel, by decide +kernel, by decide +kernel⟩, by decide⟩
      cases h
  · exact fun _ _ _ _ _ _ h => ab_no h
  · exact fun _ _ _ _ _ _ h => ab_no h
  · exact by decide +kernel
  · exact by decide +kernel
  · exact fun _ _ h => ab_no h
  · exact by decide
  · exact by decide
def M_X5_merge : ab_M := (cX5_merge, [(19, 0, 1), (113, 1, 0), (49, 0, 5), (52, 0, 6), (10, 0, 0), (26, 0, 2), (138, 2, 0)], [(52, 0, 6)], (fun i => if i = 110 then some (4, 1, 0, 1, Sp_X5_requireCommit) else if i = 125 then some (3, 1, 1, 0, Sp_X4_isSameAs) else if i = 121 then some (1, 2, 1, 0, Sp_X1_baseOf) else if i = 134 then some (2, 3, 1, 0, Sp_X2_run) else if i = 117 then some (3, 1, 0, 0, Sp_X4_copyFrom) else none), (fun i => none), (fun i => none), [], [], (fun i => if i = 37 then some 4 else none), [], 1, 2)
def Sp_X5_merge : ab_TR := ab_Sem M_X5_merge 4
def rm_X5_merge : Room := { frames := 7, cells := 2, slots := 12, locals := 144 }
set_option maxRecDepth 20000 in
theorem so_X5_merge (l : Launch) (hlt : l.stackTraces = false) : ab_Sound l yX5_merge wsX5_merge rm_X5_merge 1 Sp_X5_merge := by
  refine ab_sound (by decide +kernel) rfl rfl rfl ?_
  refine ⟨?_, ?_, ?_, ?_, ?_, ?_, ?_, ?_, ?_, ?_, ?_, ?_, ?_⟩
  · exact by decide
  · exact Or.inr hlt
  · exact by unfold ab_flok; decide +kernel
  · exact by unfold ab_plok ab_flok; decide +kernel
  · exact by decide +kernel
  · exact by
      intro idx rc n ri kc τ h
      simp only [M_X5_merge, ab_cv, ab_cs, ab_cn] at h
      split at h
      · rename_i hi; subst hi; cases h; exact ⟨yX5_requireCommit, cX5_requireCommit, 2, _, wsX5_requireCommit, _, rm_X5_requireCommit, (so_X5_requireCommit l hlt), gX5_merge_X5_requireCommit, rfl, rfl, rfl, rfl, ⟨by decide +kernel, by decide +kernel, by decide +kernel⟩, by decide⟩
      split at h
      · rename_i hi; subst hi; cases h; exact ⟨yX4_isSameAs, cX4_isSameAs, 4, _, wsX4_isSameAs, _, rm_X4_isSameAs, (so_X4_isSameAs l), gX5_merge_X4_isSameAs, rfl, rfl, rfl, rfl, ⟨by decide +kernel, by decide +kernel, by decide +kernel⟩, by decide⟩
      split at h
      · rename_i hi; subst hi; cases h; exact ⟨yX1_baseOf, cX1_baseOf, 5, _, wsX1_baseOf, _, rm_X1_baseOf, (so_X1_baseOf l), gX5_merge_X1_baseOf, rfl, rfl, rfl, rfl, ⟨by decide +kernel, by decide +kernel, by decide +kernel⟩, by decide⟩
      split at h
      · rename_i hi; subst hi; cases h; exact ⟨yX2_run, cX2_run, 5, _, wsX2_run, _, rm_X2_run, (so_X2_run l), gX5_merge_X2_run, rfl, rfl, rfl, rfl, ⟨by decide +kernel, by decide +kernel, by decide +kernel⟩, by decide⟩
      split at h
      · rename_i hi; subst hi; cases h; exact ⟨yX4_copyFrom, cX4_copyFrom, 2, _, wsX4_copyFrom, _, rm_X4_copyFrom, (so_X4_copyFrom l), gX5_merge_X4_copyFrom, rfl, rfl, rfl, rfl, ⟨by decide +kernel, by decide +kernel, by decide +kernel⟩, by decide⟩
      cases h
  · exact fun _ _ _ _ _ _ h => ab_no h
  · exact fun _ _ _ _ _ _ h => ab_no h
  · exact by decide +kernel
  · exact by decide +kernel
  · exact by
      intro pc E h
      simp only [M_X5_merge, ab_th] at h
      split at h
      · rename_i hi; subst hi; cases h; exact ⟨129, 131, 133, "the working tree is not the head's, or a commit is taken in", ["java/lang/RuntimeException", "java/lang/Exception"], rfl, by decide +kernel, by decide +kernel, by decide +kernel, by decide +kernel, by decide +kernel, by decide +kernel, by decide +kernel, by decide +kernel, dX5_merge_37, dX5_merge_40, dX5_merge_41, dX5_merge_43, dX5_merge_46, by decide, by decide⟩
      cases h
  · exact by decide
  · exact by decide
def M_X5_conflict : ab_M := (cX5_conflict, [(26, 0, 2), (141, 2, 2), (149, 2, 1)], [], (fun i => none), (fun i => none), (fun i => none), [], [], (fun i => if i = 15 then some 0 else none), [], 1, 1)
def Sp_X5_conflict : ab_TR := ab_Sem M_X5_conflict 2
def rm_X5_conflict : Room := { frames := 6, cells := 1, slots := 6, locals := 90 }
set_option maxRecDepth 20000 in
theorem so_X5_conflict (l : Launch) (hlt : l.stackTraces = false) : ab_Sound l yX5_conflict wsX5_conflict rm_X5_conflict 1 Sp_X5_conflict := by
  refine ab_sound (by decide +kernel) rfl rfl rfl ?_
  refine ⟨?_, ?_, ?_, ?_, ?_, ?_, ?_, ?_, ?_, ?_, ?_, ?_, ?_⟩
  · exact by decide
  · exact Or.inr hlt
  · exact by unfold ab_flok; decide +kernel
  · exact by unfold ab_plok ab_flok; decide +kernel
  · exact by decide +kernel
  · exact fun _ _ _ _ _ _ h => ab_no h
  · exact fun _ _ _ _ _ _ h => ab_no h
  · exact fun _ _ _ _ _ _ h => ab_no h
  · exact by decide +kernel
  · exact by decide +kernel
  · exact by
      intro pc E h
      simp only [M_X5_conflict, ab_th] at h
      split at h
      · rename_i hi; subst hi; cases h; exact ⟨144, 146, 148, "no such conflict", ["java/lang/RuntimeException", "java/lang/Exception"], rfl, by decide +kernel, by decide +kernel, by decide +kernel, by decide +kernel, by decide +kernel, by decide +kernel, by decide +kernel, by decide +kernel, dX5_conflict_15, dX5_conflict_18, dX5_conflict_19, dX5_conflict_21, dX5_conflict_24, by decide, by decide⟩
      cases h
  · exact by decide
  · exact by decide
def M_X5_about : ab_M := (cX5_about, [(10, 0, 0), (102, 4, 3), (94, 4, 2), (152, 4, 1)], [], (fun i => if i = 55 then some (4, 1, 0, 1, Sp_X5_requireNode) else if i = 59 then some (3, 1, 1, 0, Sp_X4_childCount) else none), (fun i => none), (fun i => none), [], [], (fun i => if i = 75 then some 1 else none), [], 1, 2)
def Sp_X5_about : ab_TR := ab_Sem M_X5_about 3
def rm_X5_about : Room := { frames := 7, cells := 2, slots := 12, locals := 111 }
set_option maxRecDepth 20000 in
theorem so_X5_about (l : Launch) (hlt : l.stackTraces = false) : ab_Sound l yX5_about wsX5_about rm_X5_about 1 Sp_X5_about := by
  refine ab_sound (by decide +kernel) rfl rfl rfl ?_
  refine ⟨?_, ?_, ?_, ?_, ?_, ?_, ?_, ?_, ?_, ?_, ?_, ?_, ?_⟩
  · exact by decide
  · exact Or.inr hlt
  · exact by unfold ab_flok; decide +kernel
  · exact by unfold ab_plok ab_flok; decide +kernel
  · exact by decide +kernel
  · exact by
      intro idx rc n ri kc τ h
      simp only [M_X5_about, ab_cv, ab_cs, ab_cn] at h
      split at h
      · rename_i hi; subst hi; cases h; exact ⟨yX5_requireNode, cX5_requireNode, 2, _, wsX5_requireNode, _, rm_X5_requireNode, (so_X5_requireNode l hlt), gX5_about_X5_requireNode, rfl, rfl, rfl, rfl, ⟨by decide +kernel, by decide +kernel, by decide +kernel⟩, by decide⟩
      split at h
      · rename_i hi; subst hi; cases h; exact ⟨yX4_childCount, cX4_childCount, 4, _, wsX4_childCount, _, rm_X4_childCount, (so_X4_childCount l), gX5_about_X4_childCount, rfl, rfl, rfl, rfl, ⟨by decide +kernel, by decide +kernel, by decide +kernel⟩, by decide⟩
      cases h
  · exact fun _ _ _ _ _ _ h => ab_no h
  · exact fun _ _ _ _ _ _ h => ab_no h
  · exact by decide +kernel
  · exact by decide +kernel
  · exact by
      intro pc E h
      simp only [M_X5_about, ab_th] at h
      split at h
      · rename_i hi; subst hi; cases h; exact ⟨155, 157, 159, "no such part", ["java/lang/RuntimeException", "java/lang/Exception"], rfl, by decide +kernel, by decide +kernel, by decide +kernel, by decide +kernel, by decide +kernel, by decide +kernel, by decide +kernel, by decide +kernel, dX5_about_75, dX5_about_78, dX5_about_79, dX5_about_81, dX5_about_84, by decide, by decide⟩
      cases h
  · exact by decide
  · exact by decide
def M_X5_child : ab_M := (cX5_child, [(10, 0, 0), (160, 4, 0)], [], (fun i => if i = 55 then some (4, 1, 0, 1, Sp_X5_requireNode) else if i = 59 then some (3, 1, 1, 0, Sp_X4_childCount) else if i = 163 then some (3, 2, 1, 0, Sp_X4_slotFor) else none), (fun i => if i = 63 then some (4, 2, 0, 1, Sp_X5_requirePlace) else none), (fun i => none), [], [], (fun i => none), [], 1, 2)
def Sp_X5_child : ab_TR := ab_Sem M_X5_child 3
def rm_X5_child : Room := { frames := 7, cells := 2, slots := 12, locals := 111 }
set_option maxRecDepth 20000 in
theorem so_X5_child (l : Launch) (hlt : l.stackTraces = false) : ab_Sound l yX5_child wsX5_child rm_X5_child 1 Sp_X5_child := by
  refine ab_sound (by decide +kernel) rfl rfl rfl ?_
  refine ⟨?_, ?_, ?_, ?_, ?_, ?_, ?_, ?_, ?_, ?_, ?_, ?_, ?_⟩
  · exact by decide
  · exact Or.inr hlt
  · exact by unfold ab_flok; decide +kernel
  · exact by unfold ab_plok ab_flok; decide +kernel
  · exact by decide +kernel
  · exact by
      intro idx rc n ri kc τ h
      simp only [M_X5_child, ab_cv, ab_cs, ab_cn] at h
      split at h
      · rename_i hi; subst hi; cases h; exact ⟨yX5_requireNode, cX5_requireNode, 2, _, wsX5_requireNode, _, rm_X5_requireNode, (so_X5_requireNode l hlt), gX5_child_X5_requireNode, rfl, rfl, rfl, rfl, ⟨by decide +kernel, by decide +kernel, by decide +kernel⟩, by decide⟩
      split at h
      · rename_i hi; subst hi; cases h; exact ⟨yX4_childCount, cX4_childCount, 4, _, wsX4_childCount, _, rm_X4_childCount, (so_X4_childCount l), gX5_child_X4_childCount, rfl, rfl, rfl, rfl, ⟨by decide +kernel, by decide +kernel, by decide +kernel⟩, by decide⟩
      split at h
      · rename_i hi; subst hi; cases h; exact ⟨yX4_slotFor, cX4_slotFor, 5, _, wsX4_slotFor, _, rm_X4_slotFor, (so_X4_slotFor l), gX5_child_X4_slotFor, rfl, rfl, rfl, rfl, ⟨by decide +kernel, by decide +kernel, by decide +kernel⟩, by decide⟩
      cases h
  · exact by
      intro idx rc n ri kc τ h
      simp only [M_X5_child, ab_cv, ab_cs, ab_cn] at h
      split at h
      · rename_i hi; subst hi; cases h; exact ⟨yX5_requirePlace, cX5_requirePlace, 2, _, wsX5_requirePlace, _, rm_X5_requirePlace, (so_X5_requirePlace l hlt), gX5_child_X5_requirePlace, rfl, rfl, rfl, ⟨by decide +kernel, by decide +kernel, by decide +kernel⟩, by decide⟩
      cases h
  · exact fun _ _ _ _ _ _ h => ab_no h
  · exact by decide +kernel
  · exact by decide +kernel
  · exact fun _ _ h => ab_no h
  · exact by decide
  · exact by decide
def M_X5_nodes : ab_M := (cX5_nodes, [(41, 0, 4), (10, 0, 0), (166, 4, 4)], [], (fun i => none), (fun i => none), (fun i => none), [], [], (fun i => none), [], 1, 0)
def Sp_X5_nodes : ab_TR := ab_Sem M_X5_nodes 2
def rm_X5_nodes : Room := { frames := 1, cells := 0, slots := 0, locals := 1 }
set_option maxRecDepth 20000 in
theorem so_X5_nodes (l : Launch) : ab_Sound l yX5_nodes wsX5_nodes rm_X5_nodes 1 Sp_X5_nodes := by
  refine ab_sound (by decide +kernel) rfl rfl rfl ?_
  refine ⟨?_, ?_, ?_, ?_, ?_, ?_, ?_, ?_, ?_, ?_, ?_, ?_, ?_⟩
  · exact by decide
  · exact Or.inl rfl
  · exact by unfold ab_flok; decide +kernel
  · exact by unfold ab_plok ab_flok; decide +kernel
  · exact by decide +kernel
  · exact fun _ _ _ _ _ _ h => ab_no h
  · exact fun _ _ _ _ _ _ h => ab_no h
  · exact fun _ _ _ _ _ _ h => ab_no h
  · exact by decide +kernel
  · exact by decide +kernel
  · exact fun _ _ h => ab_no h
  · exact by decide
  · exact by decide
def M_X5_count : ab_M := (cX5_count, [(10, 0, 0)], [], (fun i => none), (fun i => if i = 167 then some (0, 2, 1, 0, Sp_X3_follow) else if i = 173 then some (0, 1, 1, 0, Sp_J6_bitCount_0f7a4) else none), (fun i => none), [], [], (fun i => none), [], 1, 0)
def Sp_X5_count : ab_TR := ab_Sem M_X5_count 2
def rm_X5_count : Room := { frames := 5, cells := 0, slots := 0, locals := 95 }
set_option maxRecDepth 20000 in
theorem so_X5_count (l : Launch) : ab_Sound l yX5_count wsX5_count rm_X5_count 1 Sp_X5_count := by
  refine ab_sound (by decide +kernel) rfl rfl rfl ?_
  refine ⟨?_, ?_, ?_, ?_, ?_, ?_, ?_, ?_, ?_, ?_, ?_, ?_, ?_⟩
  · exact by decide
  · exact Or.inl rfl
  · exact by unfold ab_flok; decide +kernel
  · exact by unfold ab_plok ab_flok; decide +kernel
  · exact by decide +kernel
  · exact fun _ _ _ _ _ _ h => ab_no h
  · exact by
      intro idx rc n ri kc τ h
      simp only [M_X5_count, ab_cv, ab_cs, ab_cn] at h
      split at h
      · rename_i hi; subst hi; cases h; exact ⟨yX3_follow, cX3_follow, 6, _, wsX3_follow, _, rm_X3_follow, (so_X3_follow l), gX5_count_X3_follow, rfl, rfl, rfl, ⟨by decide +kernel, by decide +kernel, by decide +kernel⟩, by decide⟩
      split at h
      · rename_i hi; subst hi; cases h; exact ⟨yJ6_bitCount_0f7a4, cJ6_bitCount_0f7a4, 1, _, wsJ6_bitCount_0f7a4, _, rm_J6_bitCount_0f7a4, (so_J6_bitCount_0f7a4 l), gX5_count_J6_bitCount_0f7a4, rfl, rfl, rfl, ⟨by decide +kernel, by decide +kernel, by decide +kernel⟩, by decide⟩
      cases h
  · exact fun _ _ _ _ _ _ h => ab_no h
  · exact by decide +kernel
  · exact by decide +kernel
  · exact fun _ _ h => ab_no h
  · exact by decide
  · exact by decide
def M_X5_find : ab_M := (cX5_find, [(10, 0, 0)], [], (fun i => if i = 180 then some (3, 2, 1, 0, Sp_X4_pick) else none), (fun i => if i = 167 then some (0, 2, 1, 0, Sp_X3_follow) else if i = 173 then some (0, 1, 1, 0, Sp_J6_bitCount_0f7a4) else none), (fun i => none), [], [], (fun i => if i = 21 then some 0 else none), [], 1, 1)
def Sp_X5_find : ab_TR := ab_Sem M_X5_find 4
def rm_X5_find : Room := { frames := 6, cells := 1, slots := 6, locals := 95 }
set_option maxRecDepth 20000 in
theorem so_X5_find (l : Launch) (hlt : l.stackTraces = false) : ab_Sound l yX5_find wsX5_find rm_X5_find 1 Sp_X5_find := by
  refine ab_sound (by decide +kernel) rfl rfl rfl ?_
  refine ⟨?_, ?_, ?_, ?_, ?_, ?_, ?_, ?_, ?_, ?_, ?_, ?_, ?_⟩
  · exact by decide
  · exact Or.inr hlt
  · exact by unfold ab_flok; decide +kernel
  · exact by unfold ab_plok ab_flok; decide +kernel
  · exact by decide +kernel
  · exact by
      intro idx rc n ri kc τ h
      simp only [M_X5_find, ab_cv, ab_cs, ab_cn] at h
      split at h
      · rename_i hi; subst hi; cases h; exact ⟨yX4_pick, cX4_pick, 5, _, wsX4_pick, _, rm_X4_pick, (so_X4_pick l), gX5_find_X4_pick, rfl, rfl, rfl, rfl, ⟨by decide +kernel, by decide +kernel, by decide +kernel⟩, by decide⟩
      cases h
  · exact by
      intro idx rc n ri kc τ h
      simp only [M_X5_find, ab_cv, ab_cs, ab_cn] at h
      split at h
      · rename_i hi; subst hi; cases h; exact ⟨yX3_follow, cX3_follow, 6, _, wsX3_follow, _, rm_X3_follow, (so_X3_follow l), gX5_find_X3_follow, rfl, rfl, rfl, ⟨by decide +kernel, by decide +kernel, by decide +kernel⟩, by decide⟩
      split at h
      · rename_i hi; subst hi; cases h; exact ⟨yJ6_bitCount_0f7a4, cJ6_bitCount_0f7a4, 1, _, wsJ6_bitCount_0f7a4, _, rm_J6_bitCount_0f7a4, (so_J6_bitCount_0f7a4 l), gX5_find_J6_bitCount_0f7a4, rfl, rfl, rfl, ⟨by decide +kernel, by decide +kernel, by decide +kernel⟩, by decide⟩
      cases h
  · exact fun _ _ _ _ _ _ h => ab_no h
  · exact by decide +kernel
  · exact by decide +kernel
  · exact by
      intro pc E h
      simp only [M_X5_find, ab_th] at h
      split at h
      · rename_i hi; subst hi; cases h; exact ⟨144, 178, 148, "the path finds no such node", ["java/lang/RuntimeException", "java/lang/Exception"], rfl, by decide +kernel, by decide +kernel, by decide +kernel, by decide +kernel, by decide +kernel, by decide +kernel, by decide +kernel, by decide +kernel, dX5_find_21, dX5_find_24, dX5_find_25, dX5_find_27, dX5_find_30, by decide, by decide⟩
      cases h
  · exact by decide
  · exact by decide
def M_X5_alike : ab_M := (cX5_alike, [(10, 0, 0)], [], (fun i => if i = 55 then some (4, 1, 0, 1, Sp_X5_requireNode) else if i = 183 then some (3, 1, 1, 0, Sp_X4_firstAlike) else none), (fun i => none), (fun i => none), [], [], (fun i => none), [], 1, 1)
def Sp_X5_alike : ab_TR := ab_Sem M_X5_alike 2
def rm_X5_alike : Room := { frames := 7, cells := 1, slots := 6, locals := 111 }
set_option maxRecDepth 20000 in
theorem so_X5_alike (l : Launch) (hlt : l.stackTraces = false) : ab_Sound l yX5_alike wsX5_alike rm_X5_alike 1 Sp_X5_alike := by
  refine ab_sound (by decide +kernel) rfl rfl rfl ?_
  refine ⟨?_, ?_, ?_, ?_, ?_, ?_, ?_, ?_, ?_, ?_, ?_, ?_, ?_⟩
  · exact by decide
  · exact Or.inr hlt
  · exact by unfold ab_flok; decide +kernel
  · exact by unfold ab_plok ab_flok; decide +kernel
  · exact by decide +kernel
  · exact by
      intro idx rc n ri kc τ h
      simp only [M_X5_alike, ab_cv, ab_cs, ab_cn] at h
      split at h
      · rename_i hi; subst hi; cases h; exact ⟨yX5_requireNode, cX5_requireNode, 2, _, wsX5_requireNode, _, rm_X5_requireNode, (so_X5_requireNode l hlt), gX5_alike_X5_requireNode, rfl, rfl, rfl, rfl, ⟨by decide +kernel, by decide +kernel, by decide +kernel⟩, by decide⟩
      split at h
      · rename_i hi; subst hi; cases h; exact ⟨yX4_firstAlike, cX4_firstAlike, 3, _, wsX4_firstAlike, _, rm_X4_firstAlike, (so_X4_firstAlike l), gX5_alike_X4_firstAlike, rfl, rfl, rfl, rfl, ⟨by decide +kernel, by decide +kernel, by decide +kernel⟩, by decide⟩
      cases h
  · exact fun _ _ _ _ _ _ h => ab_no h
  · exact fun _ _ _ _ _ _ h => ab_no h
  · exact by decide +kernel
  · exact by decide +kernel
  · exact fun _ _ h => ab_no h
  · exact by decide
  · exact by decide
def M_X5_distance : ab_M := (cX5_distance, [(33, 0, 3), (19, 0, 1), (113, 1, 0)], [], (fun i => if i = 110 then some (4, 1, 0, 1, Sp_X5_requireCommit) else if i = 186 then some (0, 2, 1, 0, Sp_X0_between) else none), (fun i => none), (fun i => none), [], [], (fun i => none), [], 1, 2)
def Sp_X5_distance : ab_TR := ab_Sem M_X5_distance 3
def rm_X5_distance : Room := { frames := 7, cells := 2, slots := 12, locals := 121 }
set_option maxRecDepth 20000 in
theorem so_X5_distance (l : Launch) (hlt : l.stackTraces = false) : ab_Sound l yX5_distance wsX5_distance rm_X5_distance 1 Sp_X5_distance := by
  refine ab_sound (by decide +kernel) rfl rfl rfl ?_
  refine ⟨?_, ?_, ?_, ?_, ?_, ?_, ?_, ?_, ?_, ?_, ?_, ?_, ?_⟩
  · exact by decide
  · exact Or.inr hlt
  · exact by unfold ab_flok; decide +kernel
  · exact by unfold ab_plok ab_flok; decide +kernel
  · exact by decide +kernel
  · exact by
      intro idx rc n ri kc τ h
      simp only [M_X5_distance, ab_cv, ab_cs, ab_cn] at h
      split at h
      · rename_i hi; subst hi; cases h; exact ⟨yX5_requireCommit, cX5_requireCommit, 2, _, wsX5_requireCommit, _, rm_X5_requireCommit, (so_X5_requireCommit l hlt), gX5_distance_X5_requireCommit, rfl, rfl, rfl, rfl, ⟨by decide +kernel, by decide +kernel, by decide +kernel⟩, by decide⟩
      split at h
      · rename_i hi; subst hi; cases h; exact ⟨yX0_between, cX0_between, 4, _, wsX0_between, _, rm_X0_between, (so_X0_between l), gX5_distance_X0_between, rfl, rfl, rfl, rfl, ⟨by decide +kernel, by decide +kernel, by decide +kernel⟩, by decide⟩
      cases h
  · exact fun _ _ _ _ _ _ h => ab_no h
  · exact fun _ _ _ _ _ _ h => ab_no h
  · exact by decide +kernel
  · exact by decide +kernel
  · exact fun _ _ h => ab_no h
  · exact by decide
  · exact by decide
def M_X5_state : ab_M := (cX5_state, [(19, 0, 1), (105, 1, 3), (49, 0, 5), (52, 0, 6)], [], (fun i => none), (fun i => none), (fun i => none), [], [], (fun i => if i = 46 then some 2 else none), [], 1, 1)
def Sp_X5_state : ab_TR := ab_Sem M_X5_state 2
def rm_X5_state : Room := { frames := 6, cells := 1, slots := 6, locals := 90 }
set_option maxRecDepth 20000 in
theorem so_X5_state (l : Launch) (hlt : l.stackTraces = false) : ab_Sound l yX5_state wsX5_state rm_X5_state 1 Sp_X5_state := by
  refine ab_sound (by decide +kernel) rfl rfl rfl ?_
  refine ⟨?_, ?_, ?_, ?_, ?_, ?_, ?_, ?_, ?_, ?_, ?_, ?_, ?_⟩
  · exact by decide
  · exact Or.inr hlt
  · exact by unfold ab_flok; decide +kernel
  · exact by unfold ab_plok ab_flok; decide +kernel
  · exact by decide +kernel
  · exact fun _ _ _ _ _ _ h => ab_no h
  · exact fun _ _ _ _ _ _ h => ab_no h
  · exact fun _ _ _ _ _ _ h => ab_no h
  · exact by decide +kernel
  · exact by decide +kernel
  · exact by
      intro pc E h
      simp only [M_X5_state, ab_th] at h
      split at h
      · rename_i hi; subst hi; cases h; exact ⟨80, 190, 84, "no such part of the state", ["java/lang/RuntimeException", "java/lang/Exception"], rfl, by decide +kernel, by decide +kernel, by decide +kernel, by decide +kernel, by decide +kernel, by decide +kernel, by decide +kernel, by decide +kernel, dX5_state_46, dX5_state_49, dX5_state_50, dX5_state_52, dX5_state_55, by decide, by decide⟩
      cases h
  · exact by decide
  · exact by decide
def M_X5_above : ab_M := (cX5_above, [(19, 0, 1), (192, 1, 1), (195, 1, 2)], [], (fun i => if i = 110 then some (4, 1, 0, 1, Sp_X5_requireCommit) else none), (fun i => if i = 63 then some (4, 2, 0, 1, Sp_X5_requirePlace) else none), (fun i => none), [], [], (fun i => none), [], 1, 2)
def Sp_X5_above : ab_TR := ab_Sem M_X5_above 3
def rm_X5_above : Room := { frames := 7, cells := 2, slots := 12, locals := 111 }
set_option maxRecDepth 20000 in
theorem so_X5_above (l : Launch) (hlt : l.stackTraces = false) : ab_Sound l yX5_above wsX5_above rm_X5_above 1 Sp_X5_above := by
  refine ab_sound (by decide +kernel) rfl rfl rfl ?_
  refine ⟨?_, ?_, ?_, ?_, ?_, ?_, ?_, ?_, ?_, ?_, ?_, ?_, ?_⟩
  · exact by decide
  · exact Or.inr hlt
  · exact by unfold ab_flok; decide +kernel
  · exact by unfold ab_plok ab_flok; decide +kernel
  · exact by decide +kernel
  · exact by
      intro idx rc n ri kc τ h
      simp only [M_X5_above, ab_cv, ab_cs, ab_cn] at h
      split at h
      · rename_i hi; subst hi; cases h; exact ⟨yX5_requireCommit, cX5_requireCommit, 2, _, wsX5_requireCommit, _, rm_X5_requireCommit, (so_X5_requireCommit l hlt), gX5_above_X5_requireCommit, rfl, rfl, rfl, rfl, ⟨by decide +kernel, by decide +kernel, by decide +kernel⟩, by decide⟩
      cases h
  · exact by
      intro idx rc n ri kc τ h
      simp only [M_X5_above, ab_cv, ab_cs, ab_cn] at h
      split at h
      · rename_i hi; subst hi; cases h; exact ⟨yX5_requirePlace, cX5_requirePlace, 2, _, wsX5_requirePlace, _, rm_X5_requirePlace, (so_X5_requirePlace l hlt), gX5_above_X5_requirePlace, rfl, rfl, rfl, ⟨by decide +kernel, by decide +kernel, by decide +kernel⟩, by decide⟩
      cases h
  · exact fun _ _ _ _ _ _ h => ab_no h
  · exact by decide +kernel
  · exact by decide +kernel
  · exact fun _ _ h => ab_no h
  · exact by decide
  · exact by decide
def M_X6_thrown : ab_M := (cX6_thrown, [(82, 21, 0)], [], (fun i => none), (fun i => none), (fun i => none), [], [], (fun i => none), [], 1, 0)
def Sp_X6_thrown : ab_TR := ab_Sem M_X6_thrown 1
def rm_X6_thrown : Room := { frames := 1, cells := 0, slots := 0, locals := 1 }
set_option maxRecDepth 20000 in
theorem so_X6_thrown (l : Launch) : ab_Sound l yX6_thrown wsX6_thrown rm_X6_thrown 1 Sp_X6_thrown := by
  refine ab_sound (by decide +kernel) rfl rfl rfl ?_
  refine ⟨?_, ?_, ?_, ?_, ?_, ?_, ?_, ?_, ?_, ?_, ?_, ?_, ?_⟩
  · exact by decide
  · exact Or.inl rfl
  · exact by unfold ab_flok; decide +kernel
  · exact by unfold ab_plok ab_flok; decide +kernel
  · exact by decide +kernel
  · exact fun _ _ _ _ _ _ h => ab_no h
  · exact fun _ _ _ _ _ _ h => ab_no h
  · exact fun _ _ _ _ _ _ h => ab_no h
  · exact by decide +kernel
  · exact by decide +kernel
  · exact fun _ _ h => ab_no h
  · exact by decide
  · exact by decide
def M_X6_fail : ab_M := (cX6_fail, [], [(82, 21, 0)], (fun i => none), (fun i => none), (fun i => none), [], [], (fun i => none), [], 1, 0)
def Sp_X6_fail : ab_TR := ab_Sem M_X6_fail 2
def rm_X6_fail : Room := { frames := 1, cells := 0, slots := 0, locals := 1 }
set_option maxRecDepth 20000 in
theorem so_X6_fail (l : Launch) : ab_Sound l yX6_fail wsX6_fail rm_X6_fail 1 Sp_X6_fail := by
  refine ab_sound (by decide +kernel) rfl rfl rfl ?_
  refine ⟨?_, ?_, ?_, ?_, ?_, ?_, ?_, ?_, ?_, ?_, ?_, ?_, ?_⟩
  · exact by decide
  · exact Or.inl rfl
  · exact by unfold ab_flok; decide +kernel
  · exact by unfold ab_plok ab_flok; decide +kernel
  · exact by decide +kernel
  · exact fun _ _ _ _ _ _ h => ab_no h
  · exact fun _ _ _ _ _ _ h => ab_no h
  · exact fun _ _ _ _ _ _ h => ab_no h
  · exact by decide +kernel
  · exact by decide +kernel
  · exact fun _ _ h => ab_no h
  · exact by decide
  · exact by decide
def M_X6_copy : ab_M := (cX6_copy, [(7, 21, 1), (13, 21, 2), (17, 21, 3), (20, 21, 4)], [], (fun i => none), (fun i => none), (fun i => none), [], [], (fun i => none), [], 0, 0)
def Sp_X6_copy : ab_TR := ab_Sem M_X6_copy 4
def rm_X6_copy : Room := { frames := 1, cells := 0, slots := 0, locals := 1 }
set_option maxRecDepth 20000 in
theorem so_X6_copy (l : Launch) : ab_Sound l yX6_copy wsX6_copy rm_X6_copy 0 Sp_X6_copy := by
  refine ab_sound (by decide +kernel) rfl rfl rfl ?_
  refine ⟨?_, ?_, ?_, ?_, ?_, ?_, ?_, ?_, ?_, ?_, ?_, ?_, ?_⟩
  · exact by decide
  · exact Or.inl rfl
  · exact by unfold ab_flok; decide +kernel
  · exact by unfold ab_plok ab_flok; decide +kernel
  · exact by decide +kernel
  · exact fun _ _ _ _ _ _ h => ab_no h
  · exact fun _ _ _ _ _ _ h => ab_no h
  · exact fun _ _ _ _ _ _ h => ab_no h
  · exact by decide +kernel
  · exact by decide +kernel
  · exact fun _ _ h => ab_no h
  · exact by decide
  · exact by decide
def M_X6_has : ab_M := (cX6_has, [(7, 21, 1)], [], (fun i => none), (fun i => none), (fun i => none), [], [], (fun i => none), [], 2, 0)
def Sp_X6_has : ab_TR := ab_Sem M_X6_has 3
def rm_X6_has : Room := { frames := 1, cells := 0, slots := 0, locals := 1 }
set_option maxRecDepth 20000 in
theorem so_X6_has (l : Launch) : ab_Sound l yX6_has wsX6_has rm_X6_has 1 Sp_X6_has := by
  refine ab_sound (by decide +kernel) rfl rfl rfl ?_
  refine ⟨?_, ?_, ?_, ?_, ?_, ?_, ?_, ?_, ?_, ?_, ?_, ?_, ?_⟩
  · exact by decide
  · exact Or.inl rfl
  · exact by unfold ab_flok; decide +kernel
  · exact by unfold ab_plok ab_flok; decide +kernel
  · exact by decide +kernel
  · exact fun _ _ _ _ _ _ h => ab_no h
  · exact fun _ _ _ _ _ _ h => ab_no h
  · exact fun _ _ _ _ _ _ h => ab_no h
  · exact by decide +kernel
  · exact by decide +kernel
  · exact fun _ _ h => ab_no h
  · exact by decide
  · exact by decide
def M_X6_isChild : ab_M := (cX6_isChild, [(7, 21, 1), (17, 21, 3)], [], (fun i => none), (fun i => none), (fun i => none), [], [], (fun i => none), [], 2, 0)
def Sp_X6_isChild : ab_TR := ab_Sem M_X6_isChild 4
def rm_X6_isChild : Room := { frames := 1, cells := 0, slots := 0, locals := 1 }
set_option maxRecDepth 20000 in
theorem so_X6_isChild (l : Launch) : ab_Sound l yX6_isChild wsX6_isChild rm_X6_isChild 1 Sp_X6_isChild := by
  refine ab_sound (by decide +kernel) rfl rfl rfl ?_
  refine ⟨?_, ?_, ?_, ?_, ?_, ?_, ?_, ?_, ?_, ?_, ?_, ?_, ?_⟩
  · exact by decide
  · exact Or.inl rfl
  · exact by unfold ab_flok; decide +kernel
  · exact by unfold ab_plok ab_flok; decide +kernel
  · exact by decide +kernel
  · exact fun _ _ _ _ _ _ h => ab_no h
  · exact fun _ _ _ _ _ _ h => ab_no h
  · exact fun _ _ _ _ _ _ h => ab_no h
  · exact by decide +kernel
  · exact by decide +kernel
  · exact fun _ _ h => ab_no h
  · exact by decide
  · exact by decide
def M_X6_children : ab_M := (cX6_children, [], [], (fun i => if i = 85 then some (5, 3, 1, 0, Sp_X6_isChild) else none), (fun i => none), (fun i => none), [], [], (fun i => none), [], 1, 0)
def Sp_X6_children : ab_TR := ab_Sem M_X6_children 5
def rm_X6_children : Room := { frames := 2, cells := 0, slots := 0, locals := 24 }
set_option maxRecDepth 20000 in
theorem so_X6_children (l : Launch) : ab_Sound l yX6_children wsX6_children rm_X6_children 1 Sp_X6_children := by
  refine ab_sound (by decide +kernel) rfl rfl rfl ?_
  refine ⟨?_, ?_, ?_, ?_, ?_, ?_, ?_, ?_, ?_, ?_, ?_, ?_, ?_⟩
  · exact by decide
  · exact Or.inl rfl
  · exact by unfold ab_flok; decide +kernel
  · exact by unfold ab_plok ab_flok; decide +kernel
  · exact by decide +kernel
  · exact by
      intro idx rc n ri kc τ h
      simp only [M_X6_children, ab_cv, ab_cs, ab_cn] at h
      split at h
      · rename_i hi; subst hi; cases h; exact ⟨yX6_isChild, cX6_isChild, 4, _, wsX6_isChild, _, rm_X6_isChild, (so_X6_isChild l), gX6_children_X6_isChild, rfl, rfl, rfl, rfl, ⟨by decide +kernel, by decide +kernel, by decide +kernel⟩, by decide⟩
      cases h
  · exact fun _ _ _ _ _ _ h => ab_no h
  · exact fun _ _ _ _ _ _ h => ab_no h
  · exact by decide +kernel
  · exact by decide +kernel
  · exact fun _ _ h => ab_no h
  · exact by decide
  · exact by decide
def M_X6_childAt : ab_M := (cX6_childAt, [(20, 21, 4)], [], (fun i => if i = 85 then some (5, 3, 1, 0, Sp_X6_isChild) else none), (fun i => none), (fun i => none), [], [], (fun i => none), [], 1, 0)
def Sp_X6_childAt : ab_TR := ab_Sem M_X6_childAt 6
def rm_X6_childAt : Room := { frames := 2, cells := 0, slots := 0, locals := 24 }
set_option maxRecDepth 20000 in
theorem so_X6_childAt (l : Launch) : ab_Sound l yX6_childAt wsX6_childAt rm_X6_childAt 1 Sp_X6_childAt := by
  refine ab_sound (by decide +kernel) rfl rfl rfl ?_
  refine ⟨?_, ?_, ?_, ?_, ?_, ?_, ?_, ?_, ?_, ?_, ?_, ?_, ?_⟩
  · exact by decide
  · exact Or.inl rfl
  · exact by unfold ab_flok; decide +kernel
  · exact by unfold ab_plok ab_flok; decide +kernel
  · exact by decide +kernel
  · exact by
      intro idx rc n ri kc τ h
      simp only [M_X6_childAt, ab_cv, ab_cs, ab_cn] at h
      split at h
      · rename_i hi; subst hi; cases h; exact ⟨yX6_isChild, cX6_isChild, 4, _, wsX6_isChild, _, rm_X6_isChild, (so_X6_isChild l), gX6_childAt_X6_isChild, rfl, rfl, rfl, rfl, ⟨by decide +kernel, by decide +kernel, by decide +kernel⟩, by decide⟩
      cases h
  · exact fun _ _ _ _ _ _ h => ab_no h
  · exact fun _ _ _ _ _ _ h => ab_no h
  · exact by decide +kernel
  · exact by decide +kernel
  · exact fun _ _ h => ab_no h
  · exact by decide
  · exact by decide
def M_X6_isAt : ab_M := (cX6_isAt, [(17, 21, 3)], [], (fun i => none), (fun i => none), (fun i => none), [], [], (fun i => none), [], 2, 0)
def Sp_X6_isAt : ab_TR := ab_Sem M_X6_isAt 5
def rm_X6_isAt : Room := { frames := 1, cells := 0, slots := 0, locals := 1 }
set_option maxRecDepth 20000 in
theorem so_X6_isAt (l : Launch) : ab_Sound l yX6_isAt wsX6_isAt rm_X6_isAt 1 Sp_X6_isAt := by
  refine ab_sound (by decide +kernel) rfl rfl rfl ?_
  refine ⟨?_, ?_, ?_, ?_, ?_, ?_, ?_, ?_, ?_, ?_, ?_, ?_, ?_⟩
  · exact by decide
  · exact Or.inl rfl
  · exact by unfold ab_flok; decide +kernel
  · exact by unfold ab_plok ab_flok; decide +kernel
  · exact by decide +kernel
  · exact fun _ _ _ _ _ _ h => ab_no h
  · exact fun _ _ _ _ _ _ h => ab_no h
  · exact fun _ _ _ _ _ _ h => ab_no h
  · exact by decide +kernel
  · exact by decide +kernel
  · exact fun _ _ h => ab_no h
  · exact by decide
  · exact by decide
def M_X6_shift : ab_M := (cX6_shift, [(20, 21, 4)], [], (fun i => if i = 85 then some (5, 3, 1, 0, Sp_X6_isChild) else none), (fun i => none), (fun i => none), [], [], (fun i => none), [], 0, 0)
def Sp_X6_shift : ab_TR := ab_Sem M_X6_shift 6
def rm_X6_shift : Room := { frames := 2, cells := 0, slots := 0, locals := 24 }
set_option maxRecDepth 20000 in
theorem so_X6_shift (l : Launch) : ab_Sound l yX6_shift wsX6_shift rm_X6_shift 0 Sp_X6_shift := by
  refine ab_sound (by decide +kernel) rfl rfl rfl ?_
  refine ⟨?_, ?_, ?_, ?_, ?_, ?_, ?_, ?_, ?_, ?_, ?_, ?_, ?_⟩
  · exact by decide
  · exact Or.inl rfl
  · exact by unfold ab_flok; decide +kernel
  · exact by unfold ab_plok ab_flok; decide +kernel
  · exact by decide +kernel
  · exact by
      intro idx rc n ri kc τ h
      simp only [M_X6_shift, ab_cv, ab_cs, ab_cn] at h
      split at h
      · rename_i hi; subst hi; cases h; exact ⟨yX6_isChild, cX6_isChild, 4, _, wsX6_isChild, _, rm_X6_isChild, (so_X6_isChild l), gX6_shift_X6_isChild, rfl, rfl, rfl, rfl, ⟨by decide +kernel, by decide +kernel, by decide +kernel⟩, by decide⟩
      cases h
  · exact fun _ _ _ _ _ _ h => ab_no h
  · exact fun _ _ _ _ _ _ h => ab_no h
  · exact by decide +kernel
  · exact by decide +kernel
  · exact fun _ _ h => ab_no h
  · exact by decide
  · exact by decide
def M_X6_hang : ab_M := (cX6_hang, [(7, 21, 1), (17, 21, 3), (20, 21, 4)], [], (fun i => if i = 89 then some (5, 4, 0, 0, Sp_X6_shift) else none), (fun i => none), (fun i => none), [], [], (fun i => none), [], 0, 0)
def Sp_X6_hang : ab_TR := ab_Sem M_X6_hang 5
def rm_X6_hang : Room := { frames := 3, cells := 0, slots := 0, locals := 49 }
set_option maxRecDepth 20000 in
theorem so_X6_hang (l : Launch) : ab_Sound l yX6_hang wsX6_hang rm_X6_hang 0 Sp_X6_hang := by
  refine ab_sound (by decide +kernel) rfl rfl rfl ?_
  refine ⟨?_, ?_, ?_, ?_, ?_, ?_, ?_, ?_, ?_, ?_, ?_, ?_, ?_⟩
  · exact by decide
  · exact Or.inl rfl
  · exact by unfold ab_flok; decide +kernel
  · exact by unfold ab_plok ab_flok; decide +kernel
  · exact by decide +kernel
  · exact by
      intro idx rc n ri kc τ h
      simp only [M_X6_hang, ab_cv, ab_cs, ab_cn] at h
      split at h
      · rename_i hi; subst hi; cases h; exact ⟨yX6_shift, cX6_shift, 6, _, wsX6_shift, _, rm_X6_shift, (so_X6_shift l), gX6_hang_X6_shift, rfl, rfl, rfl, rfl, ⟨by decide +kernel, by decide +kernel, by decide +kernel⟩, by decide⟩
      cases h
  · exact fun _ _ _ _ _ _ h => ab_no h
  · exact fun _ _ _ _ _ _ h => ab_no h
  · exact by decide +kernel
  · exact by decide +kernel
  · exact fun _ _ h => ab_no h
  · exact by decide
  · exact by decide
def M_X6_unhang : ab_M := (cX6_unhang, [(7, 21, 1), (17, 21, 3), (20, 21, 4)], [], (fun i => if i = 89 then some (5, 4, 0, 0, Sp_X6_shift) else none), (fun i => none), (fun i => none), [], [], (fun i => none), [], 0, 0)
def Sp_X6_unhang : ab_TR := ab_Sem M_X6_unhang 3
def rm_X6_unhang : Room := { frames := 3, cells := 0, slots := 0, locals := 49 }
set_option maxRecDepth 20000 in
theorem so_X6_unhang (l : Launch) : ab_Sound l yX6_unhang wsX6_unhang rm_X6_unhang 0 Sp_X6_unhang := by
  refine ab_sound (by decide +kernel) rfl rfl rfl ?_
  refine ⟨?_, ?_, ?_, ?_, ?_, ?_, ?_, ?_, ?_, ?_, ?_, ?_, ?_⟩
  · exact by decide
  · exact Or.inl rfl
  · exact by unfold ab_flok; decide +kernel
  · exact by unfold ab_plok ab_flok; decide +kernel
  · exact by decide +kernel
  · exact by
      intro idx rc n ri kc τ h
      simp only [M_X6_unhang, ab_cv, ab_cs, ab_cn] at h
      split at h
      · rename_i hi; subst hi; cases h; exact ⟨yX6_shift, cX6_shift, 6, _, wsX6_shift, _, rm_X6_shift, (so_X6_shift l), gX6_unhang_X6_shift, rfl, rfl, rfl, rfl, ⟨by decide +kernel, by decide +kernel, by decide +kernel⟩, by decide⟩
      cases h
  · exact fun _ _ _ _ _ _ h => ab_no h
  · exact fun _ _ _ _ _ _ h => ab_no h
  · exact by decide +kernel
  · exact by decide +kernel
  · exact fun _ _ h => ab_no h
  · exact by decide
  · exact by decide
def M_X6_walk : ab_M := (cX6_walk, [(60, 21, 20), (96, 21, 21), (57, 21, 19), (93, 21, 18)], [(93, 21, 18), (96, 21, 21)], (fun i => if i = 99 then some (5, 2, 1, 0, Sp_X6_children) else if i = 103 then some (5, 3, 1, 0, Sp_X6_childAt) else none), (fun i => none), (fun i => none), [], [], (fun i => none), [], 0, 0)
def Sp_X6_walk : ab_TR := ab_Sem M_X6_walk 4
def rm_X6_walk : Room := { frames := 3, cells := 0, slots := 0, locals := 49 }
set_option maxRecDepth 20000 in
theorem so_X6_walk (l : Launch) : ab_Sound l yX6_walk wsX6_walk rm_X6_walk 0 Sp_X6_walk := by
  refine ab_sound (by decide +kernel) rfl rfl rfl ?_
  refine ⟨?_, ?_, ?_, ?_, ?_, ?_, ?_, ?_, ?_, ?_, ?_, ?_, ?_⟩
  · exact by decide
  · exact Or.inl rfl
  · exact by unfold ab_flok; decide +kernel
  · exact by unfold ab_plok ab_flok; decide +kernel
  · exact by decide +kernel
  · exact by
      intro idx rc n ri kc τ h
      simp only [M_X6_walk, ab_cv, ab_cs, ab_cn] at h
      split at h
      · rename_i hi; subst hi; cases h; exact ⟨yX6_children, cX6_children, 5, _, wsX6_children, _, rm_X6_children, (so_X6_children l), gX6_walk_X6_children, rfl, rfl, rfl, rfl, ⟨by decide +kernel, by decide +kernel, by decide +kernel⟩, by decide⟩
      split at h
      · rename_i hi; subst hi; cases h; exact ⟨yX6_childAt, cX6_childAt, 6, _, wsX6_childAt, _, rm_X6_childAt, (so_X6_childAt l), gX6_walk_X6_childAt, rfl, rfl, rfl, rfl, ⟨by decide +kernel, by decide +kernel, by decide +kernel⟩, by decide⟩
      cases h
  · exact fun _ _ _ _ _ _ h => ab_no h
  · exact fun _ _ _ _ _ _ h => ab_no h
  · exact by decide +kernel
  · exact by decide +kernel
  · exact fun _ _ h => ab_no h
  · exact by decide
  · exact by decide
def M_X6_insert : ab_M := (cX6_insert, [(23, 21, 5), (82, 21, 0), (13, 21, 2)], [(82, 21, 0), (23, 21, 5)], (fun i => if i = 107 then some (5, 2, 1, 0, Sp_X6_has) else if i = 99 then some (5, 2, 1, 0, Sp_X6_children) else if i = 111 then some (5, 4, 0, 0, Sp_X6_hang) else none), (fun i => none), (fun i => none), [], [], (fun i => none), [], 1, 0)
def Sp_X6_insert : ab_TR := ab_Sem M_X6_insert 4
def rm_X6_insert : Room := { frames := 4, cells := 0, slots := 0, locals := 73 }
set_option maxRecDepth 20000 in
theorem so_X6_insert (l : Launch) : ab_Sound l yX6_insert wsX6_insert rm_X6_insert 1 Sp_X6_insert := by
  refine ab_sound (by decide +kernel) rfl rfl rfl ?_
  refine ⟨?_, ?_, ?_, ?_, ?_, ?_, ?_, ?_, ?_, ?_, ?_, ?_, ?_⟩
  · exact by decide
  · exact Or.inl rfl
  · exact by unfold ab_flok; decide +kernel
  · exact by unfold ab_plok ab_flok; decide +kernel
  · exact by decide +kernel
  · exact by
      intro idx rc n ri kc τ h
      simp only [M_X6_insert, ab_cv, ab_cs, ab_cn] at h
      split at h
      · rename_i hi; subst hi; cases h; exact ⟨yX6_has, cX6_has, 3, _, wsX6_has, _, rm_X6_has, (so_X6_has l), gX6_insert_X6_has, rfl, rfl, rfl, rfl, ⟨by decide +kernel, by decide +kernel, by decide +kernel⟩, by decide⟩
      split at h
      · rename_i hi; subst hi; cases h; exact ⟨yX6_children, cX6_children, 5, _, wsX6_children, _, rm_X6_children, (so_X6_children l), gX6_insert_X6_children, rfl, rfl, rfl, rfl, ⟨by decide +kernel, by decide +kernel, by decide +kernel⟩, by decide⟩
      split at h
      · rename_i hi; subst hi; cases h; exact ⟨yX6_hang, cX6_hang, 5, _, wsX6_hang, _, rm_X6_hang, (so_X6_hang l), gX6_insert_X6_hang, rfl, rfl, rfl, rfl, ⟨by decide +kernel, by decide +kernel, by decide +kernel⟩, by decide⟩
      cases h
  · exact fun _ _ _ _ _ _ h => ab_no h
  · exact fun _ _ _ _ _ _ h => ab_no h
  · exact by decide +kernel
  · exact by decide +kernel
  · exact fun _ _ h => ab_no h
  · exact by decide
  · exact by decide
def M_X6_delete : ab_M := (cX6_delete, [(82, 21, 0), (93, 21, 18), (57, 21, 19), (7, 21, 1)], [(82, 21, 0)], (fun i => if i = 107 then some (5, 2, 1, 0, Sp_X6_has) else if i = 114 then some (5, 1, 0, 0, Sp_X6_walk) else if i = 118 then some (5, 2, 0, 0, Sp_X6_unhang) else if i = 121 then some (5, 3, 1, 0, Sp_X6_isAt) else none), (fun i => none), (fun i => none), [], [], (fun i => none), [], 1, 0)
def Sp_X6_delete : ab_TR := ab_Sem M_X6_delete 5
def rm_X6_delete : Room := { frames := 4, cells := 0, slots := 0, locals := 72 }
set_option maxRecDepth 20000 in
theorem so_X6_delete (l : Launch) : ab_Sound l yX6_delete wsX6_delete rm_X6_delete 1 Sp_X6_delete := by
  refine ab_sound (by decide +kernel) rfl rfl rfl ?_
  refine ⟨?_, ?_, ?_, ?_, ?_, ?_, ?_, ?_, ?_, ?_, ?_, ?_, ?_⟩
  · exact by decide
  · exact Or.inl rfl
  · exact by unfold ab_flok; decide +kernel
  · exact by unfold ab_plok ab_flok; decide +kernel
  · exact by decide +kernel
  · exact by
      intro idx rc n ri kc τ h
      simp only [M_X6_delete, ab_cv, ab_cs, ab_cn] at h
      split at h
      · rename_i hi; subst hi; cases h; exact ⟨yX6_has, cX6_has, 3, _, wsX6_has, _, rm_X6_has, (so_X6_has l), gX6_delete_X6_has, rfl, rfl, rfl, rfl, ⟨by decide +kernel, by decide +kernel, by decide +kernel⟩, by decide⟩
      split at h
      · rename_i hi; subst hi; cases h; exact ⟨yX6_walk, cX6_walk, 4, _, wsX6_walk, _, rm_X6_walk, (so_X6_walk l), gX6_delete_X6_walk, rfl, rfl, rfl, rfl, ⟨by decide +kernel, by decide +kernel, by decide +kernel⟩, by decide⟩
      split at h
      · rename_i hi; subst hi; cases h; exact ⟨yX6_unhang, cX6_unhang, 3, _, wsX6_unhang, _, rm_X6_unhang, (so_X6_unhang l), gX6_delete_X6_unhang, rfl, rfl, rfl, rfl, ⟨by decide +kernel, by decide +kernel, by decide +kernel⟩, by decide⟩
      split at h
      · rename_i hi; subst hi; cases h; exact ⟨yX6_isAt, cX6_isAt, 5, _, wsX6_isAt, _, rm_X6_isAt, (so_X6_isAt l), gX6_delete_X6_isAt, rfl, rfl, rfl, rfl, ⟨by decide +kernel, by decide +kernel, by decide +kernel⟩, by decide⟩
      cases h
  · exact fun _ _ _ _ _ _ h => ab_no h
  · exact fun _ _ _ _ _ _ h => ab_no h
  · exact by decide +kernel
  · exact by decide +kernel
  · exact fun _ _ h => ab_no h
  · exact by decide
  · exact by decide
def M_X6_move : ab_M := (cX6_move, [(82, 21, 0), (17, 21, 3)], [(82, 21, 0)], (fun i => if i = 107 then some (5, 2, 1, 0, Sp_X6_has) else if i = 121 then some (5, 3, 1, 0, Sp_X6_isAt) else if i = 99 then some (5, 2, 1, 0, Sp_X6_children) else if i = 118 then some (5, 2, 0, 0, Sp_X6_unhang) else if i = 111 then some (5, 4, 0, 0, Sp_X6_hang) else none), (fun i => none), (fun i => none), [], [], (fun i => none), [], 0, 0)
def Sp_X6_move : ab_TR := ab_Sem M_X6_move 5
def rm_X6_move : Room := { frames := 4, cells := 0, slots := 0, locals := 73 }
set_option maxRecDepth 20000 in
theorem so_X6_move (l : Launch) : ab_Sound l yX6_move wsX6_move rm_X6_move 0 Sp_X6_move := by
  refine ab_sound (by decide +kernel) rfl rfl rfl ?_
  refine ⟨?_, ?_, ?_, ?_, ?_, ?_, ?_, ?_, ?_, ?_, ?_, ?_, ?_⟩
  · exact by decide
  · exact Or.inl rfl
  · exact by unfold ab_flok; decide +kernel
  · exact by unfold ab_plok ab_flok; decide +kernel
  · exact by decide +kernel
  · exact by
      intro idx rc n ri kc τ h
      simp only [M_X6_move, ab_cv, ab_cs, ab_cn] at h
      split at h
      · rename_i hi; subst hi; cases h; exact ⟨yX6_has, cX6_has, 3, _, wsX6_has, _, rm_X6_has, (so_X6_has l), gX6_move_X6_has, rfl, rfl, rfl, rfl, ⟨by decide +kernel, by decide +kernel, by decide +kernel⟩, by decide⟩
      split at h
      · rename_i hi; subst hi; cases h; exact ⟨yX6_isAt, cX6_isAt, 5, _, wsX6_isAt, _, rm_X6_isAt, (so_X6_isAt l), gX6_move_X6_isAt, rfl, rfl, rfl, rfl, ⟨by decide +kernel, by decide +kernel, by decide +kernel⟩, by decide⟩
      split at h
      · rename_i hi; subst hi; cases h; exact ⟨yX6_children, cX6_children, 5, _, wsX6_children, _, rm_X6_children, (so_X6_children l), gX6_move_X6_children, rfl, rfl, rfl, rfl, ⟨by decide +kernel, by decide +kernel, by decide +kernel⟩, by decide⟩
      split at h
      · rename_i hi; subst hi; cases h; exact ⟨yX6_unhang, cX6_unhang, 3, _, wsX6_unhang, _, rm_X6_unhang, (so_X6_unhang l), gX6_move_X6_unhang, rfl, rfl, rfl, rfl, ⟨by decide +kernel, by decide +kernel, by decide +kernel⟩, by decide⟩
      split at h
      · rename_i hi; subst hi; cases h; exact ⟨yX6_hang, cX6_hang, 5, _, wsX6_hang, _, rm_X6_hang, (so_X6_hang l), gX6_move_X6_hang, rfl, rfl, rfl, rfl, ⟨by decide +kernel, by decide +kernel, by decide +kernel⟩, by decide⟩
      cases h
  · exact fun _ _ _ _ _ _ h => ab_no h
  · exact fun _ _ _ _ _ _ h => ab_no h
  · exact by decide +kernel
  · exact by decide +kernel
  · exact fun _ _ h => ab_no h
  · exact by decide
  · exact by decide
def M_X6_relabel : ab_M := (cX6_relabel, [(82, 21, 0), (13, 21, 2)], [(82, 21, 0)], (fun i => if i = 107 then some (5, 2, 1, 0, Sp_X6_has) else none), (fun i => none), (fun i => none), [], [], (fun i => none), [], 0, 0)
def Sp_X6_relabel : ab_TR := ab_Sem M_X6_relabel 3
def rm_X6_relabel : Room := { frames := 2, cells := 0, slots := 0, locals := 23 }
set_option maxRecDepth 20000 in
theorem so_X6_relabel (l : Launch) : ab_Sound l yX6_relabel wsX6_relabel rm_X6_relabel 0 Sp_X6_relabel := by
  refine ab_sound (by decide +kernel) rfl rfl rfl ?_
  refine ⟨?_, ?_, ?_, ?_, ?_, ?_, ?_, ?_, ?_, ?_, ?_, ?_, ?_⟩
  · exact by decide
  · exact Or.inl rfl
  · exact by unfold ab_flok; decide +kernel
  · exact by unfold ab_plok ab_flok; decide +kernel
  · exact by decide +kernel
  · exact by
      intro idx rc n ri kc τ h
      simp only [M_X6_relabel, ab_cv, ab_cs, ab_cn] at h
      split at h
      · rename_i hi; subst hi; cases h; exact ⟨yX6_has, cX6_has, 3, _, wsX6_has, _, rm_X6_has, (so_X6_has l), gX6_relabel_X6_has, rfl, rfl, rfl, rfl, ⟨by decide +kernel, by decide +kernel, by decide +kernel⟩, by decide⟩
      cases h
  · exact fun _ _ _ _ _ _ h => ab_no h
  · exact fun _ _ _ _ _ _ h => ab_no h
  · exact by decide +kernel
  · exact by decide +kernel
  · exact fun _ _ h => ab_no h
  · exact by decide
  · exact by decide
def M_X6_commit : ab_M := (cX6_commit, [(27, 21, 6), (82, 21, 0), (30, 21, 7), (124, 21, 10), (33, 21, 8), (39, 21, 11), (36, 21, 9)], [(82, 21, 0), (124, 21, 10), (39, 21, 11), (27, 21, 6)], (fun i => if i = 78 then some (5, 2, 0, 0, Sp_X6_copy) else none), (fun i => none), (fun i => none), [], [], (fun i => none), [], 1, 0)
def Sp_X6_commit : ab_TR := ab_Sem M_X6_commit 1
def rm_X6_commit : Room := { frames := 2, cells := 0, slots := 0, locals := 24 }
set_option maxRecDepth 20000 in
theorem so_X6_commit (l : Launch) : ab_Sound l yX6_commit wsX6_commit rm_X6_commit 1 Sp_X6_commit := by
  refine ab_sound (by decide +kernel) rfl rfl rfl ?_
  refine ⟨?_, ?_, ?_, ?_, ?_, ?_, ?_, ?_, ?_, ?_, ?_, ?_, ?_⟩
  · exact by decide
  · exact Or.inl rfl
  · exact by unfold ab_flok; decide +kernel
  · exact by unfold ab_plok ab_flok; decide +kernel
  · exact by decide +kernel
  · exact by
      intro idx rc n ri kc τ h
      simp only [M_X6_commit, ab_cv, ab_cs, ab_cn] at h
      split at h
      · rename_i hi; subst hi; cases h; exact ⟨yX6_copy, cX6_copy, 4, _, wsX6_copy, _, rm_X6_copy, (so_X6_copy l), gX6_commit_X6_copy, rfl, rfl, rfl, rfl, ⟨by decide +kernel, by decide +kernel, by decide +kernel⟩, by decide⟩
      cases h
  · exact fun _ _ _ _ _ _ h => ab_no h
  · exact fun _ _ _ _ _ _ h => ab_no h
  · exact by decide +kernel
  · exact by decide +kernel
  · exact fun _ _ h => ab_no h
  · exact by decide
  · exact by decide
def M_X6_isCommit : ab_M := (cX6_isCommit, [(27, 21, 6)], [], (fun i => none), (fun i => none), (fun i => none), [], [], (fun i => none), [], 2, 0)
def Sp_X6_isCommit : ab_TR := ab_Sem M_X6_isCommit 2
def rm_X6_isCommit : Room := { frames := 1, cells := 0, slots := 0, locals := 1 }
set_option maxRecDepth 20000 in
theorem so_X6_isCommit (l : Launch) : ab_Sound l yX6_isCommit wsX6_isCommit rm_X6_isCommit 1 Sp_X6_isCommit := by
  refine ab_sound (by decide +kernel) rfl rfl rfl ?_
  refine ⟨?_, ?_, ?_, ?_, ?_, ?_, ?_, ?_, ?_, ?_, ?_, ?_, ?_⟩
  · exact by decide
  · exact Or.inl rfl
  · exact by unfold ab_flok; decide +kernel
  · exact by unfold ab_plok ab_flok; decide +kernel
  · exact by decide +kernel
  · exact fun _ _ _ _ _ _ h => ab_no h
  · exact fun _ _ _ _ _ _ h => ab_no h
  · exact fun _ _ _ _ _ _ h => ab_no h
  · exact by decide +kernel
  · exact by decide +kernel
  · exact fun _ _ h => ab_no h
  · exact by decide
  · exact by decide
def M_X6_checkout : ab_M := (cX6_checkout, [(82, 21, 0)], [(82, 21, 0), (124, 21, 10), (39, 21, 11)], (fun i => if i = 127 then some (5, 1, 1, 0, Sp_X6_isCommit) else if i = 78 then some (5, 2, 0, 0, Sp_X6_copy) else none), (fun i => none), (fun i => none), [], [], (fun i => none), [], 0, 0)
def Sp_X6_checkout : ab_TR := ab_Sem M_X6_checkout 2
def rm_X6_checkout : Room := { frames := 2, cells := 0, slots := 0, locals := 24 }
set_option maxRecDepth 20000 in
theorem so_X6_checkout (l : Launch) : ab_Sound l yX6_checkout wsX6_checkout rm_X6_checkout 0 Sp_X6_checkout := by
  refine ab_sound (by decide +kernel) rfl rfl rfl ?_
  refine ⟨?_, ?_, ?_, ?_, ?_, ?_, ?_, ?_, ?_, ?_, ?_, ?_, ?_⟩
  · exact by decide
  · exact Or.inl rfl
  · exact by unfold ab_flok; decide +kernel
  · exact by unfold ab_plok ab_flok; decide +kernel
  · exact by decide +kernel
  · exact by
      intro idx rc n ri kc τ h
      simp only [M_X6_checkout, ab_cv, ab_cs, ab_cn] at h
      split at h
      · rename_i hi; subst hi; cases h; exact ⟨yX6_isCommit, cX6_isCommit, 2, _, wsX6_isCommit, _, rm_X6_isCommit, (so_X6_isCommit l), gX6_checkout_X6_isCommit, rfl, rfl, rfl, rfl, ⟨by decide +kernel, by decide +kernel, by decide +kernel⟩, by decide⟩
      split at h
      · rename_i hi; subst hi; cases h; exact ⟨yX6_copy, cX6_copy, 4, _, wsX6_copy, _, rm_X6_copy, (so_X6_copy l), gX6_checkout_X6_copy, rfl, rfl, rfl, rfl, ⟨by decide +kernel, by decide +kernel, by decide +kernel⟩, by decide⟩
      cases h
  · exact fun _ _ _ _ _ _ h => ab_no h
  · exact fun _ _ _ _ _ _ h => ab_no h
  · exact by decide +kernel
  · exact by decide +kernel
  · exact fun _ _ h => ab_no h
  · exact by decide
  · exact by decide
def M_X6_baseOf : ab_M := (cX6_baseOf, [(36, 21, 9), (27, 21, 6)], [], (fun i => none), (fun i => none), (fun i => none), [], [], (fun i => none), [], 1, 0)
def Sp_X6_baseOf : ab_TR := ab_Sem M_X6_baseOf 7
def rm_X6_baseOf : Room := { frames := 1, cells := 0, slots := 0, locals := 1 }
set_option maxRecDepth 20000 in
theorem so_X6_baseOf (l : Launch) : ab_Sound l yX6_baseOf wsX6_baseOf rm_X6_baseOf 1 Sp_X6_baseOf := by
  refine ab_sound (by decide +kernel) rfl rfl rfl ?_
  refine ⟨?_, ?_, ?_, ?_, ?_, ?_, ?_, ?_, ?_, ?_, ?_, ?_, ?_⟩
  · exact by decide
  · exact Or.inl rfl
  · exact by unfold ab_flok; decide +kernel
  · exact by unfold ab_plok ab_flok; decide +kernel
  · exact by decide +kernel
  · exact fun _ _ _ _ _ _ h => ab_no h
  · exact fun _ _ _ _ _ _ h => ab_no h
  · exact fun _ _ _ _ _ _ h => ab_no h
  · exact by decide +kernel
  · exact by decide +kernel
  · exact fun _ _ h => ab_no h
  · exact by decide
  · exact by decide
def M_X6_base : ab_M := (cX6_base, [(82, 21, 0)], [(82, 21, 0)], (fun i => if i = 127 then some (5, 1, 1, 0, Sp_X6_isCommit) else if i = 131 then some (5, 2, 1, 0, Sp_X6_baseOf) else none), (fun i => none), (fun i => none), [], [], (fun i => none), [], 1, 0)
def Sp_X6_base : ab_TR := ab_Sem M_X6_base 3
def rm_X6_base : Room := { frames := 2, cells := 0, slots := 0, locals := 27 }
set_option maxRecDepth 20000 in
theorem so_X6_base (l : Launch) : ab_Sound l yX6_base wsX6_base rm_X6_base 1 Sp_X6_base := by
  refine ab_sound (by decide +kernel) rfl rfl rfl ?_
  refine ⟨?_, ?_, ?_, ?_, ?_, ?_, ?_, ?_, ?_, ?_, ?_, ?_, ?_⟩
  · exact by decide
  · exact Or.inl rfl
  · exact by unfold ab_flok; decide +kernel
  · exact by unfold ab_plok ab_flok; decide +kernel
  · exact by decide +kernel
  · exact by
      intro idx rc n ri kc τ h
      simp only [M_X6_base, ab_cv, ab_cs, ab_cn] at h
      split at h
      · rename_i hi; subst hi; cases h; exact ⟨yX6_isCommit, cX6_isCommit, 2, _, wsX6_isCommit, _, rm_X6_isCommit, (so_X6_isCommit l), gX6_base_X6_isCommit, rfl, rfl, rfl, rfl, ⟨by decide +kernel, by decide +kernel, by decide +kernel⟩, by decide⟩
      split at h
      · rename_i hi; subst hi; cases h; exact ⟨yX6_baseOf, cX6_baseOf, 7, _, wsX6_baseOf, _, rm_X6_baseOf, (so_X6_baseOf l), gX6_base_X6_baseOf, rfl, rfl, rfl, rfl, ⟨by decide +kernel, by decide +kernel, by decide +kernel⟩, by decide⟩
      cases h
  · exact fun _ _ _ _ _ _ h => ab_no h
  · exact fun _ _ _ _ _ _ h => ab_no h
  · exact by decide +kernel
  · exact by decide +kernel
  · exact fun _ _ h => ab_no h
  · exact by decide
  · exact by decide
def M_X6_isHeads : ab_M := (cX6_isHeads, [(124, 21, 10), (7, 21, 1), (13, 21, 2), (17, 21, 3), (20, 21, 4)], [], (fun i => none), (fun i => none), (fun i => none), [], [], (fun i => none), [], 2, 0)
def Sp_X6_isHeads : ab_TR := ab_Sem M_X6_isHeads 5
def rm_X6_isHeads : Room := { frames := 1, cells := 0, slots := 0, locals := 1 }
set_option maxRecDepth 20000 in
theorem so_X6_isHeads (l : Launch) : ab_Sound l yX6_isHeads wsX6_isHeads rm_X6_isHeads 1 Sp_X6_isHeads := by
  refine ab_sound (by decide +kernel) rfl rfl rfl ?_
  refine ⟨?_, ?_, ?_, ?_, ?_, ?_, ?_, ?_, ?_, ?_, ?_, ?_, ?_⟩
  · exact by decide
  · exact Or.inl rfl
  · exact by unfold ab_flok; decide +kernel
  · exact by unfold ab_plok ab_flok; decide +kernel
  · exact by decide +kernel
  · exact fun _ _ _ _ _ _ h => ab_no h
  · exact fun _ _ _ _ _ _ h => ab_no h
  · exact fun _ _ _ _ _ _ h => ab_no h
  · exact by decide +kernel
  · exact by decide +kernel
  · exact fun _ _ h => ab_no h
  · exact by decide
  · exact by decide
def M_X6_stay : ab_M := (cX6_stay, [(7, 21, 1), (13, 21, 2), (17, 21, 3)], [], (fun i => none), (fun i => none), (fun i => none), [], [], (fun i => none), [], 1, 0)
def Sp_X6_stay : ab_TR := ab_Sem M_X6_stay 5
def rm_X6_stay : Room := { frames := 1, cells := 0, slots := 0, locals := 1 }
set_option maxRecDepth 20000 in
theorem so_X6_stay (l : Launch) : ab_Sound l yX6_stay wsX6_stay rm_X6_stay 1 Sp_X6_stay := by
  refine ab_sound (by decide +kernel) rfl rfl rfl ?_
  refine ⟨?_, ?_, ?_, ?_, ?_, ?_, ?_, ?_, ?_, ?_, ?_, ?_, ?_⟩
  · exact by decide
  · exact Or.inl rfl
  · exact by unfold ab_flok; decide +kernel
  · exact by unfold ab_plok ab_flok; decide +kernel
  · exact by decide +kernel
  · exact fun _ _ _ _ _ _ h => ab_no h
  · exact fun _ _ _ _ _ _ h => ab_no h
  · exact fun _ _ _ _ _ _ h => ab_no h
  · exact by decide +kernel
  · exact by decide +kernel
  · exact fun _ _ h => ab_no h
  · exact by decide
  · exact by decide
def M_X6_choose : ab_M := (cX6_choose, [], [], (fun i => none), (fun i => none), (fun i => none), [], [], (fun i => none), [], 1, 0)
def Sp_X6_choose : ab_TR := ab_Sem M_X6_choose 4
def rm_X6_choose : Room := { frames := 1, cells := 0, slots := 0, locals := 1 }
set_option maxRecDepth 20000 in
theorem so_X6_choose (l : Launch) : ab_Sound l yX6_choose wsX6_choose rm_X6_choose 1 Sp_X6_choose := by
  refine ab_sound (by decide +kernel) rfl rfl rfl ?_
  refine ⟨?_, ?_, ?_, ?_, ?_, ?_, ?_, ?_, ?_, ?_, ?_, ?_, ?_⟩
  · exact by decide
  · exact Or.inl rfl
  · exact by unfold ab_flok; decide +kernel
  · exact by unfold ab_plok ab_flok; decide +kernel
  · exact by decide +kernel
  · exact fun _ _ _ _ _ _ h => ab_no h
  · exact fun _ _ _ _ _ _ h => ab_no h
  · exact fun _ _ _ _ _ _ h => ab_no h
  · exact by decide +kernel
  · exact by decide +kernel
  · exact fun _ _ h => ab_no h
  · exact by decide
  · exact by decide
def M_X6_meet : ab_M := (cX6_meet, [(124, 21, 10), (45, 21, 14), (48, 21, 15), (7, 21, 1), (51, 21, 16), (13, 21, 2), (54, 21, 17), (17, 21, 3)], [], (fun i => if i = 134 then some (5, 3, 1, 0, Sp_X6_stay) else none), (fun i => if i = 137 then some (5, 4, 1, 0, Sp_X6_choose) else none), (fun i => none), [], [], (fun i => none), [], 0, 0)
def Sp_X6_meet : ab_TR := ab_Sem M_X6_meet 10
def rm_X6_meet : Room := { frames := 2, cells := 0, slots := 0, locals := 25 }
set_option maxRecDepth 20000 in
theorem so_X6_meet (l : Launch) : ab_Sound l yX6_meet wsX6_meet rm_X6_meet 0 Sp_X6_meet := by
  refine ab_sound (by decide +kernel) rfl rfl rfl ?_
  refine ⟨?_, ?_, ?_, ?_, ?_, ?_, ?_, ?_, ?_, ?_, ?_, ?_, ?_⟩
  · exact by decide
  · exact Or.inl rfl
  · exact by unfold ab_flok; decide +kernel
  · exact by unfold ab_plok ab_flok; decide +kernel
  · exact by decide +kernel
  · exact by
      intro idx rc n ri kc τ h
      simp only [M_X6_meet, ab_cv, ab_cs, ab_cn] at h
      split at h
      · rename_i hi; subst hi; cases h; exact ⟨yX6_stay, cX6_stay, 5, _, wsX6_stay, _, rm_X6_stay, (so_X6_stay l), gX6_meet_X6_stay, rfl, rfl, rfl, rfl, ⟨by decide +kernel, by decide +kernel, by decide +kernel⟩, by decide⟩
      cases h
  · exact by
      intro idx rc n ri kc τ h
      simp only [M_X6_meet, ab_cv, ab_cs, ab_cn] at h
      split at h
      · rename_i hi; subst hi; cases h; exact ⟨yX6_choose, cX6_choose, 4, _, wsX6_choose, _, rm_X6_choose, (so_X6_choose l), gX6_meet_X6_choose, rfl, rfl, rfl, ⟨by decide +kernel, by decide +kernel, by decide +kernel⟩, by decide⟩
      cases h
  · exact fun _ _ _ _ _ _ h => ab_no h
  · exact by decide +kernel
  · exact by decide +kernel
  · exact fun _ _ h => ab_no h
  · exact by decide
  · exact by decide
def M_X6_countKinds : ab_M := (cX6_countKinds, [(48, 21, 15)], [], (fun i => none), (fun i => none), (fun i => none), [], [], (fun i => none), [], 1, 0)
def Sp_X6_countKinds : ab_TR := ab_Sem M_X6_countKinds 3
def rm_X6_countKinds : Room := { frames := 1, cells := 0, slots := 0, locals := 1 }
set_option maxRecDepth 20000 in
theorem so_X6_countKinds (l : Launch) : ab_Sound l yX6_countKinds wsX6_countKinds rm_X6_countKinds 1 Sp_X6_countKinds := by
  refine ab_sound (by decide +kernel) rfl rfl rfl ?_
  refine ⟨?_, ?_, ?_, ?_, ?_, ?_, ?_, ?_, ?_, ?_, ?_, ?_, ?_⟩
  · exact by decide
  · exact Or.inl rfl
  · exact by unfold ab_flok; decide +kernel
  · exact by unfold ab_plok ab_flok; decide +kernel
  · exact by decide +kernel
  · exact fun _ _ _ _ _ _ h => ab_no h
  · exact fun _ _ _ _ _ _ h => ab_no h
  · exact fun _ _ _ _ _ _ h => ab_no h
  · exact by decide +kernel
  · exact by decide +kernel
  · exact fun _ _ h => ab_no h
  · exact by decide
  · exact by decide
def M_X6_comes : ab_M := (cX6_comes, [(54, 21, 17)], [], (fun i => none), (fun i => none), (fun i => none), [], [], (fun i => none), [], 2, 0)
def Sp_X6_comes : ab_TR := ab_Sem M_X6_comes 4
def rm_X6_comes : Room := { frames := 1, cells := 0, slots := 0, locals := 1 }
set_option maxRecDepth 20000 in
theorem so_X6_comes (l : Launch) : ab_Sound l yX6_comes wsX6_comes rm_X6_comes 1 Sp_X6_comes := by
  refine ab_sound (by decide +kernel) rfl rfl rfl ?_
  refine ⟨?_, ?_, ?_, ?_, ?_, ?_, ?_, ?_, ?_, ?_, ?_, ?_, ?_⟩
  · exact by decide
  · exact Or.inl rfl
  · exact by unfold ab_flok; decide +kernel
  · exact by unfold ab_plok ab_flok; decide +kernel
  · exact by decide +kernel
  · exact fun _ _ _ _ _ _ h => ab_no h
  · exact fun _ _ _ _ _ _ h => ab_no h
  · exact fun _ _ _ _ _ _ h => ab_no h
  · exact by decide +kernel
  · exact by decide +kernel
  · exact fun _ _ h => ab_no h
  · exact by decide
  · exact by decide
def M_X6_findOrphans : ab_M := (cX6_findOrphans, [(48, 21, 15), (45, 21, 14), (54, 21, 17)], [], (fun i => none), (fun i => none), (fun i => none), [], [], (fun i => none), [], 0, 0)
def Sp_X6_findOrphans : ab_TR := ab_Sem M_X6_findOrphans 2
def rm_X6_findOrphans : Room := { frames := 1, cells := 0, slots := 0, locals := 1 }
set_option maxRecDepth 20000 in
theorem so_X6_findOrphans (l : Launch) : ab_Sound l yX6_findOrphans wsX6_findOrphans rm_X6_findOrphans 0 Sp_X6_findOrphans := by
  refine ab_sound (by decide +kernel) rfl rfl rfl ?_
  refine ⟨?_, ?_, ?_, ?_, ?_, ?_, ?_, ?_, ?_, ?_, ?_, ?_, ?_⟩
  · exact by decide
  · exact Or.inl rfl
  · exact by unfold ab_flok; decide +kernel
  · exact by unfold ab_plok ab_flok; decide +kernel
  · exact by decide +kernel
  · exact fun _ _ _ _ _ _ h => ab_no h
  · exact fun _ _ _ _ _ _ h => ab_no h
  · exact fun _ _ _ _ _ _ h => ab_no h
  · exact by decide +kernel
  · exact by decide +kernel
  · exact fun _ _ h => ab_no h
  · exact by decide
  · exact by decide
def M_X6_findRings : ab_M := (cX6_findRings, [(48, 21, 15), (45, 21, 14)], [], (fun i => if i = 141 then some (5, 1, 1, 0, Sp_X6_comes) else none), (fun i => none), (fun i => none), [], [], (fun i => none), [], 0, 0)
def Sp_X6_findRings : ab_TR := ab_Sem M_X6_findRings 2
def rm_X6_findRings : Room := { frames := 2, cells := 0, slots := 0, locals := 24 }
set_option maxRecDepth 20000 in
theorem so_X6_findRings (l : Launch) : ab_Sound l yX6_findRings wsX6_findRings rm_X6_findRings 0 Sp_X6_findRings := by
  refine ab_sound (by decide +kernel) rfl rfl rfl ?_
  refine ⟨?_, ?_, ?_, ?_, ?_, ?_, ?_, ?_, ?_, ?_, ?_, ?_, ?_⟩
  · exact by decide
  · exact Or.inl rfl
  · exact by unfold ab_flok; decide +kernel
  · exact by unfold ab_plok ab_flok; decide +kernel
  · exact by decide +kernel
  · exact by
      intro idx rc n ri kc τ h
      simp only [M_X6_findRings, ab_cv, ab_cs, ab_cn] at h
      split at h
      · rename_i hi; subst hi; cases h; exact ⟨yX6_comes, cX6_comes, 4, _, wsX6_comes, _, rm_X6_comes, (so_X6_comes l), gX6_findRings_X6_comes, rfl, rfl, rfl, rfl, ⟨by decide +kernel, by decide +kernel, by decide +kernel⟩, by decide⟩
      cases h
  · exact fun _ _ _ _ _ _ h => ab_no h
  · exact fun _ _ _ _ _ _ h => ab_no h
  · exact by decide +kernel
  · exact by decide +kernel
  · exact fun _ _ h => ab_no h
  · exact by decide
  · exact by decide
def M_X6_putChildren : ab_M := (cX6_putChildren, [(124, 21, 10), (45, 21, 14), (54, 21, 17), (7, 21, 1), (20, 21, 4)], [], (fun i => if i = 99 then some (5, 2, 1, 0, Sp_X6_children) else if i = 103 then some (5, 3, 1, 0, Sp_X6_childAt) else if i = 111 then some (5, 4, 0, 0, Sp_X6_hang) else none), (fun i => none), (fun i => none), [], [], (fun i => none), [], 0, 0)
def Sp_X6_putChildren : ab_TR := ab_Sem M_X6_putChildren 8
def rm_X6_putChildren : Room := { frames := 4, cells := 0, slots := 0, locals := 73 }
set_option maxRecDepth 20000 in
theorem so_X6_putChildren (l : Launch) : ab_Sound l yX6_putChildren wsX6_putChildren rm_X6_putChildren 0 Sp_X6_putChildren := by
  refine ab_sound (by decide +kernel) rfl rfl rfl ?_
  refine ⟨?_, ?_, ?_, ?_, ?_, ?_, ?_, ?_, ?_, ?_, ?_, ?_, ?_⟩
  · exact by decide
  · exact Or.inl rfl
  · exact by unfold ab_flok; decide +kernel
  · exact by unfold ab_plok ab_flok; decide +kernel
  · exact by decide +kernel
  · exact by
      intro idx rc n ri kc τ h
      simp only [M_X6_putChildren, ab_cv, ab_cs, ab_cn] at h
      split at h
      · rename_i hi; subst hi; cases h; exact ⟨yX6_children, cX6_children, 5, _, wsX6_children, _, rm_X6_children, (so_X6_children l), gX6_putChildren_X6_children, rfl, rfl, rfl, rfl, ⟨by decide +kernel, by decide +kernel, by decide +kernel⟩, by decide⟩
      split at h
      · rename_i hi; subst hi; cases h; exact ⟨yX6_childAt, cX6_childAt, 6, _, wsX6_childAt, _, rm_X6_childAt, (so_X6_childAt l), gX6_putChildren_X6_childAt, rfl, rfl, rfl, rfl, ⟨by decide +kernel, by decide +kernel, by decide +kernel⟩, by decide⟩
      split at h
      · rename_i hi; subst hi; cases h; exact ⟨yX6_hang, cX6_hang, 5, _, wsX6_hang, _, rm_X6_hang, (so_X6_hang l), gX6_putChildren_X6_hang, rfl, rfl, rfl, rfl, ⟨by decide +kernel, by decide +kernel, by decide +kernel⟩, by decide⟩
      cases h
  · exact fun _ _ _ _ _ _ h => ab_no h
  · exact fun _ _ _ _ _ _ h => ab_no h
  · exact by decide +kernel
  · exact by decide +kernel
  · exact fun _ _ h => ab_no h
  · exact by decide
  · exact by decide
def M_X6_build : ab_M := (cX6_build, [(7, 21, 1), (13, 21, 2), (45, 21, 14), (51, 21, 16), (17, 21, 3), (20, 21, 4)], [], (fun i => if i = 144 then some (5, 2, 0, 0, Sp_X6_putChildren) else if i = 78 then some (5, 2, 0, 0, Sp_X6_copy) else none), (fun i => none), (fun i => none), [], [], (fun i => none), [], 0, 0)
def Sp_X6_build : ab_TR := ab_Sem M_X6_build 3
def rm_X6_build : Room := { frames := 5, cells := 0, slots := 0, locals := 100 }
set_option maxRecDepth 20000 in
theorem so_X6_build (l : Launch) : ab_Sound l yX6_build wsX6_build rm_X6_build 0 Sp_X6_build := by
  refine ab_sound (by decide +kernel) rfl rfl rfl ?_
  refine ⟨?_, ?_, ?_, ?_, ?_, ?_, ?_, ?_, ?_, ?_, ?_, ?_, ?_⟩
  · exact by decide
  · exact Or.inl rfl
  · exact by unfold ab_flok; decide +kernel
  · exact by unfold ab_plok ab_flok; decide +kernel
  · exact by decide +kernel
  · exact by
      intro idx rc n ri kc τ h
      simp only [M_X6_build, ab_cv, ab_cs, ab_cn] at h
      split at h
      · rename_i hi; subst hi; cases h; exact ⟨yX6_putChildren, cX6_putChildren, 8, _, wsX6_putChildren, _, rm_X6_putChildren, (so_X6_putChildren l), gX6_build_X6_putChildren, rfl, rfl, rfl, rfl, ⟨by decide +kernel, by decide +kernel, by decide +kernel⟩, by decide⟩
      split at h
      · rename_i hi; subst hi; cases h; exact ⟨yX6_copy, cX6_copy, 4, _, wsX6_copy, _, rm_X6_copy, (so_X6_copy l), gX6_build_X6_copy, rfl, rfl, rfl, rfl, ⟨by decide +kernel, by decide +kernel, by decide +kernel⟩, by decide⟩
      cases h
  · exact fun _ _ _ _ _ _ h => ab_no h
  · exact fun _ _ _ _ _ _ h => ab_no h
  · exact by decide +kernel
  · exact by decide +kernel
  · exact fun _ _ h => ab_no h
  · exact by decide
  · exact by decide
def M_X6_merge : ab_M := (cX6_merge, [(39, 21, 11), (82, 21, 0), (124, 21, 10), (48, 21, 15), (42, 21, 13), (165, 21, 12)], [(82, 21, 0), (165, 21, 12), (39, 21, 11)], (fun i => if i = 127 then some (5, 1, 1, 0, Sp_X6_isCommit) else if i = 147 then some (5, 0, 1, 0, Sp_X6_isHeads) else if i = 131 then some (5, 2, 1, 0, Sp_X6_baseOf) else if i = 151 then some (5, 3, 0, 0, Sp_X6_meet) else if i = 155 then some (5, 0, 1, 0, Sp_X6_countKinds) else if i = 159 then some (5, 0, 0, 0, Sp_X6_findOrphans) else if i = 162 then some (5, 0, 0, 0, Sp_X6_findRings) else if i = 168 then some (5, 1, 0, 0, Sp_X6_build) else none), (fun i => none), (fun i => none), [], [], (fun i => none), [], 1, 0)
def Sp_X6_merge : ab_TR := ab_Sem M_X6_merge 4
def rm_X6_merge : Room := { frames := 6, cells := 0, slots := 0, locals := 122 }
set_option maxRecDepth 20000 in
theorem so_X6_merge (l : Launch) : ab_Sound l yX6_merge wsX6_merge rm_X6_merge 1 Sp_X6_merge := by
  refine ab_sound (by decide +kernel) rfl rfl rfl ?_
  refine ⟨?_, ?_, ?_, ?_, ?_, ?_, ?_, ?_, ?_, ?_, ?_, ?_, ?_⟩
  · exact by decide
  · exact Or.inl rfl
  · exact by unfold ab_flok; decide +kernel
  · exact by unfold ab_plok ab_flok; decide +kernel
  · exact by decide +kernel
  · exact by
      intro idx rc n ri kc τ h
      simp only [M_X6_merge, ab_cv, ab_cs, ab_cn] at h
      split at h
      · rename_i hi; subst hi; cases h; exact ⟨yX6_isCommit, cX6_isCommit, 2, _, wsX6_isCommit, _, rm_X6_isCommit, (so_X6_isCommit l), gX6_merge_X6_isCommit, rfl, rfl, rfl, rfl, ⟨by decide +kernel, by decide +kernel, by decide +kernel⟩, by decide⟩
      split at h
      · rename_i hi; subst hi; cases h; exact ⟨yX6_isHeads, cX6_isHeads, 5, _, wsX6_isHeads, _, rm_X6_isHeads, (so_X6_isHeads l), gX6_merge_X6_isHeads, rfl, rfl, rfl, rfl, ⟨by decide +kernel, by decide +kernel, by decide +kernel⟩, by decide⟩
      split at h
      · rename_i hi; subst hi; cases h; exact ⟨yX6_baseOf, cX6_baseOf, 7, _, wsX6_baseOf, _, rm_X6_baseOf, (so_X6_baseOf l), gX6_merge_X6_baseOf, rfl, rfl, rfl, rfl, ⟨by decide +kernel, by decide +kernel, by decide +kernel⟩, by decide⟩
      split at h
      · rename_i hi; subst hi; cases h; exact ⟨yX6_meet, cX6_meet, 10, _, wsX6_meet, _, rm_X6_meet, (so_X6_meet l), gX6_merge_X6_meet, rfl, rfl, rfl, rfl, ⟨by decide +kernel, by decide +kernel, by decide +kernel⟩, by decide⟩
      split at h
      · rename_i hi; subst hi; cases h; exact ⟨yX6_countKinds, cX6_countKinds, 3, _, wsX6_countKinds, _, rm_X6_countKinds, (so_X6_countKinds l), gX6_merge_X6_countKinds, rfl, rfl, rfl, rfl, ⟨by decide +kernel, by decide +kernel, by decide +kernel⟩, by decide⟩
      split at h
      · rename_i hi; subst hi; cases h; exact ⟨yX6_findOrphans, cX6_findOrphans, 2, _, wsX6_findOrphans, _, rm_X6_findOrphans, (so_X6_findOrphans l), gX6_merge_X6_findOrphans, rfl, rfl, rfl, rfl, ⟨by decide +kernel, by decide +kernel, by decide +kernel⟩, by decide⟩
      split at h
      · rename_i hi; subst hi; cases h; exact ⟨yX6_findRings, cX6_findRings, 2, _, wsX6_findRings, _, rm_X6_findRings, (so_X6_findRings l), gX6_merge_X6_findRings, rfl, rfl, rfl, rfl, ⟨by decide +kernel, by decide +kernel, by decide +kernel⟩, by decide⟩
      split at h
      · rename_i hi; subst hi; cases h; exact ⟨yX6_build, cX6_build, 3, _, wsX6_build, _, rm_X6_build, (so_X6_build l), gX6_merge_X6_build, rfl, rfl, rfl, rfl, ⟨by decide +kernel, by decide +kernel, by decide +kernel⟩, by decide⟩
      cases h
  · exact fun _ _ _ _ _ _ h => ab_no h
  · exact fun _ _ _ _ _ _ h => ab_no h
  · exact by decide +kernel
  · exact by decide +kernel
  · exact fun _ _ h => ab_no h
  · exact by decide
  · exact by decide
def M_X6_conflict : ab_M := (cX6_conflict, [(165, 21, 12), (82, 21, 0), (42, 21, 13)], [(82, 21, 0)], (fun i => none), (fun i => none), (fun i => none), [], [], (fun i => none), [], 1, 0)
def Sp_X6_conflict : ab_TR := ab_Sem M_X6_conflict 2
def rm_X6_conflict : Room := { frames := 1, cells := 0, slots := 0, locals := 1 }
set_option maxRecDepth 20000 in
theorem so_X6_conflict (l : Launch) : ab_Sound l yX6_conflict wsX6_conflict rm_X6_conflict 1 Sp_X6_conflict := by
  refine ab_sound (by decide +kernel) rfl rfl rfl ?_
  refine ⟨?_, ?_, ?_, ?_, ?_, ?_, ?_, ?_, ?_, ?_, ?_, ?_, ?_⟩
  · exact by decide
  · exact Or.inl rfl
  · exact by unfold ab_flok; decide +kernel
  · exact by unfold ab_plok ab_flok; decide +kernel
  · exact by decide +kernel
  · exact fun _ _ _ _ _ _ h => ab_no h
  · exact fun _ _ _ _ _ _ h => ab_no h
  · exact fun _ _ _ _ _ _ h => ab_no h
  · exact by decide +kernel
  · exact by decide +kernel
  · exact fun _ _ h => ab_no h
  · exact by decide
  · exact by decide
def M_X6_numberOf : ab_M := (cX6_numberOf, [(57, 21, 19)], [], (fun i => if i = 114 then some (5, 1, 0, 0, Sp_X6_walk) else none), (fun i => none), (fun i => none), [], [], (fun i => none), [], 1, 0)
def Sp_X6_numberOf : ab_TR := ab_Sem M_X6_numberOf 3
def rm_X6_numberOf : Room := { frames := 4, cells := 0, slots := 0, locals := 72 }
set_option maxRecDepth 20000 in
theorem so_X6_numberOf (l : Launch) : ab_Sound l yX6_numberOf wsX6_numberOf rm_X6_numberOf 1 Sp_X6_numberOf := by
  refine ab_sound (by decide +kernel) rfl rfl rfl ?_
  refine ⟨?_, ?_, ?_, ?_, ?_, ?_, ?_, ?_, ?_, ?_, ?_, ?_, ?_⟩
  · exact by decide
  · exact Or.inl rfl
  · exact by unfold ab_flok; decide +kernel
  · exact by unfold ab_plok ab_flok; decide +kernel
  · exact by decide +kernel
  · exact by
      intro idx rc n ri kc τ h
      simp only [M_X6_numberOf, ab_cv, ab_cs, ab_cn] at h
      split at h
      · rename_i hi; subst hi; cases h; exact ⟨yX6_walk, cX6_walk, 4, _, wsX6_walk, _, rm_X6_walk, (so_X6_walk l), gX6_numberOf_X6_walk, rfl, rfl, rfl, rfl, ⟨by decide +kernel, by decide +kernel, by decide +kernel⟩, by decide⟩
      cases h
  · exact fun _ _ _ _ _ _ h => ab_no h
  · exact fun _ _ _ _ _ _ h => ab_no h
  · exact by decide +kernel
  · exact by decide +kernel
  · exact fun _ _ h => ab_no h
  · exact by decide
  · exact by decide
def M_X6_about : ab_M := (cX6_about, [(82, 21, 0), (13, 21, 2), (17, 21, 3)], [(82, 21, 0)], (fun i => if i = 107 then some (5, 2, 1, 0, Sp_X6_has) else if i = 99 then some (5, 2, 1, 0, Sp_X6_children) else if i = 171 then some (5, 1, 1, 0, Sp_X6_numberOf) else none), (fun i => none), (fun i => none), [], [], (fun i => none), [], 1, 0)
def Sp_X6_about : ab_TR := ab_Sem M_X6_about 3
def rm_X6_about : Room := { frames := 5, cells := 0, slots := 0, locals := 94 }
set_option maxRecDepth 20000 in
theorem so_X6_about (l : Launch) : ab_Sound l yX6_about wsX6_about rm_X6_about 1 Sp_X6_about := by
  refine ab_sound (by decide +kernel) rfl rfl rfl ?_
  refine ⟨?_, ?_, ?_, ?_, ?_, ?_, ?_, ?_, ?_, ?_, ?_, ?_, ?_⟩
  · exact by decide
  · exact Or.inl rfl
  · exact by unfold ab_flok; decide +kernel
  · exact by unfold ab_plok ab_flok; decide +kernel
  · exact by decide +kernel
  · exact by
      intro idx rc n ri kc τ h
      simp only [M_X6_about, ab_cv, ab_cs, ab_cn] at h
      split at h
      · rename_i hi; subst hi; cases h; exact ⟨yX6_has, cX6_has, 3, _, wsX6_has, _, rm_X6_has, (so_X6_has l), gX6_about_X6_has, rfl, rfl, rfl, rfl, ⟨by decide +kernel, by decide +kernel, by decide +kernel⟩, by decide⟩
      split at h
      · rename_i hi; subst hi; cases h; exact ⟨yX6_children, cX6_children, 5, _, wsX6_children, _, rm_X6_children, (so_X6_children l), gX6_about_X6_children, rfl, rfl, rfl, rfl, ⟨by decide +kernel, by decide +kernel, by decide +kernel⟩, by decide⟩
      split at h
      · rename_i hi; subst hi; cases h; exact ⟨yX6_numberOf, cX6_numberOf, 3, _, wsX6_numberOf, _, rm_X6_numberOf, (so_X6_numberOf l), gX6_about_X6_numberOf, rfl, rfl, rfl, rfl, ⟨by decide +kernel, by decide +kernel, by decide +kernel⟩, by decide⟩
      cases h
  · exact fun _ _ _ _ _ _ h => ab_no h
  · exact fun _ _ _ _ _ _ h => ab_no h
  · exact by decide +kernel
  · exact by decide +kernel
  · exact fun _ _ h => ab_no h
  · exact by decide
  · exact by decide
def M_X6_child : ab_M := (cX6_child, [(82, 21, 0)], [(82, 21, 0)], (fun i => if i = 107 then some (5, 2, 1, 0, Sp_X6_has) else if i = 99 then some (5, 2, 1, 0, Sp_X6_children) else if i = 103 then some (5, 3, 1, 0, Sp_X6_childAt) else none), (fun i => none), (fun i => none), [], [], (fun i => none), [], 1, 0)
def Sp_X6_child : ab_TR := ab_Sem M_X6_child 3
def rm_X6_child : Room := { frames := 3, cells := 0, slots := 0, locals := 49 }
set_option maxRecDepth 20000 in
theorem so_X6_child (l : Launch) : ab_Sound l yX6_child wsX6_child rm_X6_child 1 Sp_X6_child := by
  refine ab_sound (by decide +kernel) rfl rfl rfl ?_
  refine ⟨?_, ?_, ?_, ?_, ?_, ?_, ?_, ?_, ?_, ?_, ?_, ?_, ?_⟩
  · exact by decide
  · exact Or.inl rfl
  · exact by unfold ab_flok; decide +kernel
  · exact by unfold ab_plok ab_flok; decide +kernel
  · exact by decide +kernel
  · exact by
      intro idx rc n ri kc τ h
      simp only [M_X6_child, ab_cv, ab_cs, ab_cn] at h
      split at h
      · rename_i hi; subst hi; cases h; exact ⟨yX6_has, cX6_has, 3, _, wsX6_has, _, rm_X6_has, (so_X6_has l), gX6_child_X6_has, rfl, rfl, rfl, rfl, ⟨by decide +kernel, by decide +kernel, by decide +kernel⟩, by decide⟩
      split at h
      · rename_i hi; subst hi; cases h; exact ⟨yX6_children, cX6_children, 5, _, wsX6_children, _, rm_X6_children, (so_X6_children l), gX6_child_X6_children, rfl, rfl, rfl, rfl, ⟨by decide +kernel, by decide +kernel, by decide +kernel⟩, by decide⟩
      split at h
      · rename_i hi; subst hi; cases h; exact ⟨yX6_childAt, cX6_childAt, 6, _, wsX6_childAt, _, rm_X6_childAt, (so_X6_childAt l), gX6_child_X6_childAt, rfl, rfl, rfl, rfl, ⟨by decide +kernel, by decide +kernel, by decide +kernel⟩, by decide⟩
      cases h
  · exact fun _ _ _ _ _ _ h => ab_no h
  · exact fun _ _ _ _ _ _ h => ab_no h
  · exact by decide +kernel
  · exact by decide +kernel
  · exact fun _ _ h => ab_no h
  · exact by decide
  · exact by decide
def M_X6_nodes : ab_M := (cX6_nodes, [(23, 21, 5), (93, 21, 18)], [(82, 21, 0)], (fun i => if i = 114 then some (5, 1, 0, 0, Sp_X6_walk) else none), (fun i => none), (fun i => none), [], [], (fun i => none), [], 1, 0)
def Sp_X6_nodes : ab_TR := ab_Sem M_X6_nodes 2
def rm_X6_nodes : Room := { frames := 4, cells := 0, slots := 0, locals := 72 }
set_option maxRecDepth 20000 in
theorem so_X6_nodes (l : Launch) : ab_Sound l yX6_nodes wsX6_nodes rm_X6_nodes 1 Sp_X6_nodes := by
  refine ab_sound (by decide +kernel) rfl rfl rfl ?_
  refine ⟨?_, ?_, ?_, ?_, ?_, ?_, ?_, ?_, ?_, ?_, ?_, ?_, ?_⟩
  · exact by decide
  · exact Or.inl rfl
  · exact by unfold ab_flok; decide +kernel
  · exact by unfold ab_plok ab_flok; decide +kernel
  · exact by decide +kernel
  · exact by
      intro idx rc n ri kc τ h
      simp only [M_X6_nodes, ab_cv, ab_cs, ab_cn] at h
      split at h
      · rename_i hi; subst hi; cases h; exact ⟨yX6_walk, cX6_walk, 4, _, wsX6_walk, _, rm_X6_walk, (so_X6_walk l), gX6_nodes_X6_walk, rfl, rfl, rfl, rfl, ⟨by decide +kernel, by decide +kernel, by decide +kernel⟩, by decide⟩
      cases h
  · exact fun _ _ _ _ _ _ h => ab_no h
  · exact fun _ _ _ _ _ _ h => ab_no h
  · exact by decide +kernel
  · exact by decide +kernel
  · exact fun _ _ h => ab_no h
  · exact by decide
  · exact by decide
def M_X6_isFound : ab_M := (cX6_isFound, [(17, 21, 3), (20, 21, 4)], [], (fun i => if i = 121 then some (5, 3, 1, 0, Sp_X6_isAt) else none), (fun i => none), (fun i => none), [], [], (fun i => none), [], 2, 0)
def Sp_X6_isFound : ab_TR := ab_Sem M_X6_isFound 8
def rm_X6_isFound : Room := { frames := 2, cells := 0, slots := 0, locals := 25 }
set_option maxRecDepth 20000 in
theorem so_X6_isFound (l : Launch) : ab_Sound l yX6_isFound wsX6_isFound rm_X6_isFound 1 Sp_X6_isFound := by
  refine ab_sound (by decide +kernel) rfl rfl rfl ?_
  refine ⟨?_, ?_, ?_, ?_, ?_, ?_, ?_, ?_, ?_, ?_, ?_, ?_, ?_⟩
  · exact by decide
  · exact Or.inl rfl
  · exact by unfold ab_flok; decide +kernel
  · exact by unfold ab_plok ab_flok; decide +kernel
  · exact by decide +kernel
  · exact by
      intro idx rc n ri kc τ h
      simp only [M_X6_isFound, ab_cv, ab_cs, ab_cn] at h
      split at h
      · rename_i hi; subst hi; cases h; exact ⟨yX6_isAt, cX6_isAt, 5, _, wsX6_isAt, _, rm_X6_isAt, (so_X6_isAt l), gX6_isFound_X6_isAt, rfl, rfl, rfl, rfl, ⟨by decide +kernel, by decide +kernel, by decide +kernel⟩, by decide⟩
      cases h
  · exact fun _ _ _ _ _ _ h => ab_no h
  · exact fun _ _ _ _ _ _ h => ab_no h
  · exact by decide +kernel
  · exact by decide +kernel
  · exact fun _ _ h => ab_no h
  · exact by decide
  · exact by decide
def M_X6_found : ab_M := (cX6_found, [(7, 21, 1), (13, 21, 2)], [], (fun i => if i = 175 then some (5, 3, 1, 0, Sp_X6_isFound) else none), (fun i => none), (fun i => none), [], [], (fun i => none), [], 1, 0)
def Sp_X6_found : ab_TR := ab_Sem M_X6_found 9
def rm_X6_found : Room := { frames := 3, cells := 0, slots := 0, locals := 52 }
set_option maxRecDepth 20000 in
theorem so_X6_found (l : Launch) : ab_Sound l yX6_found wsX6_found rm_X6_found 1 Sp_X6_found := by
  refine ab_sound (by decide +kernel) rfl rfl rfl ?_
  refine ⟨?_, ?_, ?_, ?_, ?_, ?_, ?_, ?_, ?_, ?_, ?_, ?_, ?_⟩
  · exact by decide
  · exact Or.inl rfl
  · exact by unfold ab_flok; decide +kernel
  · exact by unfold ab_plok ab_flok; decide +kernel
  · exact by decide +kernel
  · exact by
      intro idx rc n ri kc τ h
      simp only [M_X6_found, ab_cv, ab_cs, ab_cn] at h
      split at h
      · rename_i hi; subst hi; cases h; exact ⟨yX6_isFound, cX6_isFound, 8, _, wsX6_isFound, _, rm_X6_isFound, (so_X6_isFound l), gX6_found_X6_isFound, rfl, rfl, rfl, rfl, ⟨by decide +kernel, by decide +kernel, by decide +kernel⟩, by decide⟩
      cases h
  · exact fun _ _ _ _ _ _ h => ab_no h
  · exact fun _ _ _ _ _ _ h => ab_no h
  · exact by decide +kernel
  · exact by decide +kernel
  · exact fun _ _ h => ab_no h
  · exact by decide
  · exact by decide
def M_X6_count : ab_M := (cX6_count, [], [(82, 21, 0)], (fun i => if i = 178 then some (5, 1, 1, 0, Sp_X6_found) else none), (fun i => none), (fun i => none), [], [], (fun i => none), [], 1, 0)
def Sp_X6_count : ab_TR := ab_Sem M_X6_count 5
def rm_X6_count : Room := { frames := 4, cells := 0, slots := 0, locals := 80 }
set_option maxRecDepth 20000 in
theorem so_X6_count (l : Launch) : ab_Sound l yX6_count wsX6_count rm_X6_count 1 Sp_X6_count := by
  refine ab_sound (by decide +kernel) rfl rfl rfl ?_
  refine ⟨?_, ?_, ?_, ?_, ?_, ?_, ?_, ?_, ?_, ?_, ?_, ?_, ?_⟩
  · exact by decide
  · exact Or.inl rfl
  · exact by unfold ab_flok; decide +kernel
  · exact by unfold ab_plok ab_flok; decide +kernel
  · exact by decide +kernel
  · exact by
      intro idx rc n ri kc τ h
      simp only [M_X6_count, ab_cv, ab_cs, ab_cn] at h
      split at h
      · rename_i hi; subst hi; cases h; exact ⟨yX6_found, cX6_found, 9, _, wsX6_found, _, rm_X6_found, (so_X6_found l), gX6_count_X6_found, rfl, rfl, rfl, rfl, ⟨by decide +kernel, by decide +kernel, by decide +kernel⟩, by decide⟩
      cases h
  · exact fun _ _ _ _ _ _ h => ab_no h
  · exact fun _ _ _ _ _ _ h => ab_no h
  · exact by decide +kernel
  · exact by decide +kernel
  · exact fun _ _ h => ab_no h
  · exact by decide
  · exact by decide
def M_X6_find : ab_M := (cX6_find, [(93, 21, 18), (57, 21, 19)], [(82, 21, 0)], (fun i => if i = 178 then some (5, 1, 1, 0, Sp_X6_found) else if i = 114 then some (5, 1, 0, 0, Sp_X6_walk) else if i = 181 then some (5, 1, 1, 0, Sp_X6_fail) else none), (fun i => none), (fun i => none), [], [], (fun i => none), [], 1, 0)
def Sp_X6_find : ab_TR := ab_Sem M_X6_find 6
def rm_X6_find : Room := { frames := 4, cells := 0, slots := 0, locals := 80 }
set_option maxRecDepth 20000 in
theorem so_X6_find (l : Launch) : ab_Sound l yX6_find wsX6_find rm_X6_find 1 Sp_X6_find := by
  refine ab_sound (by decide +kernel) rfl rfl rfl ?_
  refine ⟨?_, ?_, ?_, ?_, ?_, ?_, ?_, ?_, ?_, ?_, ?_, ?_, ?_⟩
  · exact by decide
  · exact Or.inl rfl
  · exact by unfold ab_flok; decide +kernel
  · exact by unfold ab_plok ab_flok; decide +kernel
  · exact by decide +kernel
  · exact by
      intro idx rc n ri kc τ h
      simp only [M_X6_find, ab_cv, ab_cs, ab_cn] at h
      split at h
      · rename_i hi; subst hi; cases h; exact ⟨yX6_found, cX6_found, 9, _, wsX6_found, _, rm_X6_found, (so_X6_found l), gX6_find_X6_found, rfl, rfl, rfl, rfl, ⟨by decide +kernel, by decide +kernel, by decide +kernel⟩, by decide⟩
      split at h
      · rename_i hi; subst hi; cases h; exact ⟨yX6_walk, cX6_walk, 4, _, wsX6_walk, _, rm_X6_walk, (so_X6_walk l), gX6_find_X6_walk, rfl, rfl, rfl, rfl, ⟨by decide +kernel, by decide +kernel, by decide +kernel⟩, by decide⟩
      split at h
      · rename_i hi; subst hi; cases h; exact ⟨yX6_fail, cX6_fail, 2, _, wsX6_fail, _, rm_X6_fail, (so_X6_fail l), gX6_find_X6_fail, rfl, rfl, rfl, rfl, ⟨by decide +kernel, by decide +kernel, by decide +kernel⟩, by decide⟩
      cases h
  · exact fun _ _ _ _ _ _ h => ab_no h
  · exact fun _ _ _ _ _ _ h => ab_no h
  · exact by decide +kernel
  · exact by decide +kernel
  · exact fun _ _ h => ab_no h
  · exact by decide
  · exact by decide
def M_X6_areAlike : ab_M := (cX6_areAlike, [(13, 21, 2), (63, 21, 22)], [], (fun i => if i = 99 then some (5, 2, 1, 0, Sp_X6_children) else if i = 103 then some (5, 3, 1, 0, Sp_X6_childAt) else none), (fun i => none), (fun i => none), [], [], (fun i => none), [], 2, 0)
def Sp_X6_areAlike : ab_TR := ab_Sem M_X6_areAlike 6
def rm_X6_areAlike : Room := { frames := 3, cells := 0, slots := 0, locals := 49 }
set_option maxRecDepth 20000 in
theorem so_X6_areAlike (l : Launch) : ab_Sound l yX6_areAlike wsX6_areAlike rm_X6_areAlike 1 Sp_X6_areAlike := by
  refine ab_sound (by decide +kernel) rfl rfl rfl ?_
  refine ⟨?_, ?_, ?_, ?_, ?_, ?_, ?_, ?_, ?_, ?_, ?_, ?_, ?_⟩
  · exact by decide
  · exact Or.inl rfl
  · exact by unfold ab_flok; decide +kernel
  · exact by unfold ab_plok ab_flok; decide +kernel
  · exact by decide +kernel
  · exact by
      intro idx rc n ri kc τ h
      simp only [M_X6_areAlike, ab_cv, ab_cs, ab_cn] at h
      split at h
      · rename_i hi; subst hi; cases h; exact ⟨yX6_children, cX6_children, 5, _, wsX6_children, _, rm_X6_children, (so_X6_children l), gX6_areAlike_X6_children, rfl, rfl, rfl, rfl, ⟨by decide +kernel, by decide +kernel, by decide +kernel⟩, by decide⟩
      split at h
      · rename_i hi; subst hi; cases h; exact ⟨yX6_childAt, cX6_childAt, 6, _, wsX6_childAt, _, rm_X6_childAt, (so_X6_childAt l), gX6_areAlike_X6_childAt, rfl, rfl, rfl, rfl, ⟨by decide +kernel, by decide +kernel, by decide +kernel⟩, by decide⟩
      cases h
  · exact fun _ _ _ _ _ _ h => ab_no h
  · exact fun _ _ _ _ _ _ h => ab_no h
  · exact by decide +kernel
  · exact by decide +kernel
  · exact fun _ _ h => ab_no h
  · exact by decide
  · exact by decide
def M_X6_alike : ab_M := (cX6_alike, [(82, 21, 0), (93, 21, 18), (57, 21, 19), (63, 21, 22)], [(82, 21, 0)], (fun i => if i = 107 then some (5, 2, 1, 0, Sp_X6_has) else if i = 114 then some (5, 1, 0, 0, Sp_X6_walk) else if i = 184 then some (5, 2, 1, 0, Sp_X6_areAlike) else none), (fun i => none), (fun i => none), [], [], (fun i => none), [], 1, 0)
def Sp_X6_alike : ab_TR := ab_Sem M_X6_alike 5
def rm_X6_alike : Room := { frames := 4, cells := 0, slots := 0, locals := 74 }
set_option maxRecDepth 20000 in
theorem so_X6_alike (l : Launch) : ab_Sound l yX6_alike wsX6_alike rm_X6_alike 1 Sp_X6_alike := by
  refine ab_sound (by decide +kernel) rfl rfl rfl ?_
  refine ⟨?_, ?_, ?_, ?_, ?_, ?_, ?_, ?_, ?_, ?_, ?_, ?_, ?_⟩
  · exact by decide
  · exact Or.inl rfl
  · exact by unfold ab_flok; decide +kernel
  · exact by unfold ab_plok ab_flok; decide +kernel
  · exact by decide +kernel
  · exact by
      intro idx rc n ri kc τ h
      simp only [M_X6_alike, ab_cv, ab_cs, ab_cn] at h
      split at h
      · rename_i hi; subst hi; cases h; exact ⟨yX6_has, cX6_has, 3, _, wsX6_has, _, rm_X6_has, (so_X6_has l), gX6_alike_X6_has, rfl, rfl, rfl, rfl, ⟨by decide +kernel, by decide +kernel, by decide +kernel⟩, by decide⟩
      split at h
      · rename_i hi; subst hi; cases h; exact ⟨yX6_walk, cX6_walk, 4, _, wsX6_walk, _, rm_X6_walk, (so_X6_walk l), gX6_alike_X6_walk, rfl, rfl, rfl, rfl, ⟨by decide +kernel, by decide +kernel, by decide +kernel⟩, by decide⟩
      split at h
      · rename_i hi; subst hi; cases h; exact ⟨yX6_areAlike, cX6_areAlike, 6, _, wsX6_areAlike, _, rm_X6_areAlike, (so_X6_areAlike l), gX6_alike_X6_areAlike, rfl, rfl, rfl, rfl, ⟨by decide +kernel, by decide +kernel, by decide +kernel⟩, by decide⟩
      cases h
  · exact fun _ _ _ _ _ _ h => ab_no h
  · exact fun _ _ _ _ _ _ h => ab_no h
  · exact by decide +kernel
  · exact by decide +kernel
  · exact fun _ _ h => ab_no h
  · exact by decide
  · exact by decide
def M_X6_leave : ab_M := (cX6_leave, [(93, 21, 18), (57, 21, 19), (96, 21, 21), (60, 21, 20), (66, 21, 23), (69, 21, 24)], [(96, 21, 21)], (fun i => if i = 114 then some (5, 1, 0, 0, Sp_X6_walk) else if i = 121 then some (5, 3, 1, 0, Sp_X6_isAt) else none), (fun i => none), (fun i => none), [], [], (fun i => none), [], 1, 0)
def Sp_X6_leave : ab_TR := ab_Sem M_X6_leave 7
def rm_X6_leave : Room := { frames := 4, cells := 0, slots := 0, locals := 72 }
set_option maxRecDepth 20000 in
theorem so_X6_leave (l : Launch) : ab_Sound l yX6_leave wsX6_leave rm_X6_leave 1 Sp_X6_leave := by
  refine ab_sound (by decide +kernel) rfl rfl rfl ?_
  refine ⟨?_, ?_, ?_, ?_, ?_, ?_, ?_, ?_, ?_, ?_, ?_, ?_, ?_⟩
  · exact by decide
  · exact Or.inl rfl
  · exact by unfold ab_flok; decide +kernel
  · exact by unfold ab_plok ab_flok; decide +kernel
  · exact by decide +kernel
  · exact by
      intro idx rc n ri kc τ h
      simp only [M_X6_leave, ab_cv, ab_cs, ab_cn] at h
      split at h
      · rename_i hi; subst hi; cases h; exact ⟨yX6_walk, cX6_walk, 4, _, wsX6_walk, _, rm_X6_walk, (so_X6_walk l), gX6_leave_X6_walk, rfl, rfl, rfl, rfl, ⟨by decide +kernel, by decide +kernel, by decide +kernel⟩, by decide⟩
      split at h
      · rename_i hi; subst hi; cases h; exact ⟨yX6_isAt, cX6_isAt, 5, _, wsX6_isAt, _, rm_X6_isAt, (so_X6_isAt l), gX6_leave_X6_isAt, rfl, rfl, rfl, rfl, ⟨by decide +kernel, by decide +kernel, by decide +kernel⟩, by decide⟩
      cases h
  · exact fun _ _ _ _ _ _ h => ab_no h
  · exact fun _ _ _ _ _ _ h => ab_no h
  · exact by decide +kernel
  · exact by decide +kernel
  · exact fun _ _ h => ab_no h
  · exact by decide
  · exact by decide
def M_X6_least : ab_M := (cX6_least, [], [], (fun i => none), (fun i => none), (fun i => none), [], [], (fun i => none), [], 1, 0)
def Sp_X6_least : ab_TR := ab_Sem M_X6_least 2
def rm_X6_least : Room := { frames := 1, cells := 0, slots := 0, locals := 1 }
set_option maxRecDepth 20000 in
theorem so_X6_least (l : Launch) : ab_Sound l yX6_least wsX6_least rm_X6_least 1 Sp_X6_least := by
  refine ab_sound (by decide +kernel) rfl rfl rfl ?_
  refine ⟨?_, ?_, ?_, ?_, ?_, ?_, ?_, ?_, ?_, ?_, ?_, ?_, ?_⟩
  · exact by decide
  · exact Or.inl rfl
  · exact by unfold ab_flok; decide +kernel
  · exact by unfold ab_plok ab_flok; decide +kernel
  · exact by decide +kernel
  · exact fun _ _ _ _ _ _ h => ab_no h
  · exact fun _ _ _ _ _ _ h => ab_no h
  · exact fun _ _ _ _ _ _ h => ab_no h
  · exact by decide +kernel
  · exact by decide +kernel
  · exact fun _ _ h => ab_no h
  · exact by decide
  · exact by decide
def M_X6_compare : ab_M := (cX6_compare, [(69, 21, 24), (75, 21, 26), (13, 21, 2), (66, 21, 23), (72, 21, 25)], [], (fun i => none), (fun i => if i = 187 then some (5, 2, 1, 0, Sp_X6_least) else none), (fun i => none), [], [], (fun i => none), [], 0, 0)
def Sp_X6_compare : ab_TR := ab_Sem M_X6_compare 12
def rm_X6_compare : Room := { frames := 2, cells := 0, slots := 0, locals := 22 }
set_option maxRecDepth 20000 in
theorem so_X6_compare (l : Launch) : ab_Sound l yX6_compare wsX6_compare rm_X6_compare 0 Sp_X6_compare := by
  refine ab_sound (by decide +kernel) rfl rfl rfl ?_
  refine ⟨?_, ?_, ?_, ?_, ?_, ?_, ?_, ?_, ?_, ?_, ?_, ?_, ?_⟩
  · exact by decide
  · exact Or.inl rfl
  · exact by unfold ab_flok; decide +kernel
  · exact by unfold ab_plok ab_flok; decide +kernel
  · exact by decide +kernel
  · exact fun _ _ _ _ _ _ h => ab_no h
  · exact by
      intro idx rc n ri kc τ h
      simp only [M_X6_compare, ab_cv, ab_cs, ab_cn] at h
      split at h
      · rename_i hi; subst hi; cases h; exact ⟨yX6_least, cX6_least, 2, _, wsX6_least, _, rm_X6_least, (so_X6_least l), gX6_compare_X6_least, rfl, rfl, rfl, ⟨by decide +kernel, by decide +kernel, by decide +kernel⟩, by decide⟩
      cases h
  · exact fun _ _ _ _ _ _ h => ab_no h
  · exact by decide +kernel
  · exact by decide +kernel
  · exact fun _ _ h => ab_no h
  · exact by decide
  · exact by decide
def M_X6_distance : ab_M := (cX6_distance, [(82, 21, 0), (72, 21, 25)], [(82, 21, 0)], (fun i => if i = 127 then some (5, 1, 1, 0, Sp_X6_isCommit) else if i = 190 then some (5, 2, 1, 0, Sp_X6_leave) else if i = 193 then some (5, 4, 0, 0, Sp_X6_compare) else none), (fun i => none), (fun i => none), [], [], (fun i => none), [], 1, 0)
def Sp_X6_distance : ab_TR := ab_Sem M_X6_distance 7
def rm_X6_distance : Room := { frames := 5, cells := 0, slots := 0, locals := 98 }
set_option maxRecDepth 20000 in
theorem so_X6_distance (l : Launch) : ab_Sound l yX6_distance wsX6_distance rm_X6_distance 1 Sp_X6_distance := by
  refine ab_sound (by decide +kernel) rfl rfl rfl ?_
  refine ⟨?_, ?_, ?_, ?_, ?_, ?_, ?_, ?_, ?_, ?_, ?_, ?_, ?_⟩
  · exact by decide
  · exact Or.inl rfl
  · exact by unfold ab_flok; decide +kernel
  · exact by unfold ab_plok ab_flok; decide +kernel
  · exact by decide +kernel
  · exact by
      intro idx rc n ri kc τ h
      simp only [M_X6_distance, ab_cv, ab_cs, ab_cn] at h
      split at h
      · rename_i hi; subst hi; cases h; exact ⟨yX6_isCommit, cX6_isCommit, 2, _, wsX6_isCommit, _, rm_X6_isCommit, (so_X6_isCommit l), gX6_distance_X6_isCommit, rfl, rfl, rfl, rfl, ⟨by decide +kernel, by decide +kernel, by decide +kernel⟩, by decide⟩
      split at h
      · rename_i hi; subst hi; cases h; exact ⟨yX6_leave, cX6_leave, 7, _, wsX6_leave, _, rm_X6_leave, (so_X6_leave l), gX6_distance_X6_leave, rfl, rfl, rfl, rfl, ⟨by decide +kernel, by decide +kernel, by decide +kernel⟩, by decide⟩
      split at h
      · rename_i hi; subst hi; cases h; exact ⟨yX6_compare, cX6_compare, 12, _, wsX6_compare, _, rm_X6_compare, (so_X6_compare l), gX6_distance_X6_compare, rfl, rfl, rfl, rfl, ⟨by decide +kernel, by decide +kernel, by decide +kernel⟩, by decide⟩
      cases h
  · exact fun _ _ _ _ _ _ h => ab_no h
  · exact fun _ _ _ _ _ _ h => ab_no h
  · exact by decide +kernel
  · exact by decide +kernel
  · exact fun _ _ h => ab_no h
  · exact by decide
  · exact by decide
def M_X6_state : ab_M := (cX6_state, [(82, 21, 0), (27, 21, 6), (124, 21, 10), (39, 21, 11)], [(82, 21, 0)], (fun i => none), (fun i => none), (fun i => none), [], [], (fun i => none), [], 1, 0)
def Sp_X6_state : ab_TR := ab_Sem M_X6_state 2
def rm_X6_state : Room := { frames := 1, cells := 0, slots := 0, locals := 1 }
set_option maxRecDepth 20000 in
theorem so_X6_state (l : Launch) : ab_Sound l yX6_state wsX6_state rm_X6_state 1 Sp_X6_state := by
  refine ab_sound (by decide +kernel) rfl rfl rfl ?_
  refine ⟨?_, ?_, ?_, ?_, ?_, ?_, ?_, ?_, ?_, ?_, ?_, ?_, ?_⟩
  · exact by decide
  · exact Or.inl rfl
  · exact by unfold ab_flok; decide +kernel
  · exact by unfold ab_plok ab_flok; decide +kernel
  · exact by decide +kernel
  · exact fun _ _ _ _ _ _ h => ab_no h
  · exact fun _ _ _ _ _ _ h => ab_no h
  · exact fun _ _ _ _ _ _ h => ab_no h
  · exact by decide +kernel
  · exact by decide +kernel
  · exact fun _ _ h => ab_no h
  · exact by decide
  · exact by decide
def M_X6_above : ab_M := (cX6_above, [(82, 21, 0), (30, 21, 7), (33, 21, 8)], [(82, 21, 0)], (fun i => if i = 127 then some (5, 1, 1, 0, Sp_X6_isCommit) else none), (fun i => none), (fun i => none), [], [], (fun i => none), [], 1, 0)
def Sp_X6_above : ab_TR := ab_Sem M_X6_above 3
def rm_X6_above : Room := { frames := 2, cells := 0, slots := 0, locals := 22 }
set_option maxRecDepth 20000 in
theorem so_X6_above (l : Launch) : ab_Sound l yX6_above wsX6_above rm_X6_above 1 Sp_X6_above := by
  refine ab_sound (by decide +kernel) rfl rfl rfl ?_
  refine ⟨?_, ?_, ?_, ?_, ?_, ?_, ?_, ?_, ?_, ?_, ?_, ?_, ?_⟩
  · exact by decide
  · exact Or.inl rfl
  · exact by unfold ab_flok; decide +kernel
  · exact by unfold ab_plok ab_flok; decide +kernel
  · exact by decide +kernel
  · exact by
      intro idx rc n ri kc τ h
      simp only [M_X6_above, ab_cv, ab_cs, ab_cn] at h
      split at h
      · rename_i hi; subst hi; cases h; exact ⟨yX6_isCommit, cX6_isCommit, 2, _, wsX6_isCommit, _, rm_X6_isCommit, (so_X6_isCommit l), gX6_above_X6_isCommit, rfl, rfl, rfl, rfl, ⟨by decide +kernel, by decide +kernel, by decide +kernel⟩, by decide⟩
      cases h
  · exact fun _ _ _ _ _ _ h => ab_no h
  · exact fun _ _ _ _ _ _ h => ab_no h
  · exact by decide +kernel
  · exact by decide +kernel
  · exact fun _ _ h => ab_no h
  · exact by decide
  · exact by decide
