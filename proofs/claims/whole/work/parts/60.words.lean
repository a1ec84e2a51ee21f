/-! Words of the tables -/
theorem z_in1 {w : Cond} (h : w ∈ tables_1_1) (hg : zgood w = true) : w ∈ zGW := by
  refine List.mem_filter.mpr ⟨List.mem_append_right _ ?_, hg⟩
  unfold tables_1
  exact List.mem_append_left _ h
theorem z_in2 {w : Cond} (h : w ∈ tables_1_2) (hg : zgood w = true) : w ∈ zGW := by
  refine List.mem_filter.mpr ⟨List.mem_append_right _ ?_, hg⟩
  unfold tables_1
  exact List.mem_append_right _ (List.mem_append_left _ h)
theorem z_in3 {w : Cond} (h : w ∈ tables_1_3) (hg : zgood w = true) : w ∈ zGW := by
  refine List.mem_filter.mpr ⟨List.mem_append_right _ ?_, hg⟩
  unfold tables_1
  exact List.mem_append_right _ (List.mem_append_right _ (List.mem_append_left _ h))
theorem z_in4 {w : Cond} (h : w ∈ tables_1_4) (hg : zgood w = true) : w ∈ zGW := by
  refine List.mem_filter.mpr ⟨List.mem_append_right _ ?_, hg⟩
  unfold tables_1
  exact List.mem_append_right _ (List.mem_append_right _ (List.mem_append_right _ (List.mem_append_left _ h)))
theorem z_in5 {w : Cond} (h : w ∈ tables_1_5) (hg : zgood w = true) : w ∈ zGW := by
  refine List.mem_filter.mpr ⟨List.mem_append_right _ ?_, hg⟩
  unfold tables_1
  exact List.mem_append_right _ (List.mem_append_right _ (List.mem_append_right _ (List.mem_append_right _ h)))
theorem z_inp {q : MethodName × Nat} (h : q ∈ lw_privs) : Cond.selects q.1.cls q.1 q.1 ∈ zGW := List.mem_filter.mpr ⟨List.mem_append_left _ (List.mem_map.mpr ⟨q, h, rfl⟩), rfl⟩
theorem z_int {w : Cond} (h : w ∈ tables_1) (hg : zgood w = true) : w ∈ zGW := List.mem_filter.mpr ⟨List.mem_append_right _ h, hg⟩
theorem w_ac20 : Cond.arrayClass FieldType.int ∈ zGW := z_in1 (List.mem_of_getElem? (i := 75) rfl) rfl
theorem w_ac21 : Cond.arrayClass FieldType.char ∈ zGW := z_in1 (List.mem_of_getElem? (i := 74) rfl) rfl
theorem w_ac22 : Cond.arrayClass FieldType.boolean ∈ zGW := z_in1 (List.mem_of_getElem? (i := 76) rfl) rfl
theorem w_ac23 : Cond.arrayClass FieldType.long ∈ zGW := z_in1 (List.mem_of_getElem? (i := 229) rfl) rfl
theorem w_obj1 : Cond.instanceMethod ⟨"java/lang/Object", "<init>", "()V"⟩ ∈ zGW := z_in1 (List.mem_of_getElem? (i := 20) rfl) rfl
theorem z_lay_SL : ∀ w ∈ u_ws R_SL T_SL 10, w ∈ tables_1 ∧ zgood w = true := by decide +kernel
theorem ck_SL : zCk 0 R_SL T_SL 10 := ⟨by decide, rfl, fun w hw => z_int (z_lay_SL w hw).1 (z_lay_SL w hw).2, ⟨u_SL, by decide +kernel⟩, by decide +kernel⟩
theorem df_SL : ∀ j, j < 10 → ∃ ty, parseFieldDescriptor (T_SL j).2.2.1 = some ty ∧ defaultValue ty = zdf (zty 0 j) := by
  have h : ∀ j, j < 10 → parseFieldDescriptor (T_SL j).2.2.1 = some (u_SL j) ∧ defaultValue (u_SL j) = zdf (zty 0 j) := by decide +kernel
  exact fun j hj => ⟨_, h j hj⟩
theorem z_lay_St : ∀ w ∈ u_ws R_St T_St 4, w ∈ tables_1 ∧ zgood w = true := by decide +kernel
theorem ck_St : zCk 1 R_St T_St 4 := ⟨by decide, rfl, fun w hw => z_int (z_lay_St w hw).1 (z_lay_St w hw).2, ⟨u_St, by decide +kernel⟩, by decide +kernel⟩
theorem df_St : ∀ j, j < 4 → ∃ ty, parseFieldDescriptor (T_St j).2.2.1 = some ty ∧ defaultValue ty = zdf (zty 1 j) := by
  have h : ∀ j, j < 4 → parseFieldDescriptor (T_St j).2.2.1 = some (u_St j) ∧ defaultValue (u_St j) = zdf (zty 1 j) := by decide +kernel
  exact fun j hj => ⟨_, h j hj⟩
theorem z_lay_Li : ∀ w ∈ u_ws R_Li T_Li 8, w ∈ tables_1 ∧ zgood w = true := by decide +kernel
theorem ck_Li : zCk 2 R_Li T_Li 8 := ⟨by decide, rfl, fun w hw => z_int (z_lay_Li w hw).1 (z_lay_Li w hw).2, ⟨u_Li, by decide +kernel⟩, by decide +kernel⟩
theorem df_Li : ∀ j, j < 8 → ∃ ty, parseFieldDescriptor (T_Li j).2.2.1 = some ty ∧ defaultValue ty = zdf (zty 2 j) := by
  have h : ∀ j, j < 8 → parseFieldDescriptor (T_Li j).2.2.1 = some (u_Li j) ∧ defaultValue (u_Li j) = zdf (zty 2 j) := by decide +kernel
  exact fun j hj => ⟨_, h j hj⟩
theorem z_lay_Pa : ∀ w ∈ u_ws R_Pa T_Pa 4, w ∈ tables_1 ∧ zgood w = true := by decide +kernel
theorem ck_Pa : zCk 3 R_Pa T_Pa 4 := ⟨by decide, rfl, fun w hw => z_int (z_lay_Pa w hw).1 (z_lay_Pa w hw).2, ⟨u_Pa, by decide +kernel⟩, by decide +kernel⟩
theorem df_Pa : ∀ j, j < 4 → ∃ ty, parseFieldDescriptor (T_Pa j).2.2.1 = some ty ∧ defaultValue ty = zdf (zty 3 j) := by
  have h : ∀ j, j < 4 → parseFieldDescriptor (T_Pa j).2.2.1 = some (u_Pa j) ∧ defaultValue (u_Pa j) = zdf (zty 3 j) := by decide +kernel
  exact fun j hj => ⟨_, h j hj⟩
theorem z_lay_Pt : ∀ w ∈ u_ws R_Pt T_Pt 7, w ∈ tables_1 ∧ zgood w = true := by decide +kernel
theorem ck_Pt : zCk 4 R_Pt T_Pt 7 := ⟨by decide, rfl, fun w hw => z_int (z_lay_Pt w hw).1 (z_lay_Pt w hw).2, ⟨u_Pt, by decide +kernel⟩, by decide +kernel⟩
theorem df_Pt : ∀ j, j < 7 → ∃ ty, parseFieldDescriptor (T_Pt j).2.2.1 = some ty ∧ defaultValue ty = zdf (zty 4 j) := by
  have h : ∀ j, j < 7 → parseFieldDescriptor (T_Pt j).2.2.1 = some (u_Pt j) ∧ defaultValue (u_Pt j) = zdf (zty 4 j) := by decide +kernel
  exact fun j hj => ⟨_, h j hj⟩
theorem z_lay_Pr : ∀ w ∈ u_ws R_Pr T_Pr 15, w ∈ tables_1 ∧ zgood w = true := by decide +kernel
theorem ck_Pr : zCk 5 R_Pr T_Pr 15 := ⟨by decide, rfl, fun w hw => z_int (z_lay_Pr w hw).1 (z_lay_Pr w hw).2, ⟨u_Pr, by decide +kernel⟩, by decide +kernel⟩
theorem df_Pr : ∀ j, j < 15 → ∃ ty, parseFieldDescriptor (T_Pr j).2.2.1 = some ty ∧ defaultValue ty = zdf (zty 5 j) := by
  have h : ∀ j, j < 15 → parseFieldDescriptor (T_Pr j).2.2.1 = some (u_Pr j) ∧ defaultValue (u_Pr j) = zdf (zty 5 j) := by decide +kernel
  exact fun j hj => ⟨_, h j hj⟩
theorem z_lay_Se : ∀ w ∈ u_ws R_Se T_Se 12, w ∈ tables_1 ∧ zgood w = true := by decide +kernel
theorem ck_Se : zCk 6 R_Se T_Se 12 := ⟨by decide, rfl, fun w hw => z_int (z_lay_Se w hw).1 (z_lay_Se w hw).2, ⟨u_Se, by decide +kernel⟩, by decide +kernel⟩
theorem df_Se : ∀ j, j < 12 → ∃ ty, parseFieldDescriptor (T_Se j).2.2.1 = some ty ∧ defaultValue ty = zdf (zty 6 j) := by
  have h : ∀ j, j < 12 → parseFieldDescriptor (T_Se j).2.2.1 = some (u_Se j) ∧ defaultValue (u_Se j) = zdf (zty 6 j) := by decide +kernel
  exact fun j hj => ⟨_, h j hj⟩
theorem z_lay_Ru : ∀ w ∈ u_ws R_Ru T_Ru 6, w ∈ tables_1 ∧ zgood w = true := by decide +kernel
theorem ck_Ru : zCk 7 R_Ru T_Ru 6 := ⟨by decide, rfl, fun w hw => z_int (z_lay_Ru w hw).1 (z_lay_Ru w hw).2, ⟨u_Ru, by decide +kernel⟩, by decide +kernel⟩
theorem df_Ru : ∀ j, j < 6 → ∃ ty, parseFieldDescriptor (T_Ru j).2.2.1 = some ty ∧ defaultValue ty = zdf (zty 7 j) := by
  have h : ∀ j, j < 6 → parseFieldDescriptor (T_Ru j).2.2.1 = some (u_Ru j) ∧ defaultValue (u_Ru j) = zdf (zty 7 j) := by decide +kernel
  exact fun j hj => ⟨_, h j hj⟩
theorem z_lay_Gr : ∀ w ∈ u_ws R_Gr T_Gr 10, w ∈ tables_1 ∧ zgood w = true := by decide +kernel
theorem ck_Gr : zCk 8 R_Gr T_Gr 10 := ⟨by decide, rfl, fun w hw => z_int (z_lay_Gr w hw).1 (z_lay_Gr w hw).2, ⟨u_Gr, by decide +kernel⟩, by decide +kernel⟩
theorem df_Gr : ∀ j, j < 10 → ∃ ty, parseFieldDescriptor (T_Gr j).2.2.1 = some ty ∧ defaultValue ty = zdf (zty 8 j) := by
  have h : ∀ j, j < 10 → parseFieldDescriptor (T_Gr j).2.2.1 = some (u_Gr j) ∧ defaultValue (u_Gr j) = zdf (zty 8 j) := by decide +kernel
  exact fun j hj => ⟨_, h j hj⟩
theorem z_lay_Mo : ∀ w ∈ u_ws R_Mo T_Mo 52, w ∈ tables_1 ∧ zgood w = true := by decide +kernel
theorem ck_Mo : zCk 9 R_Mo T_Mo 52 := ⟨by decide, rfl, fun w hw => z_int (z_lay_Mo w hw).1 (z_lay_Mo w hw).2, ⟨u_Mo, by decide +kernel⟩, by decide +kernel⟩
theorem df_Mo : ∀ j, j < 52 → ∃ ty, parseFieldDescriptor (T_Mo j).2.2.1 = some ty ∧ defaultValue ty = zdf (zty 9 j) := by
  have h : ∀ j, j < 52 → parseFieldDescriptor (T_Mo j).2.2.1 = some (u_Mo j) ∧ defaultValue (u_Mo j) = zdf (zty 9 j) := by decide +kernel
  exact fun j hj => ⟨_, h j hj⟩
def m_Pr_init : zM := (y_Pr_init, prog_5_method_1_code, 1, (none : Option FieldType), 1, 26)
theorem wc_Pr_init : Cond.code m_Pr_init.1 m_Pr_init.2.1 m_Pr_init.2.2.1 m_Pr_init.2.2.2.1 ∈ zGW := z_in1 (List.mem_of_getElem? (i := 26) rfl) rfl
def m_Pa_init : zM := (y_Pa_init, prog_4_method_1_code, 1, (none : Option FieldType), 1, 26)
theorem wc_Pa_init : Cond.code m_Pa_init.1 m_Pa_init.2.1 m_Pa_init.2.2.1 m_Pa_init.2.2.2.1 ∈ zGW := z_in1 (List.mem_of_getElem? (i := 83) rfl) rfl
def m_St_init : zM := (y_St_init, prog_9_method_1_code, 1, (none : Option FieldType), 1, 26)
theorem wc_St_init : Cond.code m_St_init.1 m_St_init.2.1 m_St_init.2.2.1 m_St_init.2.2.2.1 ∈ zGW := z_in1 (List.mem_of_getElem? (i := 103) rfl) rfl
def m_Se_init : zM := (y_Se_init, prog_8_method_1_code, 2, (none : Option FieldType), 1, 26)
theorem wc_Se_init : Cond.code m_Se_init.1 m_Se_init.2.1 m_Se_init.2.2.1 m_Se_init.2.2.2.1 ∈ zGW := z_in1 (List.mem_of_getElem? (i := 143) rfl) rfl
def m_Pt_init : zM := (y_Pt_init, prog_6_method_1_code, 1, (none : Option FieldType), 1, 26)
theorem wc_Pt_init : Cond.code m_Pt_init.1 m_Pt_init.2.1 m_Pt_init.2.2.1 m_Pt_init.2.2.2.1 ∈ zGW := z_in1 (List.mem_of_getElem? (i := 200) rfl) rfl
def m_Ru_init : zM := (y_Ru_init, prog_7_method_1_code, 1, (none : Option FieldType), 2, 46)
theorem wc_Ru_init : Cond.code m_Ru_init.1 m_Ru_init.2.1 m_Ru_init.2.2.1 m_Ru_init.2.2.2.1 ∈ zGW := z_in1 (List.mem_of_getElem? (i := 194) rfl) rfl
def m_Gr_init : zM := (y_Gr_init, prog_2_method_1_code, 3, (none : Option FieldType), 3, 66)
theorem wc_Gr_init : Cond.code m_Gr_init.1 m_Gr_init.2.1 m_Gr_init.2.2.1 m_Gr_init.2.2.2.1 ∈ zGW := z_in1 (List.mem_of_getElem? (i := 133) rfl) rfl
def m_Li_init : zM := (y_Li_init, prog_3_method_1_code, 1, (none : Option FieldType), 2, 46)
theorem wc_Li_init : Cond.code m_Li_init.1 m_Li_init.2.1 m_Li_init.2.2.1 m_Li_init.2.2.2.1 ∈ zGW := z_in2 (List.mem_of_getElem? (i := 52) rfl) rfl
def m_SL_init : zM := (y_SL_init, prog_1_method_1_code, 3, (none : Option FieldType), 4, 88)
theorem wc_SL_init : Cond.code m_SL_init.1 m_SL_init.2.1 m_SL_init.2.2.1 m_SL_init.2.2.2.1 ∈ zGW := z_in1 (List.mem_of_getElem? (i := 18) rfl) rfl
def m_SL_type : zM := (y_SL_type, prog_1_method_2_code, 6, (some FieldType.boolean), 0, 0)
theorem wc_SL_type : Cond.code m_SL_type.1 m_SL_type.2.1 m_SL_type.2.2.1 m_SL_type.2.2.2.1 ∈ zGW := z_in2 (List.mem_of_getElem? (i := 128) rfl) rfl
def m_SL_wipe : zM := (y_SL_wipe, prog_1_method_3_code, 1, (none : Option FieldType), 0, 0)
theorem wc_SL_wipe : Cond.code m_SL_wipe.1 m_SL_wipe.2.1 m_SL_wipe.2.2.1 m_SL_wipe.2.2.2.1 ∈ zGW := z_in2 (List.mem_of_getElem? (i := 132) rfl) rfl
def m_Gr_isRange : zM := (y_Gr_isRange, prog_2_method_2_code, 2, (some FieldType.boolean), 0, 0)
theorem wc_Gr_isRange : Cond.code m_Gr_isRange.1 m_Gr_isRange.2.1 m_Gr_isRange.2.2.1 m_Gr_isRange.2.2.2.1 ∈ zGW := z_in2 (List.mem_of_getElem? (i := 140) rfl) rfl
def m_SL_isScope : zM := (y_SL_isScope, prog_1_method_20_code, 1, (some FieldType.boolean), 0, 0)
theorem wc_SL_isScope : Cond.code m_SL_isScope.1 m_SL_isScope.2.1 m_SL_isScope.2.2.1 m_SL_isScope.2.2.2.1 ∈ zGW := z_in2 (List.mem_of_getElem? (i := 143) rfl) rfl
def m_Gr_nextRule : zM := (y_Gr_nextRule, prog_2_method_3_code, 1, (some (FieldType.object "ScopeLines$Rule")), 0, 0)
theorem wc_Gr_nextRule : Cond.code m_Gr_nextRule.1 m_Gr_nextRule.2.1 m_Gr_nextRule.2.2.1 m_Gr_nextRule.2.2.2.1 ∈ zGW := z_in2 (List.mem_of_getElem? (i := 147) rfl) rfl
def m_Pr_hasBlank : zM := (y_Pr_hasBlank, prog_5_method_3_code, 3, (some FieldType.boolean), 0, 0)
theorem wc_Pr_hasBlank : Cond.code m_Pr_hasBlank.1 m_Pr_hasBlank.2.1 m_Pr_hasBlank.2.2.1 m_Pr_hasBlank.2.2.2.1 ∈ zGW := z_in2 (List.mem_of_getElem? (i := 158) rfl) rfl
def m_Pt_clear : zM := (y_Pt_clear, prog_6_method_2_code, 1, (none : Option FieldType), 0, 0)
theorem wc_Pt_clear : Cond.code m_Pt_clear.1 m_Pt_clear.2.1 m_Pt_clear.2.2.1 m_Pt_clear.2.2.2.1 ∈ zGW := z_in2 (List.mem_of_getElem? (i := 162) rfl) rfl
def m_Pr_openLevel : zM := (y_Pr_openLevel, prog_5_method_5_code, 2, (none : Option FieldType), 0, 0)
theorem wc_Pr_openLevel : Cond.code m_Pr_openLevel.1 m_Pr_openLevel.2.1 m_Pr_openLevel.2.2.1 m_Pr_openLevel.2.2.2.1 ∈ zGW := z_in2 (List.mem_of_getElem? (i := 166) rfl) rfl
def m_Pt_insert : zM := (y_Pt_insert, prog_6_method_4_code, 6, (none : Option FieldType), 0, 0)
theorem wc_Pt_insert : Cond.code m_Pt_insert.1 m_Pt_insert.2.1 m_Pt_insert.2.2.1 m_Pt_insert.2.2.2.1 ∈ zGW := z_in2 (List.mem_of_getElem? (i := 182) rfl) rfl
def m_Pt_append : zM := (y_Pt_append, prog_6_method_3_code, 3, (none : Option FieldType), 1, 25)
theorem wc_Pt_append : Cond.code m_Pt_append.1 m_Pt_append.2.1 m_Pt_append.2.2.1 m_Pt_append.2.2.2.1 ∈ zGW := z_in2 (List.mem_of_getElem? (i := 186) rfl) rfl
def m_Pt_endBranch : zM := (y_Pt_endBranch, prog_6_method_9_code, 2, (none : Option FieldType), 2, 47)
theorem wc_Pt_endBranch : Cond.code m_Pt_endBranch.1 m_Pt_endBranch.2.1 m_Pt_endBranch.2.2.1 m_Pt_endBranch.2.2.2.1 ∈ zGW := z_in2 (List.mem_of_getElem? (i := 178) rfl) rfl
def m_Pr_endBranch : zM := (y_Pr_endBranch, prog_5_method_7_code, 2, (none : Option FieldType), 3, 68)
theorem wc_Pr_endBranch : Cond.code m_Pr_endBranch.1 m_Pr_endBranch.2.1 m_Pr_endBranch.2.2.1 m_Pr_endBranch.2.2.2.1 ∈ zGW := z_in2 (List.mem_of_getElem? (i := 174) rfl) rfl
def m_Pr_openGroup : zM := (y_Pr_openGroup, prog_5_method_8_code, 2, (none : Option FieldType), 2, 47)
theorem wc_Pr_openGroup : Cond.code m_Pr_openGroup.1 m_Pr_openGroup.2.1 m_Pr_openGroup.2.2.1 m_Pr_openGroup.2.2.2.1 ∈ zGW := z_in2 (List.mem_of_getElem? (i := 190) rfl) rfl
def m_Pt_joinBranches : zM := (y_Pt_joinBranches, prog_6_method_10_code, 6, (none : Option FieldType), 0, 0)
theorem wc_Pt_joinBranches : Cond.code m_Pt_joinBranches.1 m_Pt_joinBranches.2.1 m_Pt_joinBranches.2.2.1 m_Pt_joinBranches.2.2.2.1 ∈ zGW := z_in2 (List.mem_of_getElem? (i := 203) rfl) rfl
def m_Pr_closeLevel : zM := (y_Pr_closeLevel, prog_5_method_6_code, 2, (some FieldType.boolean), 1, 25)
theorem wc_Pr_closeLevel : Cond.code m_Pr_closeLevel.1 m_Pr_closeLevel.2.1 m_Pr_closeLevel.2.2.1 m_Pr_closeLevel.2.2.2.1 ∈ zGW := z_in2 (List.mem_of_getElem? (i := 199) rfl) rfl
def m_Pt_insertSplit : zM := (y_Pt_insertSplit, prog_6_method_8_code, 5, (none : Option FieldType), 1, 25)
theorem wc_Pt_insertSplit : Cond.code m_Pt_insertSplit.1 m_Pt_insertSplit.2.1 m_Pt_insertSplit.2.2.1 m_Pt_insertSplit.2.2.2.1 ∈ zGW := z_in2 (List.mem_of_getElem? (i := 215) rfl) rfl
def m_Pt_repeat : zM := (y_Pt_repeat, prog_6_method_7_code, 5, (none : Option FieldType), 2, 49)
theorem wc_Pt_repeat : Cond.code m_Pt_repeat.1 m_Pt_repeat.2.1 m_Pt_repeat.2.2.1 m_Pt_repeat.2.2.2.1 ∈ zGW := z_in2 (List.mem_of_getElem? (i := 211) rfl) rfl
def m_Pr_readQuantifier : zM := (y_Pr_readQuantifier, prog_5_method_14_code, 7, (none : Option FieldType), 3, 73)
theorem wc_Pr_readQuantifier : Cond.code m_Pr_readQuantifier.1 m_Pr_readQuantifier.2.1 m_Pr_readQuantifier.2.2.1 m_Pr_readQuantifier.2.2.2.1 ∈ zGW := z_in2 (List.mem_of_getElem? (i := 207) rfl) rfl
def m_Pr_closeGroup : zM := (y_Pr_closeGroup, prog_5_method_9_code, 4, (none : Option FieldType), 4, 99)
theorem wc_Pr_closeGroup : Cond.code m_Pr_closeGroup.1 m_Pr_closeGroup.2.1 m_Pr_closeGroup.2.2.1 m_Pr_closeGroup.2.2.2.1 ∈ zGW := z_in2 (List.mem_of_getElem? (i := 195) rfl) rfl
def m_Pr_readItem : zM := (y_Pr_readItem, prog_5_method_13_code, 6, (none : Option FieldType), 0, 0)
theorem wc_Pr_readItem : Cond.code m_Pr_readItem.1 m_Pr_readItem.2.1 m_Pr_readItem.2.2.1 m_Pr_readItem.2.2.2.1 ∈ zGW := z_in2 (List.mem_of_getElem? (i := 227) rfl) rfl
def m_Pt_appendSet : zM := (y_Pt_appendSet, prog_6_method_5_code, 5, (none : Option FieldType), 2, 47)
theorem wc_Pt_appendSet : Cond.code m_Pt_appendSet.1 m_Pt_appendSet.2.1 m_Pt_appendSet.2.2.1 m_Pt_appendSet.2.2.2.1 ∈ zGW := z_in2 (List.mem_of_getElem? (i := 232) rfl) rfl
def m_Pr_readSet : zM := (y_Pr_readSet, prog_5_method_12_code, 5, (none : Option FieldType), 3, 71)
theorem wc_Pr_readSet : Cond.code m_Pr_readSet.1 m_Pr_readSet.2.1 m_Pr_readSet.2.2.1 m_Pr_readSet.2.2.2.1 ∈ zGW := z_in2 (List.mem_of_getElem? (i := 223) rfl) rfl
def m_Pr_readEscape : zM := (y_Pr_readEscape, prog_5_method_11_code, 3, (some FieldType.boolean), 2, 47)
theorem wc_Pr_readEscape : Cond.code m_Pr_readEscape.1 m_Pr_readEscape.2.1 m_Pr_readEscape.2.2.1 m_Pr_readEscape.2.2.2.1 ∈ zGW := z_in2 (List.mem_of_getElem? (i := 236) rfl) rfl
def m_Pr_readAtom : zM := (y_Pr_readAtom, prog_5_method_10_code, 3, (some FieldType.boolean), 4, 95)
theorem wc_Pr_readAtom : Cond.code m_Pr_readAtom.1 m_Pr_readAtom.2.1 m_Pr_readAtom.2.2.1 m_Pr_readAtom.2.2.2.1 ∈ zGW := z_in2 (List.mem_of_getElem? (i := 219) rfl) rfl
def m_Pr_readNext : zM := (y_Pr_readNext, prog_5_method_4_code, 5, (none : Option FieldType), 5, 122)
theorem wc_Pr_readNext : Cond.code m_Pr_readNext.1 m_Pr_readNext.2.1 m_Pr_readNext.2.2.1 m_Pr_readNext.2.2.2.1 ∈ zGW := z_in2 (List.mem_of_getElem? (i := 170) rfl) rfl
def m_Pr_parse : zM := (y_Pr_parse, prog_5_method_2_code, 7, (some FieldType.boolean), 6, 146)
theorem wc_Pr_parse : Cond.code m_Pr_parse.1 m_Pr_parse.2.1 m_Pr_parse.2.2.1 m_Pr_parse.2.2.2.1 ∈ zGW := z_in2 (List.mem_of_getElem? (i := 151) rfl) rfl
def m_Gr_keepNextRule : zM := (y_Gr_keepNextRule, prog_2_method_4_code, 5, (none : Option FieldType), 1, 20)
theorem wc_Gr_keepNextRule : Cond.code m_Gr_keepNextRule.1 m_Gr_keepNextRule.2.1 m_Gr_keepNextRule.2.2.1 m_Gr_keepNextRule.2.2.2.1 ∈ zGW := z_in3 (List.mem_of_getElem? (i := 4) rfl) rfl
def m_SL_addRule : zM := (y_SL_addRule, prog_1_method_22_code, 4, (some FieldType.int), 2, 44)
theorem wc_SL_addRule : Cond.code m_SL_addRule.1 m_SL_addRule.2.1 m_SL_addRule.2.2.1 m_SL_addRule.2.2.2.1 ∈ zGW := z_in3 (List.mem_of_getElem? (i := 0) rfl) rfl
def m_St_copy : zM := (y_St_copy, prog_9_method_8_code, 2, (none : Option FieldType), 1, 26)
theorem wc_St_copy : Cond.code m_St_copy.1 m_St_copy.2.1 m_St_copy.2.2.1 m_St_copy.2.2.2.1 ∈ zGW := z_in3 (List.mem_of_getElem? (i := 13) rfl) rfl
def m_St_innermost : zM := (y_St_innermost, prog_9_method_3_code, 1, (some FieldType.int), 0, 0)
theorem wc_St_innermost : Cond.code m_St_innermost.1 m_St_innermost.2.1 m_St_innermost.2.2.1 m_St_innermost.2.2.2.1 ∈ zGW := z_in3 (List.mem_of_getElem? (i := 27) rfl) rfl
def m_Gr_listRulesOf : zM := (y_Gr_listRulesOf, prog_2_method_9_code, 3, (none : Option FieldType), 0, 0)
theorem wc_Gr_listRulesOf : Cond.code m_Gr_listRulesOf.1 m_Gr_listRulesOf.2.1 m_Gr_listRulesOf.2.2.1 m_Gr_listRulesOf.2.2.2.1 ∈ zGW := z_in3 (List.mem_of_getElem? (i := 35) rfl) rfl
def m_Gr_listCandidates : zM := (y_Gr_listCandidates, prog_2_method_8_code, 2, (none : Option FieldType), 1, 22)
theorem wc_Gr_listCandidates : Cond.code m_Gr_listCandidates.1 m_Gr_listCandidates.2.1 m_Gr_listCandidates.2.2.1 m_Gr_listCandidates.2.2.2.1 ∈ zGW := z_in3 (List.mem_of_getElem? (i := 31) rfl) rfl
def m_Ar_fill : zM := (y_Ar_fill, prog_14_method_103_code, 4, (none : Option FieldType), 0, 0)
theorem wc_Ar_fill : Cond.code m_Ar_fill.1 m_Ar_fill.2.1 m_Ar_fill.2.2.1 m_Ar_fill.2.2.2.1 ∈ zGW := z_in3 (List.mem_of_getElem? (i := 42) rfl) rfl
def m_Se_leaveWaiting : zM := (y_Se_leaveWaiting, prog_8_method_4_code, 3, (none : Option FieldType), 0, 0)
theorem wc_Se_leaveWaiting : Cond.code m_Se_leaveWaiting.1 m_Se_leaveWaiting.2.1 m_Se_leaveWaiting.2.2.1 m_Se_leaveWaiting.2.2.2.1 ∈ zGW := z_in3 (List.mem_of_getElem? (i := 50) rfl) rfl
def m_St_textLength : zM := (y_St_textLength, prog_9_method_4_code, 3, (some FieldType.int), 0, 0)
theorem wc_St_textLength : Cond.code m_St_textLength.1 m_St_textLength.2.1 m_St_textLength.2.2.1 m_St_textLength.2.2.2.1 ∈ zGW := z_in3 (List.mem_of_getElem? (i := 58) rfl) rfl
def m_Se_makeStep : zM := (y_Se_makeStep, prog_8_method_6_code, 1, (some FieldType.boolean), 0, 0)
theorem wc_Se_makeStep : Cond.code m_Se_makeStep.1 m_Se_makeStep.2.1 m_Se_makeStep.2.2.1 m_Se_makeStep.2.2.2.1 ∈ zGW := z_in3 (List.mem_of_getElem? (i := 62) rfl) rfl
def m_St_textCharacter : zM := (y_St_textCharacter, prog_9_method_5_code, 4, (some FieldType.char), 0, 0)
theorem wc_St_textCharacter : Cond.code m_St_textCharacter.1 m_St_textCharacter.2.1 m_St_textCharacter.2.2.1 m_St_textCharacter.2.2.2.1 ∈ zGW := z_in3 (List.mem_of_getElem? (i := 66) rfl) rfl
def m_Se_fitsText : zM := (y_Se_fitsText, prog_8_method_8_code, 8, (some FieldType.boolean), 1, 23)
theorem wc_Se_fitsText : Cond.code m_Se_fitsText.1 m_Se_fitsText.2.1 m_Se_fitsText.2.2.1 m_Se_fitsText.2.2.2.1 ∈ zGW := z_in3 (List.mem_of_getElem? (i := 54) rfl) rfl
def m_Pt_isInSet : zM := (y_Pt_isInSet, prog_6_method_6_code, 6, (some FieldType.boolean), 0, 0)
theorem wc_Pt_isInSet : Cond.code m_Pt_isInSet.1 m_Pt_isInSet.2.1 m_Pt_isInSet.2.2.1 m_Pt_isInSet.2.2.2.1 ∈ zGW := z_in3 (List.mem_of_getElem? (i := 74) rfl) rfl
def m_Se_fitsAtom : zM := (y_Se_fitsAtom, prog_8_method_7_code, 6, (some FieldType.boolean), 1, 25)
theorem wc_Se_fitsAtom : Cond.code m_Se_fitsAtom.1 m_Se_fitsAtom.2.1 m_Se_fitsAtom.2.2.1 m_Se_fitsAtom.2.2.2.1 ∈ zGW := z_in3 (List.mem_of_getElem? (i := 70) rfl) rfl
def m_Se_goBack : zM := (y_Se_goBack, prog_8_method_5_code, 4, (some FieldType.boolean), 0, 0)
theorem wc_Se_goBack : Cond.code m_Se_goBack.1 m_Se_goBack.2.1 m_Se_goBack.2.2.1 m_Se_goBack.2.2.2.1 ∈ zGW := z_in3 (List.mem_of_getElem? (i := 78) rfl) rfl
def m_Se_doNext : zM := (y_Se_doNext, prog_8_method_3_code, 6, (some FieldType.boolean), 2, 50)
theorem wc_Se_doNext : Cond.code m_Se_doNext.1 m_Se_doNext.2.1 m_Se_doNext.2.2.1 m_Se_doNext.2.2.2.1 ∈ zGW := z_in3 (List.mem_of_getElem? (i := 46) rfl) rfl
def m_Se_run : zM := (y_Se_run, prog_8_method_2_code, 8, (none : Option FieldType), 3, 75)
theorem wc_Se_run : Cond.code m_Se_run.1 m_Se_run.2.1 m_Se_run.2.2.1 m_Se_run.2.2.2.1 ∈ zGW := z_in3 (List.mem_of_getElem? (i := 39) rfl) rfl
def m_Gr_keepWinner : zM := (y_Gr_keepWinner, prog_2_method_10_code, 2, (none : Option FieldType), 1, 26)
theorem wc_Gr_keepWinner : Cond.code m_Gr_keepWinner.1 m_Gr_keepWinner.2.1 m_Gr_keepWinner.2.2.1 m_Gr_keepWinner.2.2.2.1 ∈ zGW := z_in3 (List.mem_of_getElem? (i := 82) rfl) rfl
def m_Gr_findWinner : zM := (y_Gr_findWinner, prog_2_method_7_code, 7, (some FieldType.boolean), 4, 102)
theorem wc_Gr_findWinner : Cond.code m_Gr_findWinner.1 m_Gr_findWinner.2.1 m_Gr_findWinner.2.2.1 m_Gr_findWinner.2.2.2.1 ∈ zGW := z_in3 (List.mem_of_getElem? (i := 23) rfl) rfl
def m_Li_addToken : zM := (y_Li_addToken, prog_3_method_3_code, 2, (none : Option FieldType), 0, 0)
theorem wc_Li_addToken : Cond.code m_Li_addToken.1 m_Li_addToken.2.1 m_Li_addToken.2.2.1 m_Li_addToken.2.2.2.1 ∈ zGW := z_in3 (List.mem_of_getElem? (i := 95) rfl) rfl
def m_Li_addScope : zM := (y_Li_addScope, prog_3_method_4_code, 3, (none : Option FieldType), 0, 0)
theorem wc_Li_addScope : Cond.code m_Li_addScope.1 m_Li_addScope.2.1 m_Li_addScope.2.2.1 m_Li_addScope.2.2.2.1 ∈ zGW := z_in3 (List.mem_of_getElem? (i := 99) rfl) rfl
def m_Gr_cut : zM := (y_Gr_cut, prog_2_method_13_code, 5, (some FieldType.boolean), 1, 22)
theorem wc_Gr_cut : Cond.code m_Gr_cut.1 m_Gr_cut.2.1 m_Gr_cut.2.2.1 m_Gr_cut.2.2.2.1 ∈ zGW := z_in3 (List.mem_of_getElem? (i := 91) rfl) rfl
def m_Gr_mark : zM := (y_Gr_mark, prog_2_method_6_code, 3, (none : Option FieldType), 2, 47)
theorem wc_Gr_mark : Cond.code m_Gr_mark.1 m_Gr_mark.2.1 m_Gr_mark.2.2.1 m_Gr_mark.2.2.2.1 ∈ zGW := z_in3 (List.mem_of_getElem? (i := 87) rfl) rfl
def m_Gr_isLast : zM := (y_Gr_isLast, prog_2_method_11_code, 4, (some FieldType.boolean), 0, 0)
theorem wc_Gr_isLast : Cond.code m_Gr_isLast.1 m_Gr_isLast.2.1 m_Gr_isLast.2.2.1 m_Gr_isLast.2.2.2.1 ∈ zGW := z_in3 (List.mem_of_getElem? (i := 103) rfl) rfl
def m_St_push : zM := (y_St_push, prog_9_method_6_code, 2, (none : Option FieldType), 0, 0)
theorem wc_St_push : Cond.code m_St_push.1 m_St_push.2.1 m_St_push.2.2.1 m_St_push.2.2.2.1 ∈ zGW := z_in3 (List.mem_of_getElem? (i := 111) rfl) rfl
def m_St_keepText : zM := (y_St_keepText, prog_9_method_7_code, 8, (none : Option FieldType), 0, 0)
theorem wc_St_keepText : Cond.code m_St_keepText.1 m_St_keepText.2.1 m_St_keepText.2.2.1 m_St_keepText.2.2.2.1 ∈ zGW := z_in3 (List.mem_of_getElem? (i := 115) rfl) rfl
def m_Gr_takeWinner : zM := (y_Gr_takeWinner, prog_2_method_12_code, 2, (none : Option FieldType), 2, 46)
theorem wc_Gr_takeWinner : Cond.code m_Gr_takeWinner.1 m_Gr_takeWinner.2.1 m_Gr_takeWinner.2.2.1 m_Gr_takeWinner.2.2.2.1 ∈ zGW := z_in3 (List.mem_of_getElem? (i := 107) rfl) rfl
def m_Gr_tokenize : zM := (y_Gr_tokenize, prog_2_method_5_code, 6, (none : Option FieldType), 5, 128)
theorem wc_Gr_tokenize : Cond.code m_Gr_tokenize.1 m_Gr_tokenize.2.1 m_Gr_tokenize.2.2.1 m_Gr_tokenize.2.2.2.1 ∈ zGW := z_in3 (List.mem_of_getElem? (i := 18) rfl) rfl
def m_St_isSameText : zM := (y_St_isSameText, prog_9_method_10_code, 5, (some FieldType.boolean), 0, 0)
theorem wc_St_isSameText : Cond.code m_St_isSameText.1 m_St_isSameText.2.1 m_St_isSameText.2.2.1 m_St_isSameText.2.2.2.1 ∈ zGW := z_in3 (List.mem_of_getElem? (i := 123) rfl) rfl
def m_St_isSame : zM := (y_St_isSame, prog_9_method_9_code, 4, (some FieldType.boolean), 1, 24)
theorem wc_St_isSame : Cond.code m_St_isSame.1 m_St_isSame.2.1 m_St_isSame.2.2.1 m_St_isSame.2.2.2.1 ∈ zGW := z_in3 (List.mem_of_getElem? (i := 119) rfl) rfl
def m_SL_tokenizeFrom : zM := (y_SL_tokenizeFrom, prog_1_method_23_code, 7, (some FieldType.int), 6, 153)
theorem wc_SL_tokenizeFrom : Cond.code m_SL_tokenizeFrom.1 m_SL_tokenizeFrom.2.1 m_SL_tokenizeFrom.2.2.1 m_SL_tokenizeFrom.2.2.2.1 ∈ zGW := z_in3 (List.mem_of_getElem? (i := 9) rfl) rfl
def m_SL_piece : zM := (y_SL_piece, prog_1_method_4_code, 4, (some FieldType.int), 7, 179)
theorem wc_SL_piece : Cond.code m_SL_piece.1 m_SL_piece.2.1 m_SL_piece.2.2.1 m_SL_piece.2.2.2.1 ∈ zGW := z_in2 (List.mem_of_getElem? (i := 136) rfl) rfl
def m_SL_firstBlank : zM := (y_SL_firstBlank, prog_1_method_21_code, 2, (some FieldType.int), 0, 0)
theorem wc_SL_firstBlank : Cond.code m_SL_firstBlank.1 m_SL_firstBlank.2.1 m_SL_firstBlank.2.2.1 m_SL_firstBlank.2.2.2.1 ∈ zGW := z_in3 (List.mem_of_getElem? (i := 131) rfl) rfl
def m_SL_range : zM := (y_SL_range, prog_1_method_5_code, 6, (some FieldType.int), 7, 179)
theorem wc_SL_range : Cond.code m_SL_range.1 m_SL_range.2.1 m_SL_range.2.2.1 m_SL_range.2.2.2.1 ∈ zGW := z_in3 (List.mem_of_getElem? (i := 127) rfl) rfl
def m_SL_include : zM := (y_SL_include, prog_1_method_6_code, 3, (some FieldType.boolean), 7, 179)
theorem wc_SL_include : Cond.code m_SL_include.1 m_SL_include.2.1 m_SL_include.2.2.1 m_SL_include.2.2.2.1 ∈ zGW := z_in3 (List.mem_of_getElem? (i := 135) rfl) rfl
def m_Pa_add : zM := (y_Pa_add, prog_4_method_2_code, 4, (none : Option FieldType), 0, 0)
theorem wc_Pa_add : Cond.code m_Pa_add.1 m_Pa_add.2.1 m_Pa_add.2.2.1 m_Pa_add.2.2.2.1 ∈ zGW := z_in3 (List.mem_of_getElem? (i := 143) rfl) rfl
def m_SL_theme : zM := (y_SL_theme, prog_1_method_7_code, 4, (some FieldType.boolean), 1, 23)
theorem wc_SL_theme : Cond.code m_SL_theme.1 m_SL_theme.2.1 m_SL_theme.2.2.1 m_SL_theme.2.2.2.1 ∈ zGW := z_in3 (List.mem_of_getElem? (i := 139) rfl) rfl
def m_Li_write : zM := (y_Li_write, prog_3_method_2_code, 3, (none : Option FieldType), 1, 26)
theorem wc_Li_write : Cond.code m_Li_write.1 m_Li_write.2.1 m_Li_write.2.2.1 m_Li_write.2.2.2.1 ∈ zGW := z_in3 (List.mem_of_getElem? (i := 151) rfl) rfl
def m_SL_put : zM := (y_SL_put, prog_1_method_8_code, 2, (some FieldType.int), 7, 179)
theorem wc_SL_put : Cond.code m_SL_put.1 m_SL_put.2.1 m_SL_put.2.2.1 m_SL_put.2.2.2.1 ∈ zGW := z_in3 (List.mem_of_getElem? (i := 147) rfl) rfl
def m_SL_isLine : zM := (y_SL_isLine, prog_1_method_19_code, 2, (some FieldType.boolean), 0, 0)
theorem wc_SL_isLine : Cond.code m_SL_isLine.1 m_SL_isLine.2.1 m_SL_isLine.2.2.1 m_SL_isLine.2.2.2.1 ∈ zGW := z_in3 (List.mem_of_getElem? (i := 160) rfl) rfl
def m_SL_drop : zM := (y_SL_drop, prog_1_method_9_code, 4, (some FieldType.int), 7, 179)
theorem wc_SL_drop : Cond.code m_SL_drop.1 m_SL_drop.2.1 m_SL_drop.2.2.1 m_SL_drop.2.2.2.1 ∈ zGW := z_in3 (List.mem_of_getElem? (i := 156) rfl) rfl
def m_SL_lines : zM := (y_SL_lines, prog_1_method_10_code, 1, (some FieldType.int), 0, 0)
theorem wc_SL_lines : Cond.code m_SL_lines.1 m_SL_lines.2.1 m_SL_lines.2.2.1 m_SL_lines.2.2.2.1 ∈ zGW := z_in3 (List.mem_of_getElem? (i := 164) rfl) rfl
def m_SL_passes : zM := (y_SL_passes, prog_1_method_11_code, 1, (some FieldType.int), 0, 0)
theorem wc_SL_passes : Cond.code m_SL_passes.1 m_SL_passes.2.1 m_SL_passes.2.2.1 m_SL_passes.2.2.2.1 ∈ zGW := z_in3 (List.mem_of_getElem? (i := 168) rfl) rfl
def m_SL_length : zM := (y_SL_length, prog_1_method_12_code, 2, (some FieldType.int), 1, 21)
theorem wc_SL_length : Cond.code m_SL_length.1 m_SL_length.2.1 m_SL_length.2.2.1 m_SL_length.2.2.2.1 ∈ zGW := z_in3 (List.mem_of_getElem? (i := 172) rfl) rfl
def m_SL_tokens : zM := (y_SL_tokens, prog_1_method_13_code, 2, (some FieldType.int), 1, 21)
theorem wc_SL_tokens : Cond.code m_SL_tokens.1 m_SL_tokens.2.1 m_SL_tokens.2.2.1 m_SL_tokens.2.2.2.1 ∈ zGW := z_in3 (List.mem_of_getElem? (i := 176) rfl) rfl
def m_Li_scopeOf : zM := (y_Li_scopeOf, prog_3_method_5_code, 3, (some FieldType.int), 0, 0)
theorem wc_Li_scopeOf : Cond.code m_Li_scopeOf.1 m_Li_scopeOf.2.1 m_Li_scopeOf.2.2.1 m_Li_scopeOf.2.2.2.1 ∈ zGW := z_in3 (List.mem_of_getElem? (i := 188) rfl) rfl
def m_Li_lastScope : zM := (y_Li_lastScope, prog_3_method_6_code, 2, (some FieldType.int), 1, 22)
theorem wc_Li_lastScope : Cond.code m_Li_lastScope.1 m_Li_lastScope.2.1 m_Li_lastScope.2.2.1 m_Li_lastScope.2.2.2.1 ∈ zGW := z_in3 (List.mem_of_getElem? (i := 184) rfl) rfl
def m_Pa_isUnder : zM := (y_Pa_isUnder, prog_4_method_5_code, 6, (some FieldType.boolean), 1, 22)
theorem wc_Pa_isUnder : Cond.code m_Pa_isUnder.1 m_Pa_isUnder.2.1 m_Pa_isUnder.2.2.1 m_Pa_isUnder.2.2.2.1 ∈ zGW := z_in3 (List.mem_of_getElem? (i := 200) rfl) rfl
def m_Pa_entryFor : zM := (y_Pa_entryFor, prog_4_method_4_code, 7, (some FieldType.int), 2, 47)
theorem wc_Pa_entryFor : Cond.code m_Pa_entryFor.1 m_Pa_entryFor.2.1 m_Pa_entryFor.2.2.1 m_Pa_entryFor.2.2.2.1 ∈ zGW := z_in3 (List.mem_of_getElem? (i := 196) rfl) rfl
def m_Pa_colourOf : zM := (y_Pa_colourOf, prog_4_method_3_code, 5, (some FieldType.int), 3, 73)
theorem wc_Pa_colourOf : Cond.code m_Pa_colourOf.1 m_Pa_colourOf.2.1 m_Pa_colourOf.2.2.1 m_Pa_colourOf.2.2.2.1 ∈ zGW := z_in3 (List.mem_of_getElem? (i := 192) rfl) rfl
def m_SL_token : zM := (y_SL_token, prog_1_method_14_code, 5, (some FieldType.int), 4, 97)
theorem wc_SL_token : Cond.code m_SL_token.1 m_SL_token.2.1 m_SL_token.2.2.1 m_SL_token.2.2.2.1 ∈ zGW := z_in3 (List.mem_of_getElem? (i := 180) rfl) rfl
def m_SL_marked : zM := (y_SL_marked, prog_1_method_15_code, 2, (some FieldType.boolean), 1, 21)
theorem wc_SL_marked : Cond.code m_SL_marked.1 m_SL_marked.2.1 m_SL_marked.2.2.1 m_SL_marked.2.2.2.1 ∈ zGW := z_in3 (List.mem_of_getElem? (i := 204) rfl) rfl
def m_St_isOpen : zM := (y_St_isOpen, prog_9_method_2_code, 2, (some FieldType.boolean), 0, 0)
theorem wc_St_isOpen : Cond.code m_St_isOpen.1 m_St_isOpen.2.1 m_St_isOpen.2.2.1 m_St_isOpen.2.2.2.1 ∈ zGW := z_in3 (List.mem_of_getElem? (i := 212) rfl) rfl
def m_SL_state : zM := (y_SL_state, prog_1_method_16_code, 4, (some FieldType.int), 1, 21)
theorem wc_SL_state : Cond.code m_SL_state.1 m_SL_state.2.1 m_SL_state.2.2.1 m_SL_state.2.2.2.1 ∈ zGW := z_in3 (List.mem_of_getElem? (i := 208) rfl) rfl
def m_SL_text : zM := (y_SL_text, prog_1_method_17_code, 4, (some FieldType.int), 1, 22)
theorem wc_SL_text : Cond.code m_SL_text.1 m_SL_text.2.1 m_SL_text.2.2.1 m_SL_text.2.2.2.1 ∈ zGW := z_in3 (List.mem_of_getElem? (i := 216) rfl) rfl
def m_SL_find : zM := (y_SL_find, prog_1_method_18_code, 6, (some FieldType.int), 4, 102)
theorem wc_SL_find : Cond.code m_SL_find.1 m_SL_find.2.1 m_SL_find.2.2.1 m_SL_find.2.2.2.1 ∈ zGW := z_in3 (List.mem_of_getElem? (i := 221) rfl) rfl
def m_Mo_init : zM := (y_Mo_init, prog_11_method_1_code, 3, (none : Option FieldType), 1, 26)
theorem wc_Mo_init : Cond.code m_Mo_init.1 m_Mo_init.2.1 m_Mo_init.2.2.1 m_Mo_init.2.2.2.1 ∈ zGW := z_in3 (List.mem_of_getElem? (i := 230) rfl) rfl
def m_Mo_type : zM := (y_Mo_type, prog_11_method_2_code, 6, (some FieldType.boolean), 0, 0)
theorem wc_Mo_type : Cond.code m_Mo_type.1 m_Mo_type.2.1 m_Mo_type.2.2.1 m_Mo_type.2.2.2.1 ∈ zGW := z_in4 (List.mem_of_getElem? (i := 152) rfl) rfl
def m_Mo_wipe : zM := (y_Mo_wipe, prog_11_method_3_code, 1, (none : Option FieldType), 0, 0)
theorem wc_Mo_wipe : Cond.code m_Mo_wipe.1 m_Mo_wipe.2.1 m_Mo_wipe.2.2.1 m_Mo_wipe.2.2.2.1 ∈ zGW := z_in4 (List.mem_of_getElem? (i := 156) rfl) rfl
def m_Mo_quantifier : zM := (y_Mo_quantifier, prog_11_method_4_code, 1, (some FieldType.boolean), 0, 0)
theorem wc_Mo_quantifier : Cond.code m_Mo_quantifier.1 m_Mo_quantifier.2.1 m_Mo_quantifier.2.2.1 m_Mo_quantifier.2.2.2.1 ∈ zGW := z_in4 (List.mem_of_getElem? (i := 207) rfl) rfl
def m_Mo_at : zM := (y_Mo_at, prog_11_method_5_code, 3, (some FieldType.int), 0, 0)
theorem wc_Mo_at : Cond.code m_Mo_at.1 m_Mo_at.2.1 m_Mo_at.2.2.1 m_Mo_at.2.2.2.1 ∈ zGW := z_in4 (List.mem_of_getElem? (i := 180) rfl) rfl
def m_Mo_items : zM := (y_Mo_items, prog_11_method_6_code, 6, (some FieldType.int), 1, 22)
theorem wc_Mo_items : Cond.code m_Mo_items.1 m_Mo_items.2.1 m_Mo_items.2.2.1 m_Mo_items.2.2.2.1 ∈ zGW := z_in4 (List.mem_of_getElem? (i := 204) rfl) rfl
def m_Mo_simple : zM := (y_Mo_simple, prog_11_method_7_code, 7, (some FieldType.int), 2, 47)
theorem wc_Mo_simple : Cond.code m_Mo_simple.1 m_Mo_simple.2.1 m_Mo_simple.2.2.1 m_Mo_simple.2.2.2.1 ∈ zGW := z_in4 (List.mem_of_getElem? (i := 200) rfl) rfl
def m_Mo_isRef : zM := (y_Mo_isRef, prog_11_method_8_code, 3, (some FieldType.boolean), 1, 22)
theorem wc_Mo_isRef : Cond.code m_Mo_isRef.1 m_Mo_isRef.2.1 m_Mo_isRef.2.2.1 m_Mo_isRef.2.2.2.1 ∈ zGW := z_in4 (List.mem_of_getElem? (i := 196) rfl) rfl
def m_Mo_quantified : zM := (y_Mo_quantified, prog_11_method_9_code, 10, (some FieldType.int), 2, 44)
theorem wc_Mo_quantified : Cond.code m_Mo_quantified.1 m_Mo_quantified.2.1 m_Mo_quantified.2.2.1 m_Mo_quantified.2.2.2.1 ∈ zGW := z_in4 (List.mem_of_getElem? (i := 192) rfl) rfl
def m_Mo_openLevel : zM := (y_Mo_openLevel, prog_11_method_10_code, 3, (none : Option FieldType), 0, 0)
theorem wc_Mo_openLevel : Cond.code m_Mo_openLevel.1 m_Mo_openLevel.2.1 m_Mo_openLevel.2.2.1 m_Mo_openLevel.2.2.2.1 ∈ zGW := z_in4 (List.mem_of_getElem? (i := 184) rfl) rfl
def m_Mo_note : zM := (y_Mo_note, prog_11_method_11_code, 4, (none : Option FieldType), 0, 0)
theorem wc_Mo_note : Cond.code m_Mo_note.1 m_Mo_note.2.1 m_Mo_note.2.2.1 m_Mo_note.2.2.2.1 ∈ zGW := z_in4 (List.mem_of_getElem? (i := 188) rfl) rfl
def m_Mo_parse : zM := (y_Mo_parse, prog_11_method_12_code, 11, (some FieldType.boolean), 3, 73)
theorem wc_Mo_parse : Cond.code m_Mo_parse.1 m_Mo_parse.2.1 m_Mo_parse.2.2.1 m_Mo_parse.2.2.2.1 ∈ zGW := z_in4 (List.mem_of_getElem? (i := 176) rfl) rfl
def m_Mo_inItems : zM := (y_Mo_inItems, prog_11_method_13_code, 11, (some FieldType.boolean), 1, 22)
theorem wc_Mo_inItems : Cond.code m_Mo_inItems.1 m_Mo_inItems.2.1 m_Mo_inItems.2.2.1 m_Mo_inItems.2.2.2.1 ∈ zGW := z_in5 (List.mem_of_getElem? (i := 27) rfl) rfl
def m_Mo_push : zM := (y_Mo_push, prog_11_method_14_code, 6, (none : Option FieldType), 0, 0)
theorem wc_Mo_push : Cond.code m_Mo_push.1 m_Mo_push.2.1 m_Mo_push.2.2.1 m_Mo_push.2.2.2.1 ∈ zGW := z_in5 (List.mem_of_getElem? (i := 11) rfl) rfl
def m_Mo_step : zM := (y_Mo_step, prog_11_method_15_code, 1, (some FieldType.boolean), 0, 0)
theorem wc_Mo_step : Cond.code m_Mo_step.1 m_Mo_step.2.1 m_Mo_step.2.2.1 m_Mo_step.2.2.2.1 ∈ zGW := z_in5 (List.mem_of_getElem? (i := 23) rfl) rfl
def m_Mo_fits : zM := (y_Mo_fits, prog_11_method_16_code, 9, (some FieldType.int), 2, 52)
theorem wc_Mo_fits : Cond.code m_Mo_fits.1 m_Mo_fits.2.1 m_Mo_fits.2.2.1 m_Mo_fits.2.2.2.1 ∈ zGW := z_in5 (List.mem_of_getElem? (i := 19) rfl) rfl
def m_Mo_ended : zM := (y_Mo_ended, prog_11_method_18_code, 4, (some FieldType.boolean), 1, 22)
theorem wc_Mo_ended : Cond.code m_Mo_ended.1 m_Mo_ended.2.1 m_Mo_ended.2.2.1 m_Mo_ended.2.2.2.1 ∈ zGW := z_in5 (List.mem_of_getElem? (i := 15) rfl) rfl
def m_Mo_match : zM := (y_Mo_match, prog_11_method_17_code, 11, (none : Option FieldType), 3, 80)
theorem wc_Mo_match : Cond.code m_Mo_match.1 m_Mo_match.2.1 m_Mo_match.2.2.1 m_Mo_match.2.2.2.1 ∈ zGW := z_in5 (List.mem_of_getElem? (i := 7) rfl) rfl
def m_Mo_search : zM := (y_Mo_search, prog_11_method_19_code, 5, (none : Option FieldType), 4, 110)
theorem wc_Mo_search : Cond.code m_Mo_search.1 m_Mo_search.2.1 m_Mo_search.2.2.1 m_Mo_search.2.2.2.1 ∈ zGW := z_in5 (List.mem_of_getElem? (i := 3) rfl) rfl
def m_Mo_copyState : zM := (y_Mo_copyState, prog_11_method_20_code, 5, (none : Option FieldType), 0, 0)
theorem wc_Mo_copyState : Cond.code m_Mo_copyState.1 m_Mo_copyState.2.1 m_Mo_copyState.2.2.1 m_Mo_copyState.2.2.2.1 ∈ zGW := z_in4 (List.mem_of_getElem? (i := 227) rfl) rfl
def m_Mo_sameState : zM := (y_Mo_sameState, prog_11_method_21_code, 6, (some FieldType.boolean), 0, 0)
theorem wc_Mo_sameState : Cond.code m_Mo_sameState.1 m_Mo_sameState.2.1 m_Mo_sameState.2.2.1 m_Mo_sameState.2.2.2.1 ∈ zGW := z_in5 (List.mem_of_getElem? (i := 59) rfl) rfl
def m_Mo_begin : zM := (y_Mo_begin, prog_11_method_22_code, 2, (none : Option FieldType), 1, 24)
theorem wc_Mo_begin : Cond.code m_Mo_begin.1 m_Mo_begin.2.1 m_Mo_begin.2.2.1 m_Mo_begin.2.2.2.1 ∈ zGW := z_in4 (List.mem_of_getElem? (i := 223) rfl) rfl
def m_Mo_addRules : zM := (y_Mo_addRules, prog_11_method_23_code, 5, (some FieldType.int), 0, 0)
theorem wc_Mo_addRules : Cond.code m_Mo_addRules.1 m_Mo_addRules.2.1 m_Mo_addRules.2.2.1 m_Mo_addRules.2.2.2.1 ∈ zGW := z_in4 (List.mem_of_getElem? (i := 239) rfl) rfl
def m_Mo_gather : zM := (y_Mo_gather, prog_11_method_24_code, 6, (some FieldType.int), 1, 24)
theorem wc_Mo_gather : Cond.code m_Mo_gather.1 m_Mo_gather.2.1 m_Mo_gather.2.2.1 m_Mo_gather.2.2.2.1 ∈ zGW := z_in4 (List.mem_of_getElem? (i := 235) rfl) rfl
def m_Mo_findBest : zM := (y_Mo_findBest, prog_11_method_25_code, 6, (some FieldType.boolean), 5, 134)
theorem wc_Mo_findBest : Cond.code m_Mo_findBest.1 m_Mo_findBest.2.1 m_Mo_findBest.2.2.1 m_Mo_findBest.2.2.2.1 ∈ zGW := z_in4 (List.mem_of_getElem? (i := 231) rfl) rfl
def m_Mo_cutOff : zM := (y_Mo_cutOff, prog_11_method_26_code, 7, (none : Option FieldType), 0, 0)
theorem wc_Mo_cutOff : Cond.code m_Mo_cutOff.1 m_Mo_cutOff.2.1 m_Mo_cutOff.2.2.1 m_Mo_cutOff.2.2.2.1 ∈ zGW := z_in5 (List.mem_of_getElem? (i := 31) rfl) rfl
def m_Mo_openRange : zM := (y_Mo_openRange, prog_11_method_27_code, 8, (none : Option FieldType), 0, 0)
theorem wc_Mo_openRange : Cond.code m_Mo_openRange.1 m_Mo_openRange.2.1 m_Mo_openRange.2.2.1 m_Mo_openRange.2.2.2.1 ∈ zGW := z_in5 (List.mem_of_getElem? (i := 35) rfl) rfl
def m_Mo_tokenize : zM := (y_Mo_tokenize, prog_11_method_28_code, 8, (none : Option FieldType), 6, 159)
theorem wc_Mo_tokenize : Cond.code m_Mo_tokenize.1 m_Mo_tokenize.2.1 m_Mo_tokenize.2.2.1 m_Mo_tokenize.2.2.2.1 ∈ zGW := z_in4 (List.mem_of_getElem? (i := 219) rfl) rfl
def m_Mo_refresh : zM := (y_Mo_refresh, prog_11_method_29_code, 5, (some FieldType.int), 7, 186)
theorem wc_Mo_refresh : Cond.code m_Mo_refresh.1 m_Mo_refresh.2.1 m_Mo_refresh.2.2.1 m_Mo_refresh.2.2.2.1 ∈ zGW := z_in5 (List.mem_of_getElem? (i := 55) rfl) rfl
def m_Mo_refreshAll : zM := (y_Mo_refreshAll, prog_11_method_30_code, 2, (none : Option FieldType), 7, 186)
theorem wc_Mo_refreshAll : Cond.code m_Mo_refreshAll.1 m_Mo_refreshAll.2.1 m_Mo_refreshAll.2.2.1 m_Mo_refreshAll.2.2.2.1 ∈ zGW := z_in4 (List.mem_of_getElem? (i := 215) rfl) rfl
def m_Mo_lift : zM := (y_Mo_lift, prog_11_method_31_code, 6, (none : Option FieldType), 0, 0)
theorem wc_Mo_lift : Cond.code m_Mo_lift.1 m_Mo_lift.2.1 m_Mo_lift.2.2.1 m_Mo_lift.2.2.2.1 ∈ zGW := z_in4 (List.mem_of_getElem? (i := 172) rfl) rfl
def m_Mo_isRangeNumber : zM := (y_Mo_isRangeNumber, prog_11_method_32_code, 2, (some FieldType.boolean), 0, 0)
theorem wc_Mo_isRangeNumber : Cond.code m_Mo_isRangeNumber.1 m_Mo_isRangeNumber.2.1 m_Mo_isRangeNumber.2.2.1 m_Mo_isRangeNumber.2.2.2.1 ∈ zGW := z_in4 (List.mem_of_getElem? (i := 164) rfl) rfl
def m_Mo_isPattern : zM := (y_Mo_isPattern, prog_11_method_33_code, 4, (some FieldType.boolean), 4, 103)
theorem wc_Mo_isPattern : Cond.code m_Mo_isPattern.1 m_Mo_isPattern.2.1 m_Mo_isPattern.2.2.1 m_Mo_isPattern.2.2.2.1 ∈ zGW := z_in4 (List.mem_of_getElem? (i := 168) rfl) rfl
def m_Mo_make : zM := (y_Mo_make, prog_11_method_34_code, 6, (some FieldType.int), 8, 207)
theorem wc_Mo_make : Cond.code m_Mo_make.1 m_Mo_make.2.1 m_Mo_make.2.2.1 m_Mo_make.2.2.2.1 ∈ zGW := z_in4 (List.mem_of_getElem? (i := 211) rfl) rfl
def m_Mo_piece : zM := (y_Mo_piece, prog_11_method_35_code, 3, (some FieldType.int), 9, 232)
theorem wc_Mo_piece : Cond.code m_Mo_piece.1 m_Mo_piece.2.1 m_Mo_piece.2.2.1 m_Mo_piece.2.2.2.1 ∈ zGW := z_in4 (List.mem_of_getElem? (i := 160) rfl) rfl
def m_Mo_range : zM := (y_Mo_range, prog_11_method_36_code, 4, (some FieldType.int), 9, 232)
theorem wc_Mo_range : Cond.code m_Mo_range.1 m_Mo_range.2.1 m_Mo_range.2.2.1 m_Mo_range.2.2.2.1 ∈ zGW := z_in5 (List.mem_of_getElem? (i := 39) rfl) rfl
def m_Mo_include : zM := (y_Mo_include, prog_11_method_37_code, 3, (some FieldType.boolean), 8, 207)
theorem wc_Mo_include : Cond.code m_Mo_include.1 m_Mo_include.2.1 m_Mo_include.2.2.1 m_Mo_include.2.2.2.1 ∈ zGW := z_in5 (List.mem_of_getElem? (i := 43) rfl) rfl
def m_Mo_theme : zM := (y_Mo_theme, prog_11_method_38_code, 4, (some FieldType.boolean), 0, 0)
theorem wc_Mo_theme : Cond.code m_Mo_theme.1 m_Mo_theme.2.1 m_Mo_theme.2.2.1 m_Mo_theme.2.2.2.1 ∈ zGW := z_in5 (List.mem_of_getElem? (i := 47) rfl) rfl
def m_Mo_put : zM := (y_Mo_put, prog_11_method_39_code, 3, (some FieldType.int), 8, 210)
theorem wc_Mo_put : Cond.code m_Mo_put.1 m_Mo_put.2.1 m_Mo_put.2.2.1 m_Mo_put.2.2.2.1 ∈ zGW := z_in5 (List.mem_of_getElem? (i := 51) rfl) rfl
def m_Mo_drop : zM := (y_Mo_drop, prog_11_method_40_code, 4, (some FieldType.int), 8, 210)
theorem wc_Mo_drop : Cond.code m_Mo_drop.1 m_Mo_drop.2.1 m_Mo_drop.2.2.1 m_Mo_drop.2.2.2.1 ∈ zGW := z_in5 (List.mem_of_getElem? (i := 63) rfl) rfl
def m_Mo_isLine : zM := (y_Mo_isLine, prog_11_method_41_code, 2, (some FieldType.boolean), 0, 0)
theorem wc_Mo_isLine : Cond.code m_Mo_isLine.1 m_Mo_isLine.2.1 m_Mo_isLine.2.2.1 m_Mo_isLine.2.2.2.1 ∈ zGW := z_in5 (List.mem_of_getElem? (i := 79) rfl) rfl
def m_Mo_lines : zM := (y_Mo_lines, prog_11_method_42_code, 1, (some FieldType.int), 0, 0)
theorem wc_Mo_lines : Cond.code m_Mo_lines.1 m_Mo_lines.2.1 m_Mo_lines.2.2.1 m_Mo_lines.2.2.2.1 ∈ zGW := z_in5 (List.mem_of_getElem? (i := 67) rfl) rfl
def m_Mo_passes : zM := (y_Mo_passes, prog_11_method_43_code, 1, (some FieldType.int), 0, 0)
theorem wc_Mo_passes : Cond.code m_Mo_passes.1 m_Mo_passes.2.1 m_Mo_passes.2.2.1 m_Mo_passes.2.2.2.1 ∈ zGW := z_in5 (List.mem_of_getElem? (i := 71) rfl) rfl
def m_Mo_length : zM := (y_Mo_length, prog_11_method_44_code, 2, (some FieldType.int), 1, 21)
theorem wc_Mo_length : Cond.code m_Mo_length.1 m_Mo_length.2.1 m_Mo_length.2.2.1 m_Mo_length.2.2.2.1 ∈ zGW := z_in5 (List.mem_of_getElem? (i := 75) rfl) rfl
def m_Mo_tokens : zM := (y_Mo_tokens, prog_11_method_45_code, 2, (some FieldType.int), 1, 21)
theorem wc_Mo_tokens : Cond.code m_Mo_tokens.1 m_Mo_tokens.2.1 m_Mo_tokens.2.2.1 m_Mo_tokens.2.2.2.1 ∈ zGW := z_in5 (List.mem_of_getElem? (i := 83) rfl) rfl
def m_Mo_entry : zM := (y_Mo_entry, prog_11_method_46_code, 8, (some FieldType.int), 0, 0)
theorem wc_Mo_entry : Cond.code m_Mo_entry.1 m_Mo_entry.2.1 m_Mo_entry.2.2.1 m_Mo_entry.2.2.2.1 ∈ zGW := z_in5 (List.mem_of_getElem? (i := 95) rfl) rfl
def m_Mo_colour : zM := (y_Mo_colour, prog_11_method_47_code, 4, (some FieldType.int), 1, 27)
theorem wc_Mo_colour : Cond.code m_Mo_colour.1 m_Mo_colour.2.1 m_Mo_colour.2.2.1 m_Mo_colour.2.2.2.1 ∈ zGW := z_in5 (List.mem_of_getElem? (i := 91) rfl) rfl
def m_Mo_token : zM := (y_Mo_token, prog_11_method_48_code, 6, (some FieldType.int), 2, 50)
theorem wc_Mo_token : Cond.code m_Mo_token.1 m_Mo_token.2.1 m_Mo_token.2.2.1 m_Mo_token.2.2.2.1 ∈ zGW := z_in5 (List.mem_of_getElem? (i := 87) rfl) rfl
def m_Mo_marked : zM := (y_Mo_marked, prog_11_method_49_code, 2, (some FieldType.boolean), 1, 21)
theorem wc_Mo_marked : Cond.code m_Mo_marked.1 m_Mo_marked.2.1 m_Mo_marked.2.2.1 m_Mo_marked.2.2.2.1 ∈ zGW := z_in5 (List.mem_of_getElem? (i := 99) rfl) rfl
def m_Mo_state : zM := (y_Mo_state, prog_11_method_50_code, 3, (some FieldType.int), 1, 21)
theorem wc_Mo_state : Cond.code m_Mo_state.1 m_Mo_state.2.1 m_Mo_state.2.2.1 m_Mo_state.2.2.2.1 ∈ zGW := z_in5 (List.mem_of_getElem? (i := 103) rfl) rfl
def m_Mo_text : zM := (y_Mo_text, prog_11_method_51_code, 4, (some FieldType.int), 1, 21)
theorem wc_Mo_text : Cond.code m_Mo_text.1 m_Mo_text.2.1 m_Mo_text.2.2.1 m_Mo_text.2.2.2.1 ∈ zGW := z_in5 (List.mem_of_getElem? (i := 107) rfl) rfl
def m_Mo_find : zM := (y_Mo_find, prog_11_method_52_code, 5, (some FieldType.int), 5, 134)
theorem wc_Mo_find : Cond.code m_Mo_find.1 m_Mo_find.2.1 m_Mo_find.2.2.1 m_Mo_find.2.2.2.1 ∈ zGW := z_in5 (List.mem_of_getElem? (i := 111) rfl) rfl
def m_Lw_cell : zM := (y_Lw_cell, method_2_code, 2, (some FieldType.int), 0, 0)
theorem wc_Lw_cell : Cond.code m_Lw_cell.1 m_Lw_cell.2.1 m_Lw_cell.2.2.1 m_Lw_cell.2.2.2.1 ∈ zGW := z_in3 (List.mem_of_getElem? (i := 225) rfl) rfl
def m_Lw_law : zM := (x, code, 4, ret, 10, 255)
theorem w_Pr_3 : Cond.methodLink "ScopeLines$Parser" 3 ⟨"java/lang/Object", "<init>", "()V"⟩ ∈ zGW := z_in1 (List.mem_of_getElem? (i := 27) rfl) rfl
theorem wf_Pr_9 : Cond.fieldLink "ScopeLines$Parser" 9 "ScopeLines$Parser" "source" "[C" ∈ zGW := z_in1 (List.mem_of_getElem? (i := 28) rfl) rfl
theorem fd_Pr_9 : zFd "ScopeLines$Parser" 9 5 0 (.array .char) true := ⟨R_Pr, T_Pr, 15, ck_Pr, by decide, by decide +kernel, rfl, rfl, Or.inl wf_Pr_9⟩
theorem wf_Pr_15 : Cond.fieldLink "ScopeLines$Parser" 15 "ScopeLines$Parser" "groupNumbers" "[I" ∈ zGW := z_in1 (List.mem_of_getElem? (i := 35) rfl) rfl
theorem fd_Pr_15 : zFd "ScopeLines$Parser" 15 5 7 (.array .int) true := ⟨R_Pr, T_Pr, 15, ck_Pr, by decide, by decide +kernel, rfl, rfl, Or.inl wf_Pr_15⟩
theorem wf_Pr_19 : Cond.fieldLink "ScopeLines$Parser" 19 "ScopeLines$Parser" "bodies" "[I" ∈ zGW := z_in1 (List.mem_of_getElem? (i := 36) rfl) rfl
theorem fd_Pr_19 : zFd "ScopeLines$Parser" 19 5 8 (.array .int) true := ⟨R_Pr, T_Pr, 15, ck_Pr, by decide, by decide +kernel, rfl, rfl, Or.inl wf_Pr_19⟩
theorem wf_Pr_22 : Cond.fieldLink "ScopeLines$Parser" 22 "ScopeLines$Parser" "branches" "[I" ∈ zGW := z_in1 (List.mem_of_getElem? (i := 37) rfl) rfl
theorem fd_Pr_22 : zFd "ScopeLines$Parser" 22 5 9 (.array .int) true := ⟨R_Pr, T_Pr, 15, ck_Pr, by decide, by decide +kernel, rfl, rfl, Or.inl wf_Pr_22⟩
theorem wf_Pr_25 : Cond.fieldLink "ScopeLines$Parser" 25 "ScopeLines$Parser" "endedBranches" "[I" ∈ zGW := z_in1 (List.mem_of_getElem? (i := 38) rfl) rfl
theorem fd_Pr_25 : zFd "ScopeLines$Parser" 25 5 10 (.array .int) true := ⟨R_Pr, T_Pr, 15, ck_Pr, by decide, by decide +kernel, rfl, rfl, Or.inl wf_Pr_25⟩
theorem wf_Pr_28 : Cond.fieldLink "ScopeLines$Parser" 28 "ScopeLines$Parser" "branchIsEmpty" "[Z" ∈ zGW := z_in1 (List.mem_of_getElem? (i := 39) rfl) rfl
theorem fd_Pr_28 : zFd "ScopeLines$Parser" 28 5 11 (.array .boolean) true := ⟨R_Pr, T_Pr, 15, ck_Pr, by decide, by decide +kernel, rfl, rfl, Or.inl wf_Pr_28⟩
theorem wf_Pr_32 : Cond.fieldLink "ScopeLines$Parser" 32 "ScopeLines$Parser" "someIsEmpty" "[Z" ∈ zGW := z_in1 (List.mem_of_getElem? (i := 40) rfl) rfl
theorem fd_Pr_32 : zFd "ScopeLines$Parser" 32 5 12 (.array .boolean) true := ⟨R_Pr, T_Pr, 15, ck_Pr, by decide, by decide +kernel, rfl, rfl, Or.inl wf_Pr_32⟩
theorem w_Pa_3 : Cond.methodLink "ScopeLines$Palette" 3 ⟨"java/lang/Object", "<init>", "()V"⟩ ∈ zGW := z_in1 (List.mem_of_getElem? (i := 84) rfl) rfl
theorem wf_Pa_9 : Cond.fieldLink "ScopeLines$Palette" 9 "ScopeLines$Palette" "scopes" "[I" ∈ zGW := z_in1 (List.mem_of_getElem? (i := 85) rfl) rfl
theorem fd_Pa_9 : zFd "ScopeLines$Palette" 9 3 0 (.array .int) true := ⟨R_Pa, T_Pa, 4, ck_Pa, by decide, by decide +kernel, rfl, rfl, Or.inl wf_Pa_9⟩
theorem wf_Pa_15 : Cond.fieldLink "ScopeLines$Palette" 15 "ScopeLines$Palette" "parents" "[I" ∈ zGW := z_in1 (List.mem_of_getElem? (i := 86) rfl) rfl
theorem fd_Pa_15 : zFd "ScopeLines$Palette" 15 3 1 (.array .int) true := ⟨R_Pa, T_Pa, 4, ck_Pa, by decide, by decide +kernel, rfl, rfl, Or.inl wf_Pa_15⟩
theorem wf_Pa_18 : Cond.fieldLink "ScopeLines$Palette" 18 "ScopeLines$Palette" "colours" "[I" ∈ zGW := z_in1 (List.mem_of_getElem? (i := 87) rfl) rfl
theorem fd_Pa_18 : zFd "ScopeLines$Palette" 18 3 2 (.array .int) true := ⟨R_Pa, T_Pa, 4, ck_Pa, by decide, by decide +kernel, rfl, rfl, Or.inl wf_Pa_18⟩
theorem w_St_3 : Cond.methodLink "ScopeLines$State" 3 ⟨"java/lang/Object", "<init>", "()V"⟩ ∈ zGW := z_in1 (List.mem_of_getElem? (i := 104) rfl) rfl
theorem wf_St_9 : Cond.fieldLink "ScopeLines$State" 9 "ScopeLines$State" "ranges" "[I" ∈ zGW := z_in1 (List.mem_of_getElem? (i := 109) rfl) rfl
theorem fd_St_9 : zFd "ScopeLines$State" 9 1 1 (.array .int) true := ⟨R_St, T_St, 4, ck_St, by decide, by decide +kernel, rfl, rfl, Or.inl wf_St_9⟩
theorem wf_St_15 : Cond.fieldLink "ScopeLines$State" 15 "ScopeLines$State" "textLengths" "[I" ∈ zGW := z_in1 (List.mem_of_getElem? (i := 112) rfl) rfl
theorem fd_St_15 : zFd "ScopeLines$State" 15 1 2 (.array .int) true := ⟨R_St, T_St, 4, ck_St, by decide, by decide +kernel, rfl, rfl, Or.inl wf_St_15⟩
theorem wf_St_18 : Cond.fieldLink "ScopeLines$State" 18 "ScopeLines$State" "texts" "[C" ∈ zGW := z_in1 (List.mem_of_getElem? (i := 113) rfl) rfl
theorem fd_St_18 : zFd "ScopeLines$State" 18 1 3 (.array .char) true := ⟨R_St, T_St, 4, ck_St, by decide, by decide +kernel, rfl, rfl, Or.inl wf_St_18⟩
theorem w_Se_5 : Cond.methodLink "ScopeLines$Search" 5 ⟨"java/lang/Object", "<init>", "()V"⟩ ∈ zGW := z_in1 (List.mem_of_getElem? (i := 144) rfl) rfl
theorem wf_Se_11 : Cond.fieldLink "ScopeLines$Search" 11 "ScopeLines$Search" "groups" "[I" ∈ zGW := z_in1 (List.mem_of_getElem? (i := 146) rfl) rfl
theorem fd_Se_11 : zFd "ScopeLines$Search" 11 6 1 (.array .int) true := ⟨R_Se, T_Se, 12, ck_Se, by decide, by decide +kernel, rfl, rfl, Or.inl wf_Se_11⟩
theorem wf_Se_17 : Cond.fieldLink "ScopeLines$Search" 17 "ScopeLines$Search" "waiting" "[I" ∈ zGW := z_in1 (List.mem_of_getElem? (i := 163) rfl) rfl
theorem fd_Se_17 : zFd "ScopeLines$Search" 17 6 9 (.array .int) true := ⟨R_Se, T_Se, 12, ck_Se, by decide, by decide +kernel, rfl, rfl, Or.inl wf_Se_17⟩
theorem wf_Se_20 : Cond.fieldLink "ScopeLines$Search" 20 "ScopeLines$Search" "waitingPlaces" "[I" ∈ zGW := z_in1 (List.mem_of_getElem? (i := 164) rfl) rfl
theorem fd_Se_20 : zFd "ScopeLines$Search" 20 6 10 (.array .int) true := ⟨R_Se, T_Se, 12, ck_Se, by decide, by decide +kernel, rfl, rfl, Or.inl wf_Se_20⟩
theorem wf_Se_23 : Cond.fieldLink "ScopeLines$Search" 23 "ScopeLines$Search" "budget" "I" ∈ zGW := z_in1 (List.mem_of_getElem? (i := 145) rfl) rfl
theorem fd_Se_23 : zFd "ScopeLines$Search" 23 6 0 (.int) true := ⟨R_Se, T_Se, 12, ck_Se, by decide, by decide +kernel, rfl, rfl, Or.inl wf_Se_23⟩
theorem w_Pt_3 : Cond.methodLink "ScopeLines$Pattern" 3 ⟨"java/lang/Object", "<init>", "()V"⟩ ∈ zGW := z_in1 (List.mem_of_getElem? (i := 201) rfl) rfl
theorem wf_Pt_11 : Cond.fieldLink "ScopeLines$Pattern" 11 "ScopeLines$Pattern" "ops" "[I" ∈ zGW := z_in1 (List.mem_of_getElem? (i := 202) rfl) rfl
theorem fd_Pt_11 : zFd "ScopeLines$Pattern" 11 4 0 (.array .int) true := ⟨R_Pt, T_Pt, 7, ck_Pt, by decide, by decide +kernel, rfl, rfl, Or.inl wf_Pt_11⟩
theorem wf_Pt_15 : Cond.fieldLink "ScopeLines$Pattern" 15 "ScopeLines$Pattern" "firsts" "[I" ∈ zGW := z_in1 (List.mem_of_getElem? (i := 205) rfl) rfl
theorem fd_Pt_15 : zFd "ScopeLines$Pattern" 15 4 1 (.array .int) true := ⟨R_Pt, T_Pt, 7, ck_Pt, by decide, by decide +kernel, rfl, rfl, Or.inl wf_Pt_15⟩
theorem wf_Pt_18 : Cond.fieldLink "ScopeLines$Pattern" 18 "ScopeLines$Pattern" "seconds" "[I" ∈ zGW := z_in1 (List.mem_of_getElem? (i := 207) rfl) rfl
theorem fd_Pt_18 : zFd "ScopeLines$Pattern" 18 4 2 (.array .int) true := ⟨R_Pt, T_Pt, 7, ck_Pt, by decide, by decide +kernel, rfl, rfl, Or.inl wf_Pt_18⟩
theorem wf_Pt_21 : Cond.fieldLink "ScopeLines$Pattern" 21 "ScopeLines$Pattern" "lowBits" "[J" ∈ zGW := z_in1 (List.mem_of_getElem? (i := 209) rfl) rfl
theorem fd_Pt_21 : zFd "ScopeLines$Pattern" 21 4 3 (.array .long) true := ⟨R_Pt, T_Pt, 7, ck_Pt, by decide, by decide +kernel, rfl, rfl, Or.inl wf_Pt_21⟩
theorem wf_Pt_25 : Cond.fieldLink "ScopeLines$Pattern" 25 "ScopeLines$Pattern" "highBits" "[J" ∈ zGW := z_in1 (List.mem_of_getElem? (i := 210) rfl) rfl
theorem fd_Pt_25 : zFd "ScopeLines$Pattern" 25 4 4 (.array .long) true := ⟨R_Pt, T_Pt, 7, ck_Pt, by decide, by decide +kernel, rfl, rfl, Or.inl wf_Pt_25⟩
theorem w_Ru_3 : Cond.methodLink "ScopeLines$Rule" 3 ⟨"java/lang/Object", "<init>", "()V"⟩ ∈ zGW := z_in1 (List.mem_of_getElem? (i := 195) rfl) rfl
theorem wk_Ru_9 : Cond.classLink "ScopeLines$Rule" 9 "ScopeLines$Pattern" ∈ zGW := z_in1 (List.mem_of_getElem? (i := 196) rfl) rfl
theorem wi_Pt : Cond.instantiable "ScopeLines$Pattern" 7 ∈ zGW := z_in1 (List.mem_of_getElem? (i := 197) rfl) rfl
theorem wn_Pt : Cond.initialized "ScopeLines$Pattern" ∈ zGW := z_in1 (List.mem_of_getElem? (i := 9) rfl) rfl
theorem nw_Ru_9 : zNw "ScopeLines$Rule" 9 4 7 := ⟨R_Pt, T_Pt, ck_Pt, df_Pt, wk_Ru_9, wi_Pt, wn_Pt⟩
theorem wj_Pt_init : Cond.instanceMethod ⟨"ScopeLines$Pattern", "<init>", "()V"⟩ ∈ zGW := z_in1 (List.mem_of_getElem? (i := 199) rfl) rfl
theorem cw_Ru_init_11 : zCw m_Ru_init m_Pt_init 11 2 0 0 := ⟨Or.inr ⟨"ScopeLines", List.mem_of_getElem? (i := 5) rfl⟩, wc_Pt_init, wn_Pt, ⟨by decide, by decide, by decide +kernel⟩, ⟨by decide, by decide⟩, (fun q => by cases q), (fun q => by cases q), (fun _ => ⟨rfl, rfl, wj_Pt_init⟩)⟩
theorem wf_Ru_12 : Cond.fieldLink "ScopeLines$Rule" 12 "ScopeLines$Rule" "pattern" "LScopeLines$Pattern;" ∈ zGW := z_in1 (List.mem_of_getElem? (i := 230) rfl) rfl
theorem fd_Ru_12 : zFd "ScopeLines$Rule" 12 7 0 (.object "ScopeLines$Pattern") true := ⟨R_Ru, T_Ru, 6, ck_Ru, by decide, by decide +kernel, rfl, rfl, Or.inl wf_Ru_12⟩
theorem wf_Ru_18 : Cond.fieldLink "ScopeLines$Rule" 18 "ScopeLines$Rule" "end" "LScopeLines$Pattern;" ∈ zGW := z_in1 (List.mem_of_getElem? (i := 233) rfl) rfl
theorem fd_Ru_18 : zFd "ScopeLines$Rule" 18 7 1 (.object "ScopeLines$Pattern") true := ⟨R_Ru, T_Ru, 6, ck_Ru, by decide, by decide +kernel, rfl, rfl, Or.inl wf_Ru_18⟩
theorem wf_Ru_21 : Cond.fieldLink "ScopeLines$Rule" 21 "ScopeLines$Rule" "included" "I" ∈ zGW := z_in1 (List.mem_of_getElem? (i := 239) rfl) rfl
theorem fd_Ru_21 : zFd "ScopeLines$Rule" 21 7 5 (.int) false := ⟨R_Ru, T_Ru, 6, ck_Ru, by decide, by decide +kernel, rfl, rfl, Or.inl wf_Ru_21⟩
theorem w_Gr_3 : Cond.methodLink "ScopeLines$Grammar" 3 ⟨"java/lang/Object", "<init>", "()V"⟩ ∈ zGW := z_in1 (List.mem_of_getElem? (i := 134) rfl) rfl
theorem w_Gr_9 : Cond.classLink "ScopeLines$Grammar" 9 "ScopeLines$Rule" ∈ zGW := z_in1 (List.mem_of_getElem? (i := 135) rfl) rfl
theorem wf_Gr_11 : Cond.fieldLink "ScopeLines$Grammar" 11 "ScopeLines$Grammar" "rules" "[LScopeLines$Rule;" ∈ zGW := z_in2 (List.mem_of_getElem? (i := 15) rfl) rfl
theorem fd_Gr_11 : zFd "ScopeLines$Grammar" 11 8 0 (.array (.object "ScopeLines$Rule")) true := ⟨R_Gr, T_Gr, 10, ck_Gr, by decide, by decide +kernel, rfl, rfl, Or.inl wf_Gr_11⟩
theorem wk_Gr_17 : Cond.classLink "ScopeLines$Grammar" 17 "ScopeLines$State" ∈ zGW := z_in1 (List.mem_of_getElem? (i := 137) rfl) rfl
theorem wi_St : Cond.instantiable "ScopeLines$State" 4 ∈ zGW := z_in1 (List.mem_of_getElem? (i := 100) rfl) rfl
theorem wn_St : Cond.initialized "ScopeLines$State" ∈ zGW := z_in1 (List.mem_of_getElem? (i := 4) rfl) rfl
theorem nw_Gr_17 : zNw "ScopeLines$Grammar" 17 1 4 := ⟨R_St, T_St, ck_St, df_St, wk_Gr_17, wi_St, wn_St⟩
theorem wj_St_init : Cond.instanceMethod ⟨"ScopeLines$State", "<init>", "()V"⟩ ∈ zGW := z_in1 (List.mem_of_getElem? (i := 102) rfl) rfl
theorem cw_Gr_init_19 : zCw m_Gr_init m_St_init 19 2 0 0 := ⟨Or.inr ⟨"ScopeLines", List.mem_of_getElem? (i := 3) rfl⟩, wc_St_init, wn_St, ⟨by decide, by decide, by decide +kernel⟩, ⟨by decide, by decide⟩, (fun q => by cases q), (fun q => by cases q), (fun _ => ⟨rfl, rfl, wj_St_init⟩)⟩
theorem wf_Gr_20 : Cond.fieldLink "ScopeLines$Grammar" 20 "ScopeLines$Grammar" "now" "LScopeLines$State;" ∈ zGW := z_in2 (List.mem_of_getElem? (i := 21) rfl) rfl
theorem fd_Gr_20 : zFd "ScopeLines$Grammar" 20 8 3 (.object "ScopeLines$State") true := ⟨R_Gr, T_Gr, 10, ck_Gr, by decide, by decide +kernel, rfl, rfl, Or.inl wf_Gr_20⟩
theorem wf_Gr_24 : Cond.fieldLink "ScopeLines$Grammar" 24 "ScopeLines$Grammar" "candidates" "[I" ∈ zGW := z_in2 (List.mem_of_getElem? (i := 22) rfl) rfl
theorem fd_Gr_24 : zFd "ScopeLines$Grammar" 24 8 4 (.array .int) true := ⟨R_Gr, T_Gr, 10, ck_Gr, by decide, by decide +kernel, rfl, rfl, Or.inl wf_Gr_24⟩
theorem wf_Gr_28 : Cond.fieldLink "ScopeLines$Grammar" 28 "ScopeLines$Grammar" "winnerGroups" "[I" ∈ zGW := z_in2 (List.mem_of_getElem? (i := 27) rfl) rfl
theorem fd_Gr_28 : zFd "ScopeLines$Grammar" 28 8 9 (.array .int) true := ⟨R_Gr, T_Gr, 10, ck_Gr, by decide, by decide +kernel, rfl, rfl, Or.inl wf_Gr_28⟩
theorem wk_Gr_31 : Cond.classLink "ScopeLines$Grammar" 31 "ScopeLines$Search" ∈ zGW := z_in1 (List.mem_of_getElem? (i := 139) rfl) rfl
theorem wi_Se : Cond.instantiable "ScopeLines$Search" 12 ∈ zGW := z_in1 (List.mem_of_getElem? (i := 140) rfl) rfl
theorem wn_Se : Cond.initialized "ScopeLines$Search" ∈ zGW := z_in1 (List.mem_of_getElem? (i := 7) rfl) rfl
theorem nw_Gr_31 : zNw "ScopeLines$Grammar" 31 6 12 := ⟨R_Se, T_Se, ck_Se, df_Se, wk_Gr_31, wi_Se, wn_Se⟩
theorem wm_Gr_33 : Cond.methodLink "ScopeLines$Grammar" 33 ⟨"ScopeLines$Search", "<init>", "(I)V"⟩ ∈ zGW := z_in1 (List.mem_of_getElem? (i := 141) rfl) rfl
theorem wj_Se_init : Cond.instanceMethod ⟨"ScopeLines$Search", "<init>", "(I)V"⟩ ∈ zGW := z_in1 (List.mem_of_getElem? (i := 142) rfl) rfl
theorem cw_Gr_init_33 : zCw m_Gr_init m_Se_init 33 2 0 1 := ⟨Or.inl wm_Gr_33, wc_Se_init, wn_Se, ⟨by decide, by decide, by decide +kernel⟩, ⟨by decide, by decide⟩, (fun q => by cases q), (fun q => by cases q), (fun _ => ⟨rfl, rfl, wj_Se_init⟩)⟩
theorem wf_Gr_36 : Cond.fieldLink "ScopeLines$Grammar" 36 "ScopeLines$Grammar" "search" "LScopeLines$Search;" ∈ zGW := z_in2 (List.mem_of_getElem? (i := 19) rfl) rfl
theorem fd_Gr_36 : zFd "ScopeLines$Grammar" 36 8 2 (.object "ScopeLines$Search") true := ⟨R_Gr, T_Gr, 10, ck_Gr, by decide, by decide +kernel, rfl, rfl, Or.inl wf_Gr_36⟩
theorem wk_Gr_9 : Cond.classLink "ScopeLines$Grammar" 9 "ScopeLines$Rule" ∈ zGW := z_in1 (List.mem_of_getElem? (i := 135) rfl) rfl
theorem wi_Ru : Cond.instantiable "ScopeLines$Rule" 6 ∈ zGW := z_in1 (List.mem_of_getElem? (i := 191) rfl) rfl
theorem wn_Ru : Cond.initialized "ScopeLines$Rule" ∈ zGW := z_in1 (List.mem_of_getElem? (i := 8) rfl) rfl
theorem nw_Gr_9 : zNw "ScopeLines$Grammar" 9 7 6 := ⟨R_Ru, T_Ru, ck_Ru, df_Ru, wk_Gr_9, wi_Ru, wn_Ru⟩
theorem wj_Ru_init : Cond.instanceMethod ⟨"ScopeLines$Rule", "<init>", "()V"⟩ ∈ zGW := z_in1 (List.mem_of_getElem? (i := 193) rfl) rfl
theorem cw_Gr_init_40 : zCw m_Gr_init m_Ru_init 40 2 0 0 := ⟨Or.inr ⟨"ScopeLines", List.mem_of_getElem? (i := 4) rfl⟩, wc_Ru_init, wn_Ru, ⟨by decide, by decide, by decide +kernel⟩, ⟨by decide, by decide⟩, (fun q => by cases q), (fun q => by cases q), (fun _ => ⟨rfl, rfl, wj_Ru_init⟩)⟩
theorem wf_Gr_41 : Cond.fieldLink "ScopeLines$Grammar" 41 "ScopeLines$Rule" "isRange" "Z" ∈ zGW := z_in1 (List.mem_of_getElem? (i := 236) rfl) rfl
theorem fd_Gr_41 : zFd "ScopeLines$Grammar" 41 7 2 (.boolean) false := ⟨R_Ru, T_Ru, 6, ck_Ru, by decide, by decide +kernel, rfl, rfl, Or.inl wf_Gr_41⟩
theorem w_Li_3 : Cond.methodLink "ScopeLines$Line" 3 ⟨"java/lang/Object", "<init>", "()V"⟩ ∈ zGW := z_in2 (List.mem_of_getElem? (i := 53) rfl) rfl
theorem wf_Li_9 : Cond.fieldLink "ScopeLines$Line" 9 "ScopeLines$Line" "characters" "[C" ∈ zGW := z_in2 (List.mem_of_getElem? (i := 56) rfl) rfl
theorem fd_Li_9 : zFd "ScopeLines$Line" 9 2 0 (.array .char) true := ⟨R_Li, T_Li, 8, ck_Li, by decide, by decide +kernel, rfl, rfl, Or.inl wf_Li_9⟩
theorem wf_Li_15 : Cond.fieldLink "ScopeLines$Line" 15 "ScopeLines$Line" "begins" "[I" ∈ zGW := z_in2 (List.mem_of_getElem? (i := 63) rfl) rfl
theorem fd_Li_15 : zFd "ScopeLines$Line" 15 2 2 (.array .int) true := ⟨R_Li, T_Li, 8, ck_Li, by decide, by decide +kernel, rfl, rfl, Or.inl wf_Li_15⟩
theorem wf_Li_19 : Cond.fieldLink "ScopeLines$Line" 19 "ScopeLines$Line" "scopeCounts" "[I" ∈ zGW := z_in2 (List.mem_of_getElem? (i := 65) rfl) rfl
theorem fd_Li_19 : zFd "ScopeLines$Line" 19 2 3 (.array .int) true := ⟨R_Li, T_Li, 8, ck_Li, by decide, by decide +kernel, rfl, rfl, Or.inl wf_Li_19⟩
theorem wf_Li_22 : Cond.fieldLink "ScopeLines$Line" 22 "ScopeLines$Line" "scopes" "[I" ∈ zGW := z_in2 (List.mem_of_getElem? (i := 68) rfl) rfl
theorem fd_Li_22 : zFd "ScopeLines$Line" 22 2 4 (.array .int) true := ⟨R_Li, T_Li, 8, ck_Li, by decide, by decide +kernel, rfl, rfl, Or.inl wf_Li_22⟩
theorem wk_Li_25 : Cond.classLink "ScopeLines$Line" 25 "ScopeLines$State" ∈ zGW := z_in2 (List.mem_of_getElem? (i := 54) rfl) rfl
theorem nw_Li_25 : zNw "ScopeLines$Line" 25 1 4 := ⟨R_St, T_St, ck_St, df_St, wk_Li_25, wi_St, wn_St⟩
theorem cw_Li_init_27 : zCw m_Li_init m_St_init 27 2 0 0 := ⟨Or.inr ⟨"ScopeLines", List.mem_of_getElem? (i := 7) rfl⟩, wc_St_init, wn_St, ⟨by decide, by decide, by decide +kernel⟩, ⟨by decide, by decide⟩, (fun q => by cases q), (fun q => by cases q), (fun _ => ⟨rfl, rfl, wj_St_init⟩)⟩
theorem wf_Li_28 : Cond.fieldLink "ScopeLines$Line" 28 "ScopeLines$Line" "end" "LScopeLines$State;" ∈ zGW := z_in2 (List.mem_of_getElem? (i := 74) rfl) rfl
theorem fd_Li_28 : zFd "ScopeLines$Line" 28 2 7 (.object "ScopeLines$State") true := ⟨R_Li, T_Li, 8, ck_Li, by decide, by decide +kernel, rfl, rfl, Or.inl wf_Li_28⟩
theorem w_SL_1 : Cond.methodLink "ScopeLines" 1 ⟨"java/lang/Object", "<init>", "()V"⟩ ∈ zGW := z_in1 (List.mem_of_getElem? (i := 19) rfl) rfl
theorem wf_SL_9 : Cond.fieldLink "ScopeLines" 9 "ScopeLines" "draft" "[C" ∈ zGW := z_in2 (List.mem_of_getElem? (i := 94) rfl) rfl
theorem fd_SL_9 : zFd "ScopeLines" 9 0 0 (.array .char) true := ⟨R_SL, T_SL, 10, ck_SL, by decide, by decide +kernel, rfl, rfl, Or.inl wf_SL_9⟩
theorem wk_SL_13 : Cond.classLink "ScopeLines" 13 "ScopeLines$Parser" ∈ zGW := z_in1 (List.mem_of_getElem? (i := 22) rfl) rfl
theorem wi_Pr : Cond.instantiable "ScopeLines$Parser" 15 ∈ zGW := z_in1 (List.mem_of_getElem? (i := 23) rfl) rfl
theorem wn_Pr : Cond.initialized "ScopeLines$Parser" ∈ zGW := z_in1 (List.mem_of_getElem? (i := 2) rfl) rfl
theorem nw_SL_13 : zNw "ScopeLines" 13 5 15 := ⟨R_Pr, T_Pr, ck_Pr, df_Pr, wk_SL_13, wi_Pr, wn_Pr⟩
theorem wj_Pr_init : Cond.instanceMethod ⟨"ScopeLines$Parser", "<init>", "()V"⟩ ∈ zGW := z_in1 (List.mem_of_getElem? (i := 25) rfl) rfl
theorem cw_SL_init_15 : zCw m_SL_init m_Pr_init 15 2 0 0 := ⟨Or.inr ⟨"ScopeLines", List.mem_of_getElem? (i := 0) rfl⟩, wc_Pr_init, wn_Pr, ⟨by decide, by decide, by decide +kernel⟩, ⟨by decide, by decide⟩, (fun q => by cases q), (fun q => by cases q), (fun _ => ⟨rfl, rfl, wj_Pr_init⟩)⟩
theorem wf_SL_16 : Cond.fieldLink "ScopeLines" 16 "ScopeLines" "parser" "LScopeLines$Parser;" ∈ zGW := z_in2 (List.mem_of_getElem? (i := 96) rfl) rfl
theorem fd_SL_16 : zFd "ScopeLines" 16 0 2 (.object "ScopeLines$Parser") true := ⟨R_SL, T_SL, 10, ck_SL, by decide, by decide +kernel, rfl, rfl, Or.inl wf_SL_16⟩
theorem w_SL_20 : Cond.classLink "ScopeLines" 20 "ScopeLines$Line" ∈ zGW := z_in1 (List.mem_of_getElem? (i := 77) rfl) rfl
theorem wf_SL_22 : Cond.fieldLink "ScopeLines" 22 "ScopeLines" "document" "[LScopeLines$Line;" ∈ zGW := z_in2 (List.mem_of_getElem? (i := 98) rfl) rfl
theorem fd_SL_22 : zFd "ScopeLines" 22 0 4 (.array (.object "ScopeLines$Line")) true := ⟨R_SL, T_SL, 10, ck_SL, by decide, by decide +kernel, rfl, rfl, Or.inl wf_SL_22⟩
theorem wk_SL_26 : Cond.classLink "ScopeLines" 26 "ScopeLines$Palette" ∈ zGW := z_in1 (List.mem_of_getElem? (i := 79) rfl) rfl
theorem wi_Pa : Cond.instantiable "ScopeLines$Palette" 4 ∈ zGW := z_in1 (List.mem_of_getElem? (i := 80) rfl) rfl
theorem wn_Pa : Cond.initialized "ScopeLines$Palette" ∈ zGW := z_in1 (List.mem_of_getElem? (i := 3) rfl) rfl
theorem nw_SL_26 : zNw "ScopeLines" 26 3 4 := ⟨R_Pa, T_Pa, ck_Pa, df_Pa, wk_SL_26, wi_Pa, wn_Pa⟩
theorem wj_Pa_init : Cond.instanceMethod ⟨"ScopeLines$Palette", "<init>", "()V"⟩ ∈ zGW := z_in1 (List.mem_of_getElem? (i := 82) rfl) rfl
theorem cw_SL_init_28 : zCw m_SL_init m_Pa_init 28 2 0 0 := ⟨Or.inr ⟨"ScopeLines", List.mem_of_getElem? (i := 1) rfl⟩, wc_Pa_init, wn_Pa, ⟨by decide, by decide, by decide +kernel⟩, ⟨by decide, by decide⟩, (fun q => by cases q), (fun q => by cases q), (fun _ => ⟨rfl, rfl, wj_Pa_init⟩)⟩
theorem wf_SL_29 : Cond.fieldLink "ScopeLines" 29 "ScopeLines" "palette" "LScopeLines$Palette;" ∈ zGW := z_in2 (List.mem_of_getElem? (i := 101) rfl) rfl
theorem fd_SL_29 : zFd "ScopeLines" 29 0 7 (.object "ScopeLines$Palette") true := ⟨R_SL, T_SL, 10, ck_SL, by decide, by decide +kernel, rfl, rfl, Or.inl wf_SL_29⟩
theorem wk_SL_33 : Cond.classLink "ScopeLines" 33 "ScopeLines$State" ∈ zGW := z_in1 (List.mem_of_getElem? (i := 99) rfl) rfl
theorem nw_SL_33 : zNw "ScopeLines" 33 1 4 := ⟨R_St, T_St, ck_St, df_St, wk_SL_33, wi_St, wn_St⟩
theorem cw_SL_init_35 : zCw m_SL_init m_St_init 35 2 0 0 := ⟨Or.inr ⟨"ScopeLines", List.mem_of_getElem? (i := 2) rfl⟩, wc_St_init, wn_St, ⟨by decide, by decide, by decide +kernel⟩, ⟨by decide, by decide⟩, (fun q => by cases q), (fun q => by cases q), (fun _ => ⟨rfl, rfl, wj_St_init⟩)⟩
theorem wf_SL_36 : Cond.fieldLink "ScopeLines" 36 "ScopeLines" "nothingOpen" "LScopeLines$State;" ∈ zGW := z_in2 (List.mem_of_getElem? (i := 102) rfl) rfl
theorem fd_SL_36 : zFd "ScopeLines" 36 0 8 (.object "ScopeLines$State") true := ⟨R_SL, T_SL, 10, ck_SL, by decide, by decide +kernel, rfl, rfl, Or.inl wf_SL_36⟩
theorem wf_SL_40 : Cond.fieldLink "ScopeLines" 40 "ScopeLines" "before" "LScopeLines$State;" ∈ zGW := z_in2 (List.mem_of_getElem? (i := 103) rfl) rfl
theorem fd_SL_40 : zFd "ScopeLines" 40 0 9 (.object "ScopeLines$State") true := ⟨R_SL, T_SL, 10, ck_SL, by decide, by decide +kernel, rfl, rfl, Or.inl wf_SL_40⟩
theorem wk_SL_43 : Cond.classLink "ScopeLines" 43 "ScopeLines$Grammar" ∈ zGW := z_in1 (List.mem_of_getElem? (i := 123) rfl) rfl
theorem wi_Gr : Cond.instantiable "ScopeLines$Grammar" 10 ∈ zGW := z_in1 (List.mem_of_getElem? (i := 124) rfl) rfl
theorem wn_Gr : Cond.initialized "ScopeLines$Grammar" ∈ zGW := z_in1 (List.mem_of_getElem? (i := 5) rfl) rfl
theorem nw_SL_43 : zNw "ScopeLines" 43 8 10 := ⟨R_Gr, T_Gr, ck_Gr, df_Gr, wk_SL_43, wi_Gr, wn_Gr⟩
theorem w_SL_45 : Cond.methodLink "ScopeLines" 45 ⟨"java/lang/Math", "min", "(II)I"⟩ ∈ zGW := z_in1 (List.mem_of_getElem? (i := 125) rfl) rfl
theorem w_min1 : Cond.static ⟨"java/lang/Math", "min", "(II)I"⟩ ∈ zGW := z_in1 (List.mem_of_getElem? (i := 126) rfl) rfl
theorem w_math : Cond.initialized "java/lang/Math" ∈ zGW := z_in1 (List.mem_of_getElem? (i := 6) rfl) rfl
theorem w_min2 : Cond.code ⟨"java/lang/Math", "min", "(II)I"⟩ prog_12_method_69_code 2 (Option.some FieldType.int) ∈ zGW := z_in1 (List.mem_of_getElem? (i := 127) rfl) rfl
theorem w_SL_51 : Cond.methodLink "ScopeLines" 51 ⟨"java/lang/Math", "max", "(II)I"⟩ ∈ zGW := z_in1 (List.mem_of_getElem? (i := 128) rfl) rfl
theorem w_max1 : Cond.static ⟨"java/lang/Math", "max", "(II)I"⟩ ∈ zGW := z_in1 (List.mem_of_getElem? (i := 129) rfl) rfl
theorem w_max2 : Cond.code ⟨"java/lang/Math", "max", "(II)I"⟩ prog_12_method_65_code 2 (Option.some FieldType.int) ∈ zGW := z_in1 (List.mem_of_getElem? (i := 130) rfl) rfl
theorem wm_SL_54 : Cond.methodLink "ScopeLines" 54 ⟨"ScopeLines$Grammar", "<init>", "(I)V"⟩ ∈ zGW := z_in1 (List.mem_of_getElem? (i := 131) rfl) rfl
theorem wj_Gr_init : Cond.instanceMethod ⟨"ScopeLines$Grammar", "<init>", "(I)V"⟩ ∈ zGW := z_in1 (List.mem_of_getElem? (i := 132) rfl) rfl
theorem cw_SL_init_54 : zCw m_SL_init m_Gr_init 54 2 0 1 := ⟨Or.inl wm_SL_54, wc_Gr_init, wn_Gr, ⟨by decide, by decide, by decide +kernel⟩, ⟨by decide, by decide⟩, (fun q => by cases q), (fun q => by cases q), (fun _ => ⟨rfl, rfl, wj_Gr_init⟩)⟩
theorem wf_SL_57 : Cond.fieldLink "ScopeLines" 57 "ScopeLines" "grammar" "LScopeLines$Grammar;" ∈ zGW := z_in2 (List.mem_of_getElem? (i := 97) rfl) rfl
theorem fd_SL_57 : zFd "ScopeLines" 57 0 3 (.object "ScopeLines$Grammar") true := ⟨R_SL, T_SL, 10, ck_SL, by decide, by decide +kernel, rfl, rfl, Or.inl wf_SL_57⟩
theorem wk_SL_20 : Cond.classLink "ScopeLines" 20 "ScopeLines$Line" ∈ zGW := z_in1 (List.mem_of_getElem? (i := 77) rfl) rfl
theorem wi_Li : Cond.instantiable "ScopeLines$Line" 8 ∈ zGW := z_in2 (List.mem_of_getElem? (i := 49) rfl) rfl
theorem wn_Li : Cond.initialized "ScopeLines$Line" ∈ zGW := z_in1 (List.mem_of_getElem? (i := 10) rfl) rfl
theorem nw_SL_20 : zNw "ScopeLines" 20 2 8 := ⟨R_Li, T_Li, ck_Li, df_Li, wk_SL_20, wi_Li, wn_Li⟩
theorem wj_Li_init : Cond.instanceMethod ⟨"ScopeLines$Line", "<init>", "()V"⟩ ∈ zGW := z_in2 (List.mem_of_getElem? (i := 51) rfl) rfl
theorem cw_SL_init_61 : zCw m_SL_init m_Li_init 61 2 0 0 := ⟨Or.inr ⟨"ScopeLines", List.mem_of_getElem? (i := 6) rfl⟩, wc_Li_init, wn_Li, ⟨by decide, by decide, by decide +kernel⟩, ⟨by decide, by decide⟩, (fun q => by cases q), (fun q => by cases q), (fun _ => ⟨rfl, rfl, wj_Li_init⟩)⟩
theorem wf_SL_62 : Cond.fieldLink "ScopeLines" 62 "ScopeLines" "drafted" "I" ∈ zGW := z_in2 (List.mem_of_getElem? (i := 95) rfl) rfl
theorem fd_SL_62 : zFd "ScopeLines" 62 0 1 (.int) false := ⟨R_SL, T_SL, 10, ck_SL, by decide, by decide +kernel, rfl, rfl, Or.inl wf_SL_62⟩
theorem wf_Gr_45 : Cond.fieldLink "ScopeLines$Grammar" 45 "ScopeLines$Grammar" "ruleCount" "I" ∈ zGW := z_in2 (List.mem_of_getElem? (i := 17) rfl) rfl
theorem fd_Gr_45 : zFd "ScopeLines$Grammar" 45 8 1 (.int) false := ⟨R_Gr, T_Gr, 10, ck_Gr, by decide, by decide +kernel, rfl, rfl, Or.inl wf_Gr_45⟩
theorem wf_Pr_35 : Cond.fieldLink "ScopeLines$Parser" 35 "ScopeLines$Parser" "size" "I" ∈ zGW := z_in1 (List.mem_of_getElem? (i := 29) rfl) rfl
theorem fd_Pr_35 : zFd "ScopeLines$Parser" 35 5 1 (.int) false := ⟨R_Pr, T_Pr, 15, ck_Pr, by decide, by decide +kernel, rfl, rfl, Or.inl wf_Pr_35⟩
theorem wf_Pt_28 : Cond.fieldLink "ScopeLines$Pattern" 28 "ScopeLines$Pattern" "size" "I" ∈ zGW := z_in1 (List.mem_of_getElem? (i := 211) rfl) rfl
theorem fd_Pt_28 : zFd "ScopeLines$Pattern" 28 4 5 (.int) false := ⟨R_Pt, T_Pt, 7, ck_Pt, by decide, by decide +kernel, rfl, rfl, Or.inl wf_Pt_28⟩
theorem wf_Pt_32 : Cond.fieldLink "ScopeLines$Pattern" 32 "ScopeLines$Pattern" "setCount" "I" ∈ zGW := z_in1 (List.mem_of_getElem? (i := 213) rfl) rfl
theorem fd_Pt_32 : zFd "ScopeLines$Pattern" 32 4 6 (.int) false := ⟨R_Pt, T_Pt, 7, ck_Pt, by decide, by decide +kernel, rfl, rfl, Or.inl wf_Pt_32⟩
theorem wf_Pr_62 : Cond.fieldLink "ScopeLines$Parser" 62 "ScopeLines$Parser" "level" "I" ∈ zGW := z_in1 (List.mem_of_getElem? (i := 34) rfl) rfl
theorem fd_Pr_62 : zFd "ScopeLines$Parser" 62 5 6 (.int) false := ⟨R_Pr, T_Pr, 15, ck_Pr, by decide, by decide +kernel, rfl, rfl, Or.inl wf_Pr_62⟩
theorem wm_Pt_35 : Cond.methodLink "ScopeLines$Pattern" 35 ⟨"ScopeLines$Pattern", "insert", "(IIII)V"⟩ ∈ zGW := z_in2 (List.mem_of_getElem? (i := 179) rfl) rfl
theorem wj_Pt_insert : Cond.instanceMethod ⟨"ScopeLines$Pattern", "insert", "(IIII)V"⟩ ∈ zGW := z_in2 (List.mem_of_getElem? (i := 180) rfl) rfl
theorem ws_Pt_insert : Cond.selects m_Pt_insert.1.cls m_Pt_insert.1 m_Pt_insert.1 ∈ zGW := z_in2 (List.mem_of_getElem? (i := 181) rfl) rfl
theorem cw_Pt_append_35 : zCw m_Pt_append m_Pt_insert 35 0 4 4 := ⟨Or.inl wm_Pt_35, wc_Pt_insert, wn_Pt, ⟨by decide, by decide, by decide +kernel⟩, ⟨by decide, by decide⟩, (fun _ => ⟨wj_Pt_insert, ws_Pt_insert, by decide, T_Pt, 7, rfl⟩), (fun q => by cases q), (fun q => by cases q)⟩
theorem cw_Pt_endBranch_35 : zCw m_Pt_endBranch m_Pt_insert 35 0 4 4 := ⟨Or.inl wm_Pt_35, wc_Pt_insert, wn_Pt, ⟨by decide, by decide, by decide +kernel⟩, ⟨by decide, by decide⟩, (fun _ => ⟨wj_Pt_insert, ws_Pt_insert, by decide, T_Pt, 7, rfl⟩), (fun q => by cases q), (fun q => by cases q)⟩
theorem wm_Pt_39 : Cond.methodLink "ScopeLines$Pattern" 39 ⟨"ScopeLines$Pattern", "append", "(II)V"⟩ ∈ zGW := z_in2 (List.mem_of_getElem? (i := 183) rfl) rfl
theorem wj_Pt_append : Cond.instanceMethod ⟨"ScopeLines$Pattern", "append", "(II)V"⟩ ∈ zGW := z_in2 (List.mem_of_getElem? (i := 184) rfl) rfl
theorem ws_Pt_append : Cond.selects m_Pt_append.1.cls m_Pt_append.1 m_Pt_append.1 ∈ zGW := z_in2 (List.mem_of_getElem? (i := 185) rfl) rfl
theorem cw_Pt_endBranch_39 : zCw m_Pt_endBranch m_Pt_append 39 0 4 2 := ⟨Or.inl wm_Pt_39, wc_Pt_append, wn_Pt, ⟨by decide, by decide, by decide +kernel⟩, ⟨by decide, by decide⟩, (fun _ => ⟨wj_Pt_append, ws_Pt_append, by decide, T_Pt, 7, rfl⟩), (fun q => by cases q), (fun q => by cases q)⟩
theorem wm_Pr_107 : Cond.methodLink "ScopeLines$Parser" 107 ⟨"ScopeLines$Pattern", "endBranch", "(I)V"⟩ ∈ zGW := z_in2 (List.mem_of_getElem? (i := 175) rfl) rfl
theorem wj_Pt_endBranch : Cond.instanceMethod ⟨"ScopeLines$Pattern", "endBranch", "(I)V"⟩ ∈ zGW := z_in2 (List.mem_of_getElem? (i := 176) rfl) rfl
theorem ws_Pt_endBranch : Cond.selects m_Pt_endBranch.1.cls m_Pt_endBranch.1 m_Pt_endBranch.1 ∈ zGW := z_in2 (List.mem_of_getElem? (i := 177) rfl) rfl
theorem cw_Pr_endBranch_107 : zCw m_Pr_endBranch m_Pt_endBranch 107 0 4 1 := ⟨Or.inl wm_Pr_107, wc_Pt_endBranch, wn_Pt, ⟨by decide, by decide, by decide +kernel⟩, ⟨by decide, by decide⟩, (fun _ => ⟨wj_Pt_endBranch, ws_Pt_endBranch, by decide, T_Pt, 7, rfl⟩), (fun q => by cases q), (fun q => by cases q)⟩
theorem wf_Pr_95 : Cond.fieldLink "ScopeLines$Parser" 95 "ScopeLines$Pattern" "size" "I" ∈ zGW := z_in1 (List.mem_of_getElem? (i := 212) rfl) rfl
theorem fd_Pr_95 : zFd "ScopeLines$Parser" 95 4 5 (.int) false := ⟨R_Pt, T_Pt, 7, ck_Pt, by decide, by decide +kernel, rfl, rfl, Or.inl wf_Pr_95⟩
theorem wf_Pr_59 : Cond.fieldLink "ScopeLines$Parser" 59 "ScopeLines$Parser" "groups" "I" ∈ zGW := z_in1 (List.mem_of_getElem? (i := 33) rfl) rfl
theorem fd_Pr_59 : zFd "ScopeLines$Parser" 59 5 5 (.int) false := ⟨R_Pr, T_Pr, 15, ck_Pr, by decide, by decide +kernel, rfl, rfl, Or.inl wf_Pr_59⟩
theorem wf_Pr_56 : Cond.fieldLink "ScopeLines$Parser" 56 "ScopeLines$Parser" "isBad" "Z" ∈ zGW := z_in1 (List.mem_of_getElem? (i := 32) rfl) rfl
theorem fd_Pr_56 : zFd "ScopeLines$Parser" 56 5 4 (.boolean) false := ⟨R_Pr, T_Pr, 15, ck_Pr, by decide, by decide +kernel, rfl, rfl, Or.inl wf_Pr_56⟩
theorem wm_Pr_82 : Cond.methodLink "ScopeLines$Parser" 82 ⟨"ScopeLines$Pattern", "append", "(II)V"⟩ ∈ zGW := z_in2 (List.mem_of_getElem? (i := 191) rfl) rfl
theorem cw_Pr_openGroup_82 : zCw m_Pr_openGroup m_Pt_append 82 0 4 2 := ⟨Or.inl wm_Pr_82, wc_Pt_append, wn_Pt, ⟨by decide, by decide, by decide +kernel⟩, ⟨by decide, by decide⟩, (fun _ => ⟨wj_Pt_append, ws_Pt_append, by decide, T_Pt, 7, rfl⟩), (fun q => by cases q), (fun q => by cases q)⟩
theorem wm_Pr_70 : Cond.methodLink "ScopeLines$Parser" 70 ⟨"ScopeLines$Parser", "openLevel", "(I)V"⟩ ∈ zGW := z_in2 (List.mem_of_getElem? (i := 163) rfl) rfl
theorem wj_Pr_openLevel : Cond.instanceMethod ⟨"ScopeLines$Parser", "openLevel", "(I)V"⟩ ∈ zGW := z_in2 (List.mem_of_getElem? (i := 165) rfl) rfl
theorem ws_Pr_openLevel : Cond.selects m_Pr_openLevel.1.cls m_Pr_openLevel.1 m_Pr_openLevel.1 ∈ zGW := z_inp (q := (⟨"ScopeLines$Parser", "openLevel", "(I)V"⟩, 15)) (List.mem_of_getElem? (i := 1) rfl)
theorem cw_Pr_openGroup_70 : zCw m_Pr_openGroup m_Pr_openLevel 70 0 5 1 := ⟨Or.inl wm_Pr_70, wc_Pr_openLevel, wn_Pr, ⟨by decide, by decide, by decide +kernel⟩, ⟨by decide, by decide⟩, (fun _ => ⟨wj_Pr_openLevel, ws_Pr_openLevel, by decide, T_Pr, 15, rfl⟩), (fun q => by cases q), (fun q => by cases q)⟩
theorem wm_Pr_104 : Cond.methodLink "ScopeLines$Parser" 104 ⟨"ScopeLines$Pattern", "joinBranches", "(II)V"⟩ ∈ zGW := z_in2 (List.mem_of_getElem? (i := 200) rfl) rfl
theorem wj_Pt_joinBranches : Cond.instanceMethod ⟨"ScopeLines$Pattern", "joinBranches", "(II)V"⟩ ∈ zGW := z_in2 (List.mem_of_getElem? (i := 201) rfl) rfl
theorem ws_Pt_joinBranches : Cond.selects m_Pt_joinBranches.1.cls m_Pt_joinBranches.1 m_Pt_joinBranches.1 ∈ zGW := z_in2 (List.mem_of_getElem? (i := 202) rfl) rfl
theorem cw_Pr_closeLevel_104 : zCw m_Pr_closeLevel m_Pt_joinBranches 104 0 4 2 := ⟨Or.inl wm_Pr_104, wc_Pt_joinBranches, wn_Pt, ⟨by decide, by decide, by decide +kernel⟩, ⟨by decide, by decide⟩, (fun _ => ⟨wj_Pt_joinBranches, ws_Pt_joinBranches, by decide, T_Pt, 7, rfl⟩), (fun q => by cases q), (fun q => by cases q)⟩
theorem cw_Pt_insertSplit_35 : zCw m_Pt_insertSplit m_Pt_insert 35 0 4 4 := ⟨Or.inl wm_Pt_35, wc_Pt_insert, wn_Pt, ⟨by decide, by decide, by decide +kernel⟩, ⟨by decide, by decide⟩, (fun _ => ⟨wj_Pt_insert, ws_Pt_insert, by decide, T_Pt, 7, rfl⟩), (fun q => by cases q), (fun q => by cases q)⟩
theorem wm_Pt_43 : Cond.methodLink "ScopeLines$Pattern" 43 ⟨"ScopeLines$Pattern", "insertSplit", "(IIIZ)V"⟩ ∈ zGW := z_in2 (List.mem_of_getElem? (i := 212) rfl) rfl
theorem wj_Pt_insertSplit : Cond.instanceMethod ⟨"ScopeLines$Pattern", "insertSplit", "(IIIZ)V"⟩ ∈ zGW := z_in2 (List.mem_of_getElem? (i := 214) rfl) rfl
theorem ws_Pt_insertSplit : Cond.selects m_Pt_insertSplit.1.cls m_Pt_insertSplit.1 m_Pt_insertSplit.1 ∈ zGW := z_inp (q := (⟨"ScopeLines$Pattern", "insertSplit", "(IIIZ)V"⟩, 7)) (List.mem_of_getElem? (i := 8) rfl)
theorem cw_Pt_repeat_43 : zCw m_Pt_repeat m_Pt_insertSplit 43 0 4 4 := ⟨Or.inl wm_Pt_43, wc_Pt_insertSplit, wn_Pt, ⟨by decide, by decide, by decide +kernel⟩, ⟨by decide, by decide⟩, (fun _ => ⟨wj_Pt_insertSplit, ws_Pt_insertSplit, by decide, T_Pt, 7, rfl⟩), (fun q => by cases q), (fun q => by cases q)⟩
theorem cw_Pt_repeat_39 : zCw m_Pt_repeat m_Pt_append 39 0 4 2 := ⟨Or.inl wm_Pt_39, wc_Pt_append, wn_Pt, ⟨by decide, by decide, by decide +kernel⟩, ⟨by decide, by decide⟩, (fun _ => ⟨wj_Pt_append, ws_Pt_append, by decide, T_Pt, 7, rfl⟩), (fun q => by cases q), (fun q => by cases q)⟩
theorem wf_Pr_45 : Cond.fieldLink "ScopeLines$Parser" 45 "ScopeLines$Parser" "at" "I" ∈ zGW := z_in1 (List.mem_of_getElem? (i := 30) rfl) rfl
theorem fd_Pr_45 : zFd "ScopeLines$Parser" 45 5 2 (.int) false := ⟨R_Pr, T_Pr, 15, ck_Pr, by decide, by decide +kernel, rfl, rfl, Or.inl wf_Pr_45⟩
theorem wf_Pr_131 : Cond.fieldLink "ScopeLines$Parser" 131 "ScopeLines$Pattern" "ops" "[I" ∈ zGW := z_in1 (List.mem_of_getElem? (i := 204) rfl) rfl
theorem fd_Pr_131 : zFd "ScopeLines$Parser" 131 4 0 (.array .int) true := ⟨R_Pt, T_Pt, 7, ck_Pt, by decide, by decide +kernel, rfl, rfl, Or.inl wf_Pr_131⟩
theorem wm_Pr_134 : Cond.methodLink "ScopeLines$Parser" 134 ⟨"ScopeLines$Pattern", "repeat", "(ICZ)V"⟩ ∈ zGW := z_in2 (List.mem_of_getElem? (i := 208) rfl) rfl
theorem wj_Pt_repeat : Cond.instanceMethod ⟨"ScopeLines$Pattern", "repeat", "(ICZ)V"⟩ ∈ zGW := z_in2 (List.mem_of_getElem? (i := 209) rfl) rfl
theorem ws_Pt_repeat : Cond.selects m_Pt_repeat.1.cls m_Pt_repeat.1 m_Pt_repeat.1 ∈ zGW := z_in2 (List.mem_of_getElem? (i := 210) rfl) rfl
theorem cw_Pr_readQuantifier_134 : zCw m_Pr_readQuantifier m_Pt_repeat 134 0 4 3 := ⟨Or.inl wm_Pr_134, wc_Pt_repeat, wn_Pt, ⟨by decide, by decide, by decide +kernel⟩, ⟨by decide, by decide⟩, (fun _ => ⟨wj_Pt_repeat, ws_Pt_repeat, by decide, T_Pt, 7, rfl⟩), (fun q => by cases q), (fun q => by cases q)⟩
theorem wm_Pr_78 : Cond.methodLink "ScopeLines$Parser" 78 ⟨"ScopeLines$Parser", "closeLevel", "(LScopeLines$Pattern;)Z"⟩ ∈ zGW := z_in2 (List.mem_of_getElem? (i := 196) rfl) rfl
theorem wj_Pr_closeLevel : Cond.instanceMethod ⟨"ScopeLines$Parser", "closeLevel", "(LScopeLines$Pattern;)Z"⟩ ∈ zGW := z_in2 (List.mem_of_getElem? (i := 198) rfl) rfl
theorem ws_Pr_closeLevel : Cond.selects m_Pr_closeLevel.1.cls m_Pr_closeLevel.1 m_Pr_closeLevel.1 ∈ zGW := z_inp (q := (⟨"ScopeLines$Parser", "closeLevel", "(LScopeLines$Pattern;)Z"⟩, 15)) (List.mem_of_getElem? (i := 6) rfl)
theorem cw_Pr_closeGroup_78 : zCw m_Pr_closeGroup m_Pr_closeLevel 78 0 5 1 := ⟨Or.inl wm_Pr_78, wc_Pr_closeLevel, wn_Pr, ⟨by decide, by decide, by decide +kernel⟩, ⟨by decide, by decide⟩, (fun _ => ⟨wj_Pr_closeLevel, ws_Pr_closeLevel, by decide, T_Pr, 15, rfl⟩), (fun q => by cases q), (fun q => by cases q)⟩
theorem cw_Pr_closeGroup_82 : zCw m_Pr_closeGroup m_Pt_append 82 0 4 2 := ⟨Or.inl wm_Pr_82, wc_Pt_append, wn_Pt, ⟨by decide, by decide, by decide +kernel⟩, ⟨by decide, by decide⟩, (fun _ => ⟨wj_Pt_append, ws_Pt_append, by decide, T_Pt, 7, rfl⟩), (fun q => by cases q), (fun q => by cases q)⟩
theorem wm_Pr_100 : Cond.methodLink "ScopeLines$Parser" 100 ⟨"ScopeLines$Parser", "readQuantifier", "(IZLScopeLines$Pattern;)V"⟩ ∈ zGW := z_in2 (List.mem_of_getElem? (i := 204) rfl) rfl
theorem wj_Pr_readQuantifier : Cond.instanceMethod ⟨"ScopeLines$Parser", "readQuantifier", "(IZLScopeLines$Pattern;)V"⟩ ∈ zGW := z_in2 (List.mem_of_getElem? (i := 206) rfl) rfl
theorem ws_Pr_readQuantifier : Cond.selects m_Pr_readQuantifier.1.cls m_Pr_readQuantifier.1 m_Pr_readQuantifier.1 ∈ zGW := z_inp (q := (⟨"ScopeLines$Parser", "readQuantifier", "(IZLScopeLines$Pattern;)V"⟩, 15)) (List.mem_of_getElem? (i := 7) rfl)
theorem cw_Pr_closeGroup_100 : zCw m_Pr_closeGroup m_Pr_readQuantifier 100 0 5 3 := ⟨Or.inl wm_Pr_100, wc_Pr_readQuantifier, wn_Pr, ⟨by decide, by decide, by decide +kernel⟩, ⟨by decide, by decide⟩, (fun _ => ⟨wj_Pr_readQuantifier, ws_Pr_readQuantifier, by decide, T_Pr, 15, rfl⟩), (fun q => by cases q), (fun q => by cases q)⟩
theorem wf_Pr_115 : Cond.fieldLink "ScopeLines$Parser" 115 "ScopeLines$Parser" "low" "J" ∈ zGW := z_in1 (List.mem_of_getElem? (i := 41) rfl) rfl
theorem fd_Pr_115 : zFd "ScopeLines$Parser" 115 5 13 (.long) false := ⟨R_Pr, T_Pr, 15, ck_Pr, by decide, by decide +kernel, rfl, rfl, Or.inl wf_Pr_115⟩
theorem wf_Pr_119 : Cond.fieldLink "ScopeLines$Parser" 119 "ScopeLines$Parser" "high" "J" ∈ zGW := z_in1 (List.mem_of_getElem? (i := 42) rfl) rfl
theorem fd_Pr_119 : zFd "ScopeLines$Parser" 119 5 14 (.long) false := ⟨R_Pr, T_Pr, 15, ck_Pr, by decide, by decide +kernel, rfl, rfl, Or.inl wf_Pr_119⟩
theorem cw_Pt_appendSet_39 : zCw m_Pt_appendSet m_Pt_append 39 0 4 2 := ⟨Or.inl wm_Pt_39, wc_Pt_append, wn_Pt, ⟨by decide, by decide, by decide +kernel⟩, ⟨by decide, by decide⟩, (fun _ => ⟨wj_Pt_append, ws_Pt_append, by decide, T_Pt, 7, rfl⟩), (fun q => by cases q), (fun q => by cases q)⟩
theorem wm_Pr_122 : Cond.methodLink "ScopeLines$Parser" 122 ⟨"ScopeLines$Parser", "readItem", "()V"⟩ ∈ zGW := z_in2 (List.mem_of_getElem? (i := 224) rfl) rfl
theorem wj_Pr_readItem : Cond.instanceMethod ⟨"ScopeLines$Parser", "readItem", "()V"⟩ ∈ zGW := z_in2 (List.mem_of_getElem? (i := 226) rfl) rfl
theorem ws_Pr_readItem : Cond.selects m_Pr_readItem.1.cls m_Pr_readItem.1 m_Pr_readItem.1 ∈ zGW := z_inp (q := (⟨"ScopeLines$Parser", "readItem", "()V"⟩, 15)) (List.mem_of_getElem? (i := 11) rfl)
theorem cw_Pr_readSet_122 : zCw m_Pr_readSet m_Pr_readItem 122 0 5 0 := ⟨Or.inl wm_Pr_122, wc_Pr_readItem, wn_Pr, ⟨by decide, by decide, by decide +kernel⟩, ⟨by decide, by decide⟩, (fun _ => ⟨wj_Pr_readItem, ws_Pr_readItem, by decide, T_Pr, 15, rfl⟩), (fun q => by cases q), (fun q => by cases q)⟩
theorem w_Pr_125 : Cond.constantLong "ScopeLines$Parser" 125 (Int64.ofInt (-1)) ∈ zGW := z_in2 (List.mem_of_getElem? (i := 228) rfl) rfl
theorem wm_Pr_127 : Cond.methodLink "ScopeLines$Parser" 127 ⟨"ScopeLines$Pattern", "appendSet", "(JJ)V"⟩ ∈ zGW := z_in2 (List.mem_of_getElem? (i := 229) rfl) rfl
theorem wj_Pt_appendSet : Cond.instanceMethod ⟨"ScopeLines$Pattern", "appendSet", "(JJ)V"⟩ ∈ zGW := z_in2 (List.mem_of_getElem? (i := 230) rfl) rfl
theorem ws_Pt_appendSet : Cond.selects m_Pt_appendSet.1.cls m_Pt_appendSet.1 m_Pt_appendSet.1 ∈ zGW := z_in2 (List.mem_of_getElem? (i := 231) rfl) rfl
theorem cw_Pr_readSet_127 : zCw m_Pr_readSet m_Pt_appendSet 127 0 4 2 := ⟨Or.inl wm_Pr_127, wc_Pt_appendSet, wn_Pt, ⟨by decide, by decide, by decide +kernel⟩, ⟨by decide, by decide⟩, (fun _ => ⟨wj_Pt_appendSet, ws_Pt_appendSet, by decide, T_Pt, 7, rfl⟩), (fun q => by cases q), (fun q => by cases q)⟩
theorem cw_Pr_readEscape_82 : zCw m_Pr_readEscape m_Pt_append 82 0 4 2 := ⟨Or.inl wm_Pr_82, wc_Pt_append, wn_Pt, ⟨by decide, by decide, by decide +kernel⟩, ⟨by decide, by decide⟩, (fun _ => ⟨wj_Pt_append, ws_Pt_append, by decide, T_Pt, 7, rfl⟩), (fun q => by cases q), (fun q => by cases q)⟩
theorem wf_Pr_48 : Cond.fieldLink "ScopeLines$Parser" 48 "ScopeLines$Parser" "inEnd" "Z" ∈ zGW := z_in1 (List.mem_of_getElem? (i := 31) rfl) rfl
theorem fd_Pr_48 : zFd "ScopeLines$Parser" 48 5 3 (.boolean) false := ⟨R_Pr, T_Pr, 15, ck_Pr, by decide, by decide +kernel, rfl, rfl, Or.inl wf_Pr_48⟩
theorem cw_Pr_readAtom_82 : zCw m_Pr_readAtom m_Pt_append 82 0 4 2 := ⟨Or.inl wm_Pr_82, wc_Pt_append, wn_Pt, ⟨by decide, by decide, by decide +kernel⟩, ⟨by decide, by decide⟩, (fun _ => ⟨wj_Pt_append, ws_Pt_append, by decide, T_Pt, 7, rfl⟩), (fun q => by cases q), (fun q => by cases q)⟩
theorem wm_Pr_109 : Cond.methodLink "ScopeLines$Parser" 109 ⟨"ScopeLines$Parser", "readSet", "(LScopeLines$Pattern;)V"⟩ ∈ zGW := z_in2 (List.mem_of_getElem? (i := 220) rfl) rfl
theorem wj_Pr_readSet : Cond.instanceMethod ⟨"ScopeLines$Parser", "readSet", "(LScopeLines$Pattern;)V"⟩ ∈ zGW := z_in2 (List.mem_of_getElem? (i := 222) rfl) rfl
theorem ws_Pr_readSet : Cond.selects m_Pr_readSet.1.cls m_Pr_readSet.1 m_Pr_readSet.1 ∈ zGW := z_inp (q := (⟨"ScopeLines$Parser", "readSet", "(LScopeLines$Pattern;)V"⟩, 15)) (List.mem_of_getElem? (i := 10) rfl)
theorem cw_Pr_readAtom_109 : zCw m_Pr_readAtom m_Pr_readSet 109 0 5 1 := ⟨Or.inl wm_Pr_109, wc_Pr_readSet, wn_Pr, ⟨by decide, by decide, by decide +kernel⟩, ⟨by decide, by decide⟩, (fun _ => ⟨wj_Pr_readSet, ws_Pr_readSet, by decide, T_Pr, 15, rfl⟩), (fun q => by cases q), (fun q => by cases q)⟩
theorem wm_Pr_112 : Cond.methodLink "ScopeLines$Parser" 112 ⟨"ScopeLines$Parser", "readEscape", "(LScopeLines$Pattern;)Z"⟩ ∈ zGW := z_in2 (List.mem_of_getElem? (i := 233) rfl) rfl
theorem wj_Pr_readEscape : Cond.instanceMethod ⟨"ScopeLines$Parser", "readEscape", "(LScopeLines$Pattern;)Z"⟩ ∈ zGW := z_in2 (List.mem_of_getElem? (i := 235) rfl) rfl
theorem ws_Pr_readEscape : Cond.selects m_Pr_readEscape.1.cls m_Pr_readEscape.1 m_Pr_readEscape.1 ∈ zGW := z_inp (q := (⟨"ScopeLines$Parser", "readEscape", "(LScopeLines$Pattern;)Z"⟩, 15)) (List.mem_of_getElem? (i := 12) rfl)
theorem cw_Pr_readAtom_112 : zCw m_Pr_readAtom m_Pr_readEscape 112 0 5 1 := ⟨Or.inl wm_Pr_112, wc_Pr_readEscape, wn_Pr, ⟨by decide, by decide, by decide +kernel⟩, ⟨by decide, by decide⟩, (fun _ => ⟨wj_Pr_readEscape, ws_Pr_readEscape, by decide, T_Pr, 15, rfl⟩), (fun q => by cases q), (fun q => by cases q)⟩
theorem wm_Pr_86 : Cond.methodLink "ScopeLines$Parser" 86 ⟨"ScopeLines$Parser", "endBranch", "(LScopeLines$Pattern;)V"⟩ ∈ zGW := z_in2 (List.mem_of_getElem? (i := 171) rfl) rfl
theorem wj_Pr_endBranch : Cond.instanceMethod ⟨"ScopeLines$Parser", "endBranch", "(LScopeLines$Pattern;)V"⟩ ∈ zGW := z_in2 (List.mem_of_getElem? (i := 173) rfl) rfl
theorem ws_Pr_endBranch : Cond.selects m_Pr_endBranch.1.cls m_Pr_endBranch.1 m_Pr_endBranch.1 ∈ zGW := z_inp (q := (⟨"ScopeLines$Parser", "endBranch", "(LScopeLines$Pattern;)V"⟩, 15)) (List.mem_of_getElem? (i := 3) rfl)
theorem cw_Pr_readNext_86 : zCw m_Pr_readNext m_Pr_endBranch 86 0 5 1 := ⟨Or.inl wm_Pr_86, wc_Pr_endBranch, wn_Pr, ⟨by decide, by decide, by decide +kernel⟩, ⟨by decide, by decide⟩, (fun _ => ⟨wj_Pr_endBranch, ws_Pr_endBranch, by decide, T_Pr, 15, rfl⟩), (fun q => by cases q), (fun q => by cases q)⟩
theorem wm_Pr_89 : Cond.methodLink "ScopeLines$Parser" 89 ⟨"ScopeLines$Parser", "openGroup", "(LScopeLines$Pattern;)V"⟩ ∈ zGW := z_in2 (List.mem_of_getElem? (i := 187) rfl) rfl
theorem wj_Pr_openGroup : Cond.instanceMethod ⟨"ScopeLines$Parser", "openGroup", "(LScopeLines$Pattern;)V"⟩ ∈ zGW := z_in2 (List.mem_of_getElem? (i := 189) rfl) rfl
theorem ws_Pr_openGroup : Cond.selects m_Pr_openGroup.1.cls m_Pr_openGroup.1 m_Pr_openGroup.1 ∈ zGW := z_inp (q := (⟨"ScopeLines$Parser", "openGroup", "(LScopeLines$Pattern;)V"⟩, 15)) (List.mem_of_getElem? (i := 4) rfl)
theorem cw_Pr_readNext_89 : zCw m_Pr_readNext m_Pr_openGroup 89 0 5 1 := ⟨Or.inl wm_Pr_89, wc_Pr_openGroup, wn_Pr, ⟨by decide, by decide, by decide +kernel⟩, ⟨by decide, by decide⟩, (fun _ => ⟨wj_Pr_openGroup, ws_Pr_openGroup, by decide, T_Pr, 15, rfl⟩), (fun q => by cases q), (fun q => by cases q)⟩
theorem wm_Pr_92 : Cond.methodLink "ScopeLines$Parser" 92 ⟨"ScopeLines$Parser", "closeGroup", "(LScopeLines$Pattern;)V"⟩ ∈ zGW := z_in2 (List.mem_of_getElem? (i := 192) rfl) rfl
theorem wj_Pr_closeGroup : Cond.instanceMethod ⟨"ScopeLines$Parser", "closeGroup", "(LScopeLines$Pattern;)V"⟩ ∈ zGW := z_in2 (List.mem_of_getElem? (i := 194) rfl) rfl
theorem ws_Pr_closeGroup : Cond.selects m_Pr_closeGroup.1.cls m_Pr_closeGroup.1 m_Pr_closeGroup.1 ∈ zGW := z_inp (q := (⟨"ScopeLines$Parser", "closeGroup", "(LScopeLines$Pattern;)V"⟩, 15)) (List.mem_of_getElem? (i := 5) rfl)
theorem cw_Pr_readNext_92 : zCw m_Pr_readNext m_Pr_closeGroup 92 0 5 1 := ⟨Or.inl wm_Pr_92, wc_Pr_closeGroup, wn_Pr, ⟨by decide, by decide, by decide +kernel⟩, ⟨by decide, by decide⟩, (fun _ => ⟨wj_Pr_closeGroup, ws_Pr_closeGroup, by decide, T_Pr, 15, rfl⟩), (fun q => by cases q), (fun q => by cases q)⟩
theorem wm_Pr_96 : Cond.methodLink "ScopeLines$Parser" 96 ⟨"ScopeLines$Parser", "readAtom", "(CLScopeLines$Pattern;)Z"⟩ ∈ zGW := z_in2 (List.mem_of_getElem? (i := 216) rfl) rfl
theorem wj_Pr_readAtom : Cond.instanceMethod ⟨"ScopeLines$Parser", "readAtom", "(CLScopeLines$Pattern;)Z"⟩ ∈ zGW := z_in2 (List.mem_of_getElem? (i := 218) rfl) rfl
theorem ws_Pr_readAtom : Cond.selects m_Pr_readAtom.1.cls m_Pr_readAtom.1 m_Pr_readAtom.1 ∈ zGW := z_inp (q := (⟨"ScopeLines$Parser", "readAtom", "(CLScopeLines$Pattern;)Z"⟩, 15)) (List.mem_of_getElem? (i := 9) rfl)
theorem cw_Pr_readNext_96 : zCw m_Pr_readNext m_Pr_readAtom 96 0 5 2 := ⟨Or.inl wm_Pr_96, wc_Pr_readAtom, wn_Pr, ⟨by decide, by decide, by decide +kernel⟩, ⟨by decide, by decide⟩, (fun _ => ⟨wj_Pr_readAtom, ws_Pr_readAtom, by decide, T_Pr, 15, rfl⟩), (fun q => by cases q), (fun q => by cases q)⟩
theorem cw_Pr_readNext_100 : zCw m_Pr_readNext m_Pr_readQuantifier 100 0 5 3 := ⟨Or.inl wm_Pr_100, wc_Pr_readQuantifier, wn_Pr, ⟨by decide, by decide, by decide +kernel⟩, ⟨by decide, by decide⟩, (fun _ => ⟨wj_Pr_readQuantifier, ws_Pr_readQuantifier, by decide, T_Pr, 15, rfl⟩), (fun q => by cases q), (fun q => by cases q)⟩
theorem w_Pr_39 : Cond.methodLink "ScopeLines$Parser" 39 ⟨"java/lang/System", "arraycopy", "(Ljava/lang/Object;ILjava/lang/Object;II)V"⟩ ∈ zGW := z_in2 (List.mem_of_getElem? (i := 152) rfl) rfl
theorem w_cp1 : Cond.native ⟨"java/lang/System", "arraycopy", "(Ljava/lang/Object;ILjava/lang/Object;II)V"⟩ ∈ zGW := z_in2 (List.mem_of_getElem? (i := 154) rfl) rfl
theorem w_cp2 : Cond.static ⟨"java/lang/System", "arraycopy", "(Ljava/lang/Object;ILjava/lang/Object;II)V"⟩ ∈ zGW := z_in2 (List.mem_of_getElem? (i := 153) rfl) rfl
theorem w_sys : Cond.initialized "java/lang/System" ∈ zGW := z_in1 (List.mem_of_getElem? (i := 12) rfl) rfl
theorem wm_Pr_52 : Cond.methodLink "ScopeLines$Parser" 52 ⟨"ScopeLines$Parser", "hasBlank", "()Z"⟩ ∈ zGW := z_in2 (List.mem_of_getElem? (i := 155) rfl) rfl
theorem wj_Pr_hasBlank : Cond.instanceMethod ⟨"ScopeLines$Parser", "hasBlank", "()Z"⟩ ∈ zGW := z_in2 (List.mem_of_getElem? (i := 157) rfl) rfl
theorem ws_Pr_hasBlank : Cond.selects m_Pr_hasBlank.1.cls m_Pr_hasBlank.1 m_Pr_hasBlank.1 ∈ zGW := z_inp (q := (⟨"ScopeLines$Parser", "hasBlank", "()Z"⟩, 15)) (List.mem_of_getElem? (i := 0) rfl)
theorem cw_Pr_parse_52 : zCw m_Pr_parse m_Pr_hasBlank 52 0 5 0 := ⟨Or.inl wm_Pr_52, wc_Pr_hasBlank, wn_Pr, ⟨by decide, by decide, by decide +kernel⟩, ⟨by decide, by decide⟩, (fun _ => ⟨wj_Pr_hasBlank, ws_Pr_hasBlank, by decide, T_Pr, 15, rfl⟩), (fun q => by cases q), (fun q => by cases q)⟩
theorem wm_Pr_65 : Cond.methodLink "ScopeLines$Parser" 65 ⟨"ScopeLines$Pattern", "clear", "()V"⟩ ∈ zGW := z_in2 (List.mem_of_getElem? (i := 159) rfl) rfl
theorem wj_Pt_clear : Cond.instanceMethod ⟨"ScopeLines$Pattern", "clear", "()V"⟩ ∈ zGW := z_in2 (List.mem_of_getElem? (i := 160) rfl) rfl
theorem ws_Pt_clear : Cond.selects m_Pt_clear.1.cls m_Pt_clear.1 m_Pt_clear.1 ∈ zGW := z_in2 (List.mem_of_getElem? (i := 161) rfl) rfl
theorem cw_Pr_parse_65 : zCw m_Pr_parse m_Pt_clear 65 0 4 0 := ⟨Or.inl wm_Pr_65, wc_Pt_clear, wn_Pt, ⟨by decide, by decide, by decide +kernel⟩, ⟨by decide, by decide⟩, (fun _ => ⟨wj_Pt_clear, ws_Pt_clear, by decide, T_Pt, 7, rfl⟩), (fun q => by cases q), (fun q => by cases q)⟩
theorem cw_Pr_parse_70 : zCw m_Pr_parse m_Pr_openLevel 70 0 5 1 := ⟨Or.inl wm_Pr_70, wc_Pr_openLevel, wn_Pr, ⟨by decide, by decide, by decide +kernel⟩, ⟨by decide, by decide⟩, (fun _ => ⟨wj_Pr_openLevel, ws_Pr_openLevel, by decide, T_Pr, 15, rfl⟩), (fun q => by cases q), (fun q => by cases q)⟩
theorem wm_Pr_74 : Cond.methodLink "ScopeLines$Parser" 74 ⟨"ScopeLines$Parser", "readNext", "(LScopeLines$Pattern;)V"⟩ ∈ zGW := z_in2 (List.mem_of_getElem? (i := 167) rfl) rfl
theorem wj_Pr_readNext : Cond.instanceMethod ⟨"ScopeLines$Parser", "readNext", "(LScopeLines$Pattern;)V"⟩ ∈ zGW := z_in2 (List.mem_of_getElem? (i := 169) rfl) rfl
theorem ws_Pr_readNext : Cond.selects m_Pr_readNext.1.cls m_Pr_readNext.1 m_Pr_readNext.1 ∈ zGW := z_inp (q := (⟨"ScopeLines$Parser", "readNext", "(LScopeLines$Pattern;)V"⟩, 15)) (List.mem_of_getElem? (i := 2) rfl)
theorem cw_Pr_parse_74 : zCw m_Pr_parse m_Pr_readNext 74 0 5 1 := ⟨Or.inl wm_Pr_74, wc_Pr_readNext, wn_Pr, ⟨by decide, by decide, by decide +kernel⟩, ⟨by decide, by decide⟩, (fun _ => ⟨wj_Pr_readNext, ws_Pr_readNext, by decide, T_Pr, 15, rfl⟩), (fun q => by cases q), (fun q => by cases q)⟩
theorem cw_Pr_parse_78 : zCw m_Pr_parse m_Pr_closeLevel 78 0 5 1 := ⟨Or.inl wm_Pr_78, wc_Pr_closeLevel, wn_Pr, ⟨by decide, by decide, by decide +kernel⟩, ⟨by decide, by decide⟩, (fun _ => ⟨wj_Pr_closeLevel, ws_Pr_closeLevel, by decide, T_Pr, 15, rfl⟩), (fun q => by cases q), (fun q => by cases q)⟩
theorem cw_Pr_parse_82 : zCw m_Pr_parse m_Pt_append 82 0 4 2 := ⟨Or.inl wm_Pr_82, wc_Pt_append, wn_Pt, ⟨by decide, by decide, by decide +kernel⟩, ⟨by decide, by decide⟩, (fun _ => ⟨wj_Pt_append, ws_Pt_append, by decide, T_Pt, 7, rfl⟩), (fun q => by cases q), (fun q => by cases q)⟩
theorem wm_Gr_49 : Cond.methodLink "ScopeLines$Grammar" 49 ⟨"ScopeLines$Grammar", "nextRule", "()LScopeLines$Rule;"⟩ ∈ zGW := z_in3 (List.mem_of_getElem? (i := 5) rfl) rfl
theorem wj_Gr_nextRule : Cond.instanceMethod ⟨"ScopeLines$Grammar", "nextRule", "()LScopeLines$Rule;"⟩ ∈ zGW := z_in2 (List.mem_of_getElem? (i := 145) rfl) rfl
theorem ws_Gr_nextRule : Cond.selects m_Gr_nextRule.1.cls m_Gr_nextRule.1 m_Gr_nextRule.1 ∈ zGW := z_in2 (List.mem_of_getElem? (i := 146) rfl) rfl
theorem cw_Gr_keepNextRule_49 : zCw m_Gr_keepNextRule m_Gr_nextRule 49 0 8 0 := ⟨Or.inl wm_Gr_49, wc_Gr_nextRule, wn_Gr, ⟨by decide, by decide, by decide +kernel⟩, ⟨by decide, by decide⟩, (fun _ => ⟨wj_Gr_nextRule, ws_Gr_nextRule, by decide, T_Gr, 10, rfl⟩), (fun q => by cases q), (fun q => by cases q)⟩
theorem wf_Gr_53 : Cond.fieldLink "ScopeLines$Grammar" 53 "ScopeLines$Rule" "home" "I" ∈ zGW := z_in1 (List.mem_of_getElem? (i := 237) rfl) rfl
theorem fd_Gr_53 : zFd "ScopeLines$Grammar" 53 7 3 (.int) false := ⟨R_Ru, T_Ru, 6, ck_Ru, by decide, by decide +kernel, rfl, rfl, Or.inl wf_Gr_53⟩
theorem wf_Gr_56 : Cond.fieldLink "ScopeLines$Grammar" 56 "ScopeLines$Rule" "scope" "I" ∈ zGW := z_in1 (List.mem_of_getElem? (i := 238) rfl) rfl
theorem fd_Gr_56 : zFd "ScopeLines$Grammar" 56 7 4 (.int) false := ⟨R_Ru, T_Ru, 6, ck_Ru, by decide, by decide +kernel, rfl, rfl, Or.inl wf_Gr_56⟩
theorem wm_SL_195 : Cond.methodLink "ScopeLines" 195 ⟨"ScopeLines$Grammar", "keepNextRule", "(IIZ)V"⟩ ∈ zGW := z_in3 (List.mem_of_getElem? (i := 1) rfl) rfl
theorem wj_Gr_keepNextRule : Cond.instanceMethod ⟨"ScopeLines$Grammar", "keepNextRule", "(IIZ)V"⟩ ∈ zGW := z_in3 (List.mem_of_getElem? (i := 2) rfl) rfl
theorem ws_Gr_keepNextRule : Cond.selects m_Gr_keepNextRule.1.cls m_Gr_keepNextRule.1 m_Gr_keepNextRule.1 ∈ zGW := z_in3 (List.mem_of_getElem? (i := 3) rfl) rfl
theorem cw_SL_addRule_195 : zCw m_SL_addRule m_Gr_keepNextRule 195 0 8 3 := ⟨Or.inl wm_SL_195, wc_Gr_keepNextRule, wn_Gr, ⟨by decide, by decide, by decide +kernel⟩, ⟨by decide, by decide⟩, (fun _ => ⟨wj_Gr_keepNextRule, ws_Gr_keepNextRule, by decide, T_Gr, 10, rfl⟩), (fun q => by cases q), (fun q => by cases q)⟩
theorem wf_SL_87 : Cond.fieldLink "ScopeLines" 87 "ScopeLines$Grammar" "ruleCount" "I" ∈ zGW := z_in2 (List.mem_of_getElem? (i := 18) rfl) rfl
theorem fd_SL_87 : zFd "ScopeLines" 87 8 1 (.int) false := ⟨R_Gr, T_Gr, 10, ck_Gr, by decide, by decide +kernel, rfl, rfl, Or.inl wf_SL_87⟩
theorem wf_St_22 : Cond.fieldLink "ScopeLines$State" 22 "ScopeLines$State" "open" "I" ∈ zGW := z_in1 (List.mem_of_getElem? (i := 105) rfl) rfl
theorem fd_St_22 : zFd "ScopeLines$State" 22 1 0 (.int) false := ⟨R_St, T_St, 4, ck_St, by decide, by decide +kernel, rfl, rfl, Or.inl wf_St_22⟩
theorem w_St_31 : Cond.methodLink "ScopeLines$State" 31 ⟨"java/lang/System", "arraycopy", "(Ljava/lang/Object;ILjava/lang/Object;II)V"⟩ ∈ zGW := z_in3 (List.mem_of_getElem? (i := 14) rfl) rfl
theorem wf_Gr_113 : Cond.fieldLink "ScopeLines$Grammar" 113 "ScopeLines$Grammar" "candidateCount" "I" ∈ zGW := z_in2 (List.mem_of_getElem? (i := 23) rfl) rfl
theorem fd_Gr_113 : zFd "ScopeLines$Grammar" 113 8 5 (.int) false := ⟨R_Gr, T_Gr, 10, ck_Gr, by decide, by decide +kernel, rfl, rfl, Or.inl wf_Gr_113⟩
theorem wm_Gr_103 : Cond.methodLink "ScopeLines$Grammar" 103 ⟨"ScopeLines$State", "innermost", "()I"⟩ ∈ zGW := z_in3 (List.mem_of_getElem? (i := 24) rfl) rfl
theorem wj_St_innermost : Cond.instanceMethod ⟨"ScopeLines$State", "innermost", "()I"⟩ ∈ zGW := z_in3 (List.mem_of_getElem? (i := 25) rfl) rfl
theorem ws_St_innermost : Cond.selects m_St_innermost.1.cls m_St_innermost.1 m_St_innermost.1 ∈ zGW := z_in3 (List.mem_of_getElem? (i := 26) rfl) rfl
theorem cw_Gr_listCandidates_103 : zCw m_Gr_listCandidates m_St_innermost 103 0 1 0 := ⟨Or.inl wm_Gr_103, wc_St_innermost, wn_St, ⟨by decide, by decide, by decide +kernel⟩, ⟨by decide, by decide⟩, (fun _ => ⟨wj_St_innermost, ws_St_innermost, by decide, T_St, 4, rfl⟩), (fun q => by cases q), (fun q => by cases q)⟩
theorem wm_Gr_135 : Cond.methodLink "ScopeLines$Grammar" 135 ⟨"ScopeLines$Grammar", "listRulesOf", "(I)V"⟩ ∈ zGW := z_in3 (List.mem_of_getElem? (i := 32) rfl) rfl
theorem wj_Gr_listRulesOf : Cond.instanceMethod ⟨"ScopeLines$Grammar", "listRulesOf", "(I)V"⟩ ∈ zGW := z_in3 (List.mem_of_getElem? (i := 34) rfl) rfl
theorem ws_Gr_listRulesOf : Cond.selects m_Gr_listRulesOf.1.cls m_Gr_listRulesOf.1 m_Gr_listRulesOf.1 ∈ zGW := z_inp (q := (⟨"ScopeLines$Grammar", "listRulesOf", "(I)V"⟩, 10)) (List.mem_of_getElem? (i := 17) rfl)
theorem cw_Gr_listCandidates_135 : zCw m_Gr_listCandidates m_Gr_listRulesOf 135 0 8 1 := ⟨Or.inl wm_Gr_135, wc_Gr_listRulesOf, wn_Gr, ⟨by decide, by decide, by decide +kernel⟩, ⟨by decide, by decide⟩, (fun _ => ⟨wj_Gr_listRulesOf, ws_Gr_listRulesOf, by decide, T_Gr, 10, rfl⟩), (fun q => by cases q), (fun q => by cases q)⟩
theorem wf_Gr_138 : Cond.fieldLink "ScopeLines$Grammar" 138 "ScopeLines$Rule" "included" "I" ∈ zGW := z_in2 (List.mem_of_getElem? (i := 1) rfl) rfl
theorem fd_Gr_138 : zFd "ScopeLines$Grammar" 138 7 5 (.int) false := ⟨R_Ru, T_Ru, 6, ck_Ru, by decide, by decide +kernel, rfl, rfl, Or.inl wf_Gr_138⟩
theorem wf_Se_54 : Cond.fieldLink "ScopeLines$Search" 54 "ScopeLines$Search" "waitingCount" "I" ∈ zGW := z_in1 (List.mem_of_getElem? (i := 165) rfl) rfl
theorem fd_Se_54 : zFd "ScopeLines$Search" 54 6 11 (.int) false := ⟨R_Se, T_Se, 12, ck_Se, by decide, by decide +kernel, rfl, rfl, Or.inl wf_Se_54⟩
theorem wf_Se_33 : Cond.fieldLink "ScopeLines$Search" 33 "ScopeLines$Search" "steps" "I" ∈ zGW := z_in1 (List.mem_of_getElem? (i := 155) rfl) rfl
theorem fd_Se_33 : zFd "ScopeLines$Search" 33 6 4 (.int) false := ⟨R_Se, T_Se, 12, ck_Se, by decide, by decide +kernel, rfl, rfl, Or.inl wf_Se_33⟩
theorem wf_Se_36 : Cond.fieldLink "ScopeLines$Search" 36 "ScopeLines$Search" "isOver" "Z" ∈ zGW := z_in1 (List.mem_of_getElem? (i := 157) rfl) rfl
theorem fd_Se_36 : zFd "ScopeLines$Search" 36 6 5 (.boolean) false := ⟨R_Se, T_Se, 12, ck_Se, by decide, by decide +kernel, rfl, rfl, Or.inl wf_Se_36⟩
theorem wf_Se_103 : Cond.fieldLink "ScopeLines$Search" 103 "ScopeLines$State" "open" "I" ∈ zGW := z_in1 (List.mem_of_getElem? (i := 106) rfl) rfl
theorem fd_Se_103 : zFd "ScopeLines$Search" 103 1 0 (.int) false := ⟨R_St, T_St, 4, ck_St, by decide, by decide +kernel, rfl, rfl, Or.inl wf_Se_103⟩
theorem wm_Se_108 : Cond.methodLink "ScopeLines$Search" 108 ⟨"ScopeLines$State", "textLength", "(II)I"⟩ ∈ zGW := z_in3 (List.mem_of_getElem? (i := 55) rfl) rfl
theorem wj_St_textLength : Cond.instanceMethod ⟨"ScopeLines$State", "textLength", "(II)I"⟩ ∈ zGW := z_in3 (List.mem_of_getElem? (i := 56) rfl) rfl
theorem ws_St_textLength : Cond.selects m_St_textLength.1.cls m_St_textLength.1 m_St_textLength.1 ∈ zGW := z_in3 (List.mem_of_getElem? (i := 57) rfl) rfl
theorem cw_Se_fitsText_108 : zCw m_Se_fitsText m_St_textLength 108 0 1 2 := ⟨Or.inl wm_Se_108, wc_St_textLength, wn_St, ⟨by decide, by decide, by decide +kernel⟩, ⟨by decide, by decide⟩, (fun _ => ⟨wj_St_textLength, ws_St_textLength, by decide, T_St, 4, rfl⟩), (fun q => by cases q), (fun q => by cases q)⟩
theorem wm_Se_84 : Cond.methodLink "ScopeLines$Search" 84 ⟨"ScopeLines$Search", "makeStep", "()Z"⟩ ∈ zGW := z_in3 (List.mem_of_getElem? (i := 59) rfl) rfl
theorem wj_Se_makeStep : Cond.instanceMethod ⟨"ScopeLines$Search", "makeStep", "()Z"⟩ ∈ zGW := z_in3 (List.mem_of_getElem? (i := 61) rfl) rfl
theorem ws_Se_makeStep : Cond.selects m_Se_makeStep.1.cls m_Se_makeStep.1 m_Se_makeStep.1 ∈ zGW := z_inp (q := (⟨"ScopeLines$Search", "makeStep", "()Z"⟩, 12)) (List.mem_of_getElem? (i := 21) rfl)
theorem cw_Se_fitsText_84 : zCw m_Se_fitsText m_Se_makeStep 84 0 6 0 := ⟨Or.inl wm_Se_84, wc_Se_makeStep, wn_Se, ⟨by decide, by decide, by decide +kernel⟩, ⟨by decide, by decide⟩, (fun _ => ⟨wj_Se_makeStep, ws_Se_makeStep, by decide, T_Se, 12, rfl⟩), (fun q => by cases q), (fun q => by cases q)⟩
theorem wf_Se_60 : Cond.fieldLink "ScopeLines$Search" 60 "ScopeLines$Search" "here" "I" ∈ zGW := z_in1 (List.mem_of_getElem? (i := 161) rfl) rfl
theorem fd_Se_60 : zFd "ScopeLines$Search" 60 6 7 (.int) false := ⟨R_Se, T_Se, 12, ck_Se, by decide, by decide +kernel, rfl, rfl, Or.inl wf_Se_60⟩
theorem wf_Se_43 : Cond.fieldLink "ScopeLines$Search" 43 "ScopeLines$Line" "size" "I" ∈ zGW := z_in2 (List.mem_of_getElem? (i := 60) rfl) rfl
theorem fd_Se_43 : zFd "ScopeLines$Search" 43 2 1 (.int) false := ⟨R_Li, T_Li, 8, ck_Li, by decide, by decide +kernel, rfl, rfl, Or.inl wf_Se_43⟩
theorem wf_Se_95 : Cond.fieldLink "ScopeLines$Search" 95 "ScopeLines$Line" "characters" "[C" ∈ zGW := z_in2 (List.mem_of_getElem? (i := 58) rfl) rfl
theorem fd_Se_95 : zFd "ScopeLines$Search" 95 2 0 (.array .char) true := ⟨R_Li, T_Li, 8, ck_Li, by decide, by decide +kernel, rfl, rfl, Or.inl wf_Se_95⟩
theorem wm_Se_112 : Cond.methodLink "ScopeLines$Search" 112 ⟨"ScopeLines$State", "textCharacter", "(III)C"⟩ ∈ zGW := z_in3 (List.mem_of_getElem? (i := 63) rfl) rfl
theorem wj_St_textCharacter : Cond.instanceMethod ⟨"ScopeLines$State", "textCharacter", "(III)C"⟩ ∈ zGW := z_in3 (List.mem_of_getElem? (i := 64) rfl) rfl
theorem ws_St_textCharacter : Cond.selects m_St_textCharacter.1.cls m_St_textCharacter.1 m_St_textCharacter.1 ∈ zGW := z_in3 (List.mem_of_getElem? (i := 65) rfl) rfl
theorem cw_Se_fitsText_112 : zCw m_Se_fitsText m_St_textCharacter 112 0 1 3 := ⟨Or.inl wm_Se_112, wc_St_textCharacter, wn_St, ⟨by decide, by decide, by decide +kernel⟩, ⟨by decide, by decide⟩, (fun _ => ⟨wj_St_textCharacter, ws_St_textCharacter, by decide, T_St, 4, rfl⟩), (fun q => by cases q), (fun q => by cases q)⟩
theorem wf_Se_70 : Cond.fieldLink "ScopeLines$Search" 70 "ScopeLines$Pattern" "ops" "[I" ∈ zGW := z_in1 (List.mem_of_getElem? (i := 203) rfl) rfl
theorem fd_Se_70 : zFd "ScopeLines$Search" 70 4 0 (.array .int) true := ⟨R_Pt, T_Pt, 7, ck_Pt, by decide, by decide +kernel, rfl, rfl, Or.inl wf_Se_70⟩
theorem wf_Se_57 : Cond.fieldLink "ScopeLines$Search" 57 "ScopeLines$Search" "next" "I" ∈ zGW := z_in1 (List.mem_of_getElem? (i := 160) rfl) rfl
theorem fd_Se_57 : zFd "ScopeLines$Search" 57 6 6 (.int) false := ⟨R_Se, T_Se, 12, ck_Se, by decide, by decide +kernel, rfl, rfl, Or.inl wf_Se_57⟩
theorem wm_Se_99 : Cond.methodLink "ScopeLines$Search" 99 ⟨"ScopeLines$Pattern", "isInSet", "(IC)Z"⟩ ∈ zGW := z_in3 (List.mem_of_getElem? (i := 71) rfl) rfl
theorem wj_Pt_isInSet : Cond.instanceMethod ⟨"ScopeLines$Pattern", "isInSet", "(IC)Z"⟩ ∈ zGW := z_in3 (List.mem_of_getElem? (i := 72) rfl) rfl
theorem ws_Pt_isInSet : Cond.selects m_Pt_isInSet.1.cls m_Pt_isInSet.1 m_Pt_isInSet.1 ∈ zGW := z_in3 (List.mem_of_getElem? (i := 73) rfl) rfl
theorem cw_Se_fitsAtom_99 : zCw m_Se_fitsAtom m_Pt_isInSet 99 0 4 2 := ⟨Or.inl wm_Se_99, wc_Pt_isInSet, wn_Pt, ⟨by decide, by decide, by decide +kernel⟩, ⟨by decide, by decide⟩, (fun _ => ⟨wj_Pt_isInSet, ws_Pt_isInSet, by decide, T_Pt, 7, rfl⟩), (fun q => by cases q), (fun q => by cases q)⟩
theorem wf_Se_67 : Cond.fieldLink "ScopeLines$Search" 67 "ScopeLines$Pattern" "firsts" "[I" ∈ zGW := z_in1 (List.mem_of_getElem? (i := 206) rfl) rfl
theorem fd_Se_67 : zFd "ScopeLines$Search" 67 4 1 (.array .int) true := ⟨R_Pt, T_Pt, 7, ck_Pt, by decide, by decide +kernel, rfl, rfl, Or.inl wf_Se_67⟩
theorem wf_Se_40 : Cond.fieldLink "ScopeLines$Search" 40 "ScopeLines$Search" "isMatch" "Z" ∈ zGW := z_in1 (List.mem_of_getElem? (i := 162) rfl) rfl
theorem fd_Se_40 : zFd "ScopeLines$Search" 40 6 8 (.boolean) false := ⟨R_Se, T_Se, 12, ck_Se, by decide, by decide +kernel, rfl, rfl, Or.inl wf_Se_40⟩
theorem wf_Se_73 : Cond.fieldLink "ScopeLines$Search" 73 "ScopeLines$Pattern" "seconds" "[I" ∈ zGW := z_in1 (List.mem_of_getElem? (i := 208) rfl) rfl
theorem fd_Se_73 : zFd "ScopeLines$Search" 73 4 2 (.array .int) true := ⟨R_Pt, T_Pt, 7, ck_Pt, by decide, by decide +kernel, rfl, rfl, Or.inl wf_Se_73⟩
theorem wm_Se_76 : Cond.methodLink "ScopeLines$Search" 76 ⟨"ScopeLines$Search", "leaveWaiting", "(II)V"⟩ ∈ zGW := z_in3 (List.mem_of_getElem? (i := 47) rfl) rfl
theorem wj_Se_leaveWaiting : Cond.instanceMethod ⟨"ScopeLines$Search", "leaveWaiting", "(II)V"⟩ ∈ zGW := z_in3 (List.mem_of_getElem? (i := 49) rfl) rfl
theorem ws_Se_leaveWaiting : Cond.selects m_Se_leaveWaiting.1.cls m_Se_leaveWaiting.1 m_Se_leaveWaiting.1 ∈ zGW := z_inp (q := (⟨"ScopeLines$Search", "leaveWaiting", "(II)V"⟩, 12)) (List.mem_of_getElem? (i := 19) rfl)
theorem cw_Se_doNext_76 : zCw m_Se_doNext m_Se_leaveWaiting 76 0 6 2 := ⟨Or.inl wm_Se_76, wc_Se_leaveWaiting, wn_Se, ⟨by decide, by decide, by decide +kernel⟩, ⟨by decide, by decide⟩, (fun _ => ⟨wj_Se_leaveWaiting, ws_Se_leaveWaiting, by decide, T_Se, 12, rfl⟩), (fun q => by cases q), (fun q => by cases q)⟩
theorem wm_Se_80 : Cond.methodLink "ScopeLines$Search" 80 ⟨"ScopeLines$Search", "fitsText", "(LScopeLines$Line;LScopeLines$State;I)Z"⟩ ∈ zGW := z_in3 (List.mem_of_getElem? (i := 51) rfl) rfl
theorem wj_Se_fitsText : Cond.instanceMethod ⟨"ScopeLines$Search", "fitsText", "(LScopeLines$Line;LScopeLines$State;I)Z"⟩ ∈ zGW := z_in3 (List.mem_of_getElem? (i := 53) rfl) rfl
theorem ws_Se_fitsText : Cond.selects m_Se_fitsText.1.cls m_Se_fitsText.1 m_Se_fitsText.1 ∈ zGW := z_inp (q := (⟨"ScopeLines$Search", "fitsText", "(LScopeLines$Line;LScopeLines$State;I)Z"⟩, 12)) (List.mem_of_getElem? (i := 20) rfl)
theorem cw_Se_doNext_80 : zCw m_Se_doNext m_Se_fitsText 80 0 6 3 := ⟨Or.inl wm_Se_80, wc_Se_fitsText, wn_Se, ⟨by decide, by decide, by decide +kernel⟩, ⟨by decide, by decide⟩, (fun _ => ⟨wj_Se_fitsText, ws_Se_fitsText, by decide, T_Se, 12, rfl⟩), (fun q => by cases q), (fun q => by cases q)⟩
theorem cw_Se_doNext_84 : zCw m_Se_doNext m_Se_makeStep 84 0 6 0 := ⟨Or.inl wm_Se_84, wc_Se_makeStep, wn_Se, ⟨by decide, by decide, by decide +kernel⟩, ⟨by decide, by decide⟩, (fun _ => ⟨wj_Se_makeStep, ws_Se_makeStep, by decide, T_Se, 12, rfl⟩), (fun q => by cases q), (fun q => by cases q)⟩
theorem wm_Se_88 : Cond.methodLink "ScopeLines$Search" 88 ⟨"ScopeLines$Search", "fitsAtom", "(LScopeLines$Pattern;LScopeLines$Line;I)Z"⟩ ∈ zGW := z_in3 (List.mem_of_getElem? (i := 67) rfl) rfl
theorem wj_Se_fitsAtom : Cond.instanceMethod ⟨"ScopeLines$Search", "fitsAtom", "(LScopeLines$Pattern;LScopeLines$Line;I)Z"⟩ ∈ zGW := z_in3 (List.mem_of_getElem? (i := 69) rfl) rfl
theorem ws_Se_fitsAtom : Cond.selects m_Se_fitsAtom.1.cls m_Se_fitsAtom.1 m_Se_fitsAtom.1 ∈ zGW := z_inp (q := (⟨"ScopeLines$Search", "fitsAtom", "(LScopeLines$Pattern;LScopeLines$Line;I)Z"⟩, 12)) (List.mem_of_getElem? (i := 22) rfl)
theorem cw_Se_doNext_88 : zCw m_Se_doNext m_Se_fitsAtom 88 0 6 3 := ⟨Or.inl wm_Se_88, wc_Se_fitsAtom, wn_Se, ⟨by decide, by decide, by decide +kernel⟩, ⟨by decide, by decide⟩, (fun _ => ⟨wj_Se_fitsAtom, ws_Se_fitsAtom, by decide, T_Se, 12, rfl⟩), (fun q => by cases q), (fun q => by cases q)⟩
theorem wm_Se_92 : Cond.methodLink "ScopeLines$Search" 92 ⟨"ScopeLines$Search", "goBack", "()Z"⟩ ∈ zGW := z_in3 (List.mem_of_getElem? (i := 75) rfl) rfl
theorem wj_Se_goBack : Cond.instanceMethod ⟨"ScopeLines$Search", "goBack", "()Z"⟩ ∈ zGW := z_in3 (List.mem_of_getElem? (i := 77) rfl) rfl
theorem ws_Se_goBack : Cond.selects m_Se_goBack.1.cls m_Se_goBack.1 m_Se_goBack.1 ∈ zGW := z_inp (q := (⟨"ScopeLines$Search", "goBack", "()Z"⟩, 12)) (List.mem_of_getElem? (i := 23) rfl)
theorem cw_Se_doNext_92 : zCw m_Se_doNext m_Se_goBack 92 0 6 0 := ⟨Or.inl wm_Se_92, wc_Se_goBack, wn_Se, ⟨by decide, by decide, by decide +kernel⟩, ⟨by decide, by decide⟩, (fun _ => ⟨wj_Se_goBack, ws_Se_goBack, by decide, T_Se, 12, rfl⟩), (fun q => by cases q), (fun q => by cases q)⟩
theorem wf_Se_27 : Cond.fieldLink "ScopeLines$Search" 27 "ScopeLines$Search" "begin" "I" ∈ zGW := z_in1 (List.mem_of_getElem? (i := 149) rfl) rfl
theorem fd_Se_27 : zFd "ScopeLines$Search" 27 6 2 (.int) false := ⟨R_Se, T_Se, 12, ck_Se, by decide, by decide +kernel, rfl, rfl, Or.inl wf_Se_27⟩
theorem wf_Se_30 : Cond.fieldLink "ScopeLines$Search" 30 "ScopeLines$Search" "end" "I" ∈ zGW := z_in1 (List.mem_of_getElem? (i := 152) rfl) rfl
theorem fd_Se_30 : zFd "ScopeLines$Search" 30 6 3 (.int) false := ⟨R_Se, T_Se, 12, ck_Se, by decide, by decide +kernel, rfl, rfl, Or.inl wf_Se_30⟩
theorem wm_Se_48 : Cond.methodLink "ScopeLines$Search" 48 ⟨"java/util/Arrays", "fill", "([II)V"⟩ ∈ zGW := z_in3 (List.mem_of_getElem? (i := 40) rfl) rfl
theorem wn_Ar : Cond.initialized "java/util/Arrays" ∈ zGW := z_in1 (List.mem_of_getElem? (i := 13) rfl) rfl
theorem wt_Ar_fill : Cond.static ⟨"java/util/Arrays", "fill", "([II)V"⟩ ∈ zGW := z_in3 (List.mem_of_getElem? (i := 41) rfl) rfl
theorem cw_Se_run_48 : zCw m_Se_run m_Ar_fill 48 1 0 2 := ⟨Or.inl wm_Se_48, wc_Ar_fill, wn_Ar, ⟨by decide, by decide, by decide +kernel⟩, ⟨by decide, by decide⟩, (fun q => by cases q), (fun _ => wt_Ar_fill), (fun q => by cases q)⟩
theorem wm_Se_63 : Cond.methodLink "ScopeLines$Search" 63 ⟨"ScopeLines$Search", "doNext", "(LScopeLines$Pattern;LScopeLines$Line;LScopeLines$State;)Z"⟩ ∈ zGW := z_in3 (List.mem_of_getElem? (i := 43) rfl) rfl
theorem wj_Se_doNext : Cond.instanceMethod ⟨"ScopeLines$Search", "doNext", "(LScopeLines$Pattern;LScopeLines$Line;LScopeLines$State;)Z"⟩ ∈ zGW := z_in3 (List.mem_of_getElem? (i := 45) rfl) rfl
theorem ws_Se_doNext : Cond.selects m_Se_doNext.1.cls m_Se_doNext.1 m_Se_doNext.1 ∈ zGW := z_inp (q := (⟨"ScopeLines$Search", "doNext", "(LScopeLines$Pattern;LScopeLines$Line;LScopeLines$State;)Z"⟩, 12)) (List.mem_of_getElem? (i := 18) rfl)
theorem cw_Se_run_63 : zCw m_Se_run m_Se_doNext 63 0 6 3 := ⟨Or.inl wm_Se_63, wc_Se_doNext, wn_Se, ⟨by decide, by decide, by decide +kernel⟩, ⟨by decide, by decide⟩, (fun _ => ⟨wj_Se_doNext, ws_Se_doNext, by decide, T_Se, 12, rfl⟩), (fun q => by cases q), (fun q => by cases q)⟩
theorem wf_Gr_110 : Cond.fieldLink "ScopeLines$Grammar" 110 "ScopeLines$Grammar" "winner" "I" ∈ zGW := z_in2 (List.mem_of_getElem? (i := 24) rfl) rfl
theorem fd_Gr_110 : zFd "ScopeLines$Grammar" 110 8 6 (.int) false := ⟨R_Gr, T_Gr, 10, ck_Gr, by decide, by decide +kernel, rfl, rfl, Or.inl wf_Gr_110⟩
theorem wf_Gr_129 : Cond.fieldLink "ScopeLines$Grammar" 129 "ScopeLines$Search" "begin" "I" ∈ zGW := z_in1 (List.mem_of_getElem? (i := 150) rfl) rfl
theorem fd_Gr_129 : zFd "ScopeLines$Grammar" 129 6 2 (.int) false := ⟨R_Se, T_Se, 12, ck_Se, by decide, by decide +kernel, rfl, rfl, Or.inl wf_Gr_129⟩
theorem wf_Gr_90 : Cond.fieldLink "ScopeLines$Grammar" 90 "ScopeLines$Grammar" "winnerBegin" "I" ∈ zGW := z_in2 (List.mem_of_getElem? (i := 25) rfl) rfl
theorem fd_Gr_90 : zFd "ScopeLines$Grammar" 90 8 7 (.int) false := ⟨R_Gr, T_Gr, 10, ck_Gr, by decide, by decide +kernel, rfl, rfl, Or.inl wf_Gr_90⟩
theorem wf_Gr_141 : Cond.fieldLink "ScopeLines$Grammar" 141 "ScopeLines$Search" "end" "I" ∈ zGW := z_in1 (List.mem_of_getElem? (i := 153) rfl) rfl
theorem fd_Gr_141 : zFd "ScopeLines$Grammar" 141 6 3 (.int) false := ⟨R_Se, T_Se, 12, ck_Se, by decide, by decide +kernel, rfl, rfl, Or.inl wf_Gr_141⟩
theorem wf_Gr_97 : Cond.fieldLink "ScopeLines$Grammar" 97 "ScopeLines$Grammar" "winnerEnd" "I" ∈ zGW := z_in2 (List.mem_of_getElem? (i := 26) rfl) rfl
theorem fd_Gr_97 : zFd "ScopeLines$Grammar" 97 8 8 (.int) false := ⟨R_Gr, T_Gr, 10, ck_Gr, by decide, by decide +kernel, rfl, rfl, Or.inl wf_Gr_97⟩
theorem wf_Gr_143 : Cond.fieldLink "ScopeLines$Grammar" 143 "ScopeLines$Search" "groups" "[I" ∈ zGW := z_in1 (List.mem_of_getElem? (i := 147) rfl) rfl
theorem fd_Gr_143 : zFd "ScopeLines$Grammar" 143 6 1 (.array .int) true := ⟨R_Se, T_Se, 12, ck_Se, by decide, by decide +kernel, rfl, rfl, Or.inl wf_Gr_143⟩
theorem w_Gr_146 : Cond.methodLink "ScopeLines$Grammar" 146 ⟨"java/lang/System", "arraycopy", "(Ljava/lang/Object;ILjava/lang/Object;II)V"⟩ ∈ zGW := z_in3 (List.mem_of_getElem? (i := 83) rfl) rfl
theorem cw_Gr_findWinner_103 : zCw m_Gr_findWinner m_St_innermost 103 0 1 0 := ⟨Or.inl wm_Gr_103, wc_St_innermost, wn_St, ⟨by decide, by decide, by decide +kernel⟩, ⟨by decide, by decide⟩, (fun _ => ⟨wj_St_innermost, ws_St_innermost, by decide, T_St, 4, rfl⟩), (fun q => by cases q), (fun q => by cases q)⟩
theorem wm_Gr_107 : Cond.methodLink "ScopeLines$Grammar" 107 ⟨"ScopeLines$Grammar", "listCandidates", "()V"⟩ ∈ zGW := z_in3 (List.mem_of_getElem? (i := 28) rfl) rfl
theorem wj_Gr_listCandidates : Cond.instanceMethod ⟨"ScopeLines$Grammar", "listCandidates", "()V"⟩ ∈ zGW := z_in3 (List.mem_of_getElem? (i := 30) rfl) rfl
theorem ws_Gr_listCandidates : Cond.selects m_Gr_listCandidates.1.cls m_Gr_listCandidates.1 m_Gr_listCandidates.1 ∈ zGW := z_inp (q := (⟨"ScopeLines$Grammar", "listCandidates", "()V"⟩, 10)) (List.mem_of_getElem? (i := 16) rfl)
theorem cw_Gr_findWinner_107 : zCw m_Gr_findWinner m_Gr_listCandidates 107 0 8 0 := ⟨Or.inl wm_Gr_107, wc_Gr_listCandidates, wn_Gr, ⟨by decide, by decide, by decide +kernel⟩, ⟨by decide, by decide⟩, (fun _ => ⟨wj_Gr_listCandidates, ws_Gr_listCandidates, by decide, T_Gr, 10, rfl⟩), (fun q => by cases q), (fun q => by cases q)⟩
theorem wf_Gr_116 : Cond.fieldLink "ScopeLines$Grammar" 116 "ScopeLines$Rule" "end" "LScopeLines$Pattern;" ∈ zGW := z_in1 (List.mem_of_getElem? (i := 235) rfl) rfl
theorem fd_Gr_116 : zFd "ScopeLines$Grammar" 116 7 1 (.object "ScopeLines$Pattern") true := ⟨R_Ru, T_Ru, 6, ck_Ru, by decide, by decide +kernel, rfl, rfl, Or.inl wf_Gr_116⟩
theorem wf_Gr_119 : Cond.fieldLink "ScopeLines$Grammar" 119 "ScopeLines$Rule" "pattern" "LScopeLines$Pattern;" ∈ zGW := z_in1 (List.mem_of_getElem? (i := 232) rfl) rfl
theorem fd_Gr_119 : zFd "ScopeLines$Grammar" 119 7 0 (.object "ScopeLines$Pattern") true := ⟨R_Ru, T_Ru, 6, ck_Ru, by decide, by decide +kernel, rfl, rfl, Or.inl wf_Gr_119⟩
theorem wm_Gr_122 : Cond.methodLink "ScopeLines$Grammar" 122 ⟨"ScopeLines$Search", "run", "(LScopeLines$Pattern;LScopeLines$Line;ILScopeLines$State;)V"⟩ ∈ zGW := z_in3 (List.mem_of_getElem? (i := 36) rfl) rfl
theorem wj_Se_run : Cond.instanceMethod ⟨"ScopeLines$Search", "run", "(LScopeLines$Pattern;LScopeLines$Line;ILScopeLines$State;)V"⟩ ∈ zGW := z_in3 (List.mem_of_getElem? (i := 37) rfl) rfl
theorem ws_Se_run : Cond.selects m_Se_run.1.cls m_Se_run.1 m_Se_run.1 ∈ zGW := z_in3 (List.mem_of_getElem? (i := 38) rfl) rfl
theorem cw_Gr_findWinner_122 : zCw m_Gr_findWinner m_Se_run 122 0 6 4 := ⟨Or.inl wm_Gr_122, wc_Se_run, wn_Se, ⟨by decide, by decide, by decide +kernel⟩, ⟨by decide, by decide⟩, (fun _ => ⟨wj_Se_run, ws_Se_run, by decide, T_Se, 12, rfl⟩), (fun q => by cases q), (fun q => by cases q)⟩
theorem wf_Gr_126 : Cond.fieldLink "ScopeLines$Grammar" 126 "ScopeLines$Search" "isOver" "Z" ∈ zGW := z_in1 (List.mem_of_getElem? (i := 158) rfl) rfl
theorem fd_Gr_126 : zFd "ScopeLines$Grammar" 126 6 5 (.boolean) false := ⟨R_Se, T_Se, 12, ck_Se, by decide, by decide +kernel, rfl, rfl, Or.inl wf_Gr_126⟩
theorem wm_Gr_132 : Cond.methodLink "ScopeLines$Grammar" 132 ⟨"ScopeLines$Grammar", "keepWinner", "(I)V"⟩ ∈ zGW := z_in3 (List.mem_of_getElem? (i := 79) rfl) rfl
theorem wj_Gr_keepWinner : Cond.instanceMethod ⟨"ScopeLines$Grammar", "keepWinner", "(I)V"⟩ ∈ zGW := z_in3 (List.mem_of_getElem? (i := 81) rfl) rfl
theorem ws_Gr_keepWinner : Cond.selects m_Gr_keepWinner.1.cls m_Gr_keepWinner.1 m_Gr_keepWinner.1 ∈ zGW := z_inp (q := (⟨"ScopeLines$Grammar", "keepWinner", "(I)V"⟩, 10)) (List.mem_of_getElem? (i := 24) rfl)
theorem cw_Gr_findWinner_132 : zCw m_Gr_findWinner m_Gr_keepWinner 132 0 8 1 := ⟨Or.inl wm_Gr_132, wc_Gr_keepWinner, wn_Gr, ⟨by decide, by decide, by decide +kernel⟩, ⟨by decide, by decide⟩, (fun _ => ⟨wj_Gr_keepWinner, ws_Gr_keepWinner, by decide, T_Gr, 10, rfl⟩), (fun q => by cases q), (fun q => by cases q)⟩
theorem wf_Li_42 : Cond.fieldLink "ScopeLines$Line" 42 "ScopeLines$Line" "tokenCount" "I" ∈ zGW := z_in2 (List.mem_of_getElem? (i := 69) rfl) rfl
theorem fd_Li_42 : zFd "ScopeLines$Line" 42 2 5 (.int) false := ⟨R_Li, T_Li, 8, ck_Li, by decide, by decide +kernel, rfl, rfl, Or.inl wf_Li_42⟩
theorem wm_Gr_165 : Cond.methodLink "ScopeLines$Grammar" 165 ⟨"ScopeLines$Line", "addToken", "(I)V"⟩ ∈ zGW := z_in3 (List.mem_of_getElem? (i := 92) rfl) rfl
theorem wj_Li_addToken : Cond.instanceMethod ⟨"ScopeLines$Line", "addToken", "(I)V"⟩ ∈ zGW := z_in3 (List.mem_of_getElem? (i := 93) rfl) rfl
theorem ws_Li_addToken : Cond.selects m_Li_addToken.1.cls m_Li_addToken.1 m_Li_addToken.1 ∈ zGW := z_in3 (List.mem_of_getElem? (i := 94) rfl) rfl
theorem cw_Gr_cut_165 : zCw m_Gr_cut m_Li_addToken 165 0 2 1 := ⟨Or.inl wm_Gr_165, wc_Li_addToken, wn_Li, ⟨by decide, by decide, by decide +kernel⟩, ⟨by decide, by decide⟩, (fun _ => ⟨wj_Li_addToken, ws_Li_addToken, by decide, T_Li, 8, rfl⟩), (fun q => by cases q), (fun q => by cases q)⟩
theorem wf_Gr_152 : Cond.fieldLink "ScopeLines$Grammar" 152 "ScopeLines$State" "open" "I" ∈ zGW := z_in1 (List.mem_of_getElem? (i := 107) rfl) rfl
theorem fd_Gr_152 : zFd "ScopeLines$Grammar" 152 1 0 (.int) false := ⟨R_St, T_St, 4, ck_St, by decide, by decide +kernel, rfl, rfl, Or.inl wf_Gr_152⟩
theorem wf_Gr_168 : Cond.fieldLink "ScopeLines$Grammar" 168 "ScopeLines$State" "ranges" "[I" ∈ zGW := z_in1 (List.mem_of_getElem? (i := 110) rfl) rfl
theorem fd_Gr_168 : zFd "ScopeLines$Grammar" 168 1 1 (.array .int) true := ⟨R_St, T_St, 4, ck_St, by decide, by decide +kernel, rfl, rfl, Or.inl wf_Gr_168⟩
theorem wm_Gr_162 : Cond.methodLink "ScopeLines$Grammar" 162 ⟨"ScopeLines$Line", "addScope", "(I)V"⟩ ∈ zGW := z_in3 (List.mem_of_getElem? (i := 96) rfl) rfl
theorem wj_Li_addScope : Cond.instanceMethod ⟨"ScopeLines$Line", "addScope", "(I)V"⟩ ∈ zGW := z_in3 (List.mem_of_getElem? (i := 97) rfl) rfl
theorem ws_Li_addScope : Cond.selects m_Li_addScope.1.cls m_Li_addScope.1 m_Li_addScope.1 ∈ zGW := z_in3 (List.mem_of_getElem? (i := 98) rfl) rfl
theorem cw_Gr_cut_162 : zCw m_Gr_cut m_Li_addScope 162 0 2 1 := ⟨Or.inl wm_Gr_162, wc_Li_addScope, wn_Li, ⟨by decide, by decide, by decide +kernel⟩, ⟨by decide, by decide⟩, (fun _ => ⟨wj_Li_addScope, ws_Li_addScope, by decide, T_Li, 8, rfl⟩), (fun q => by cases q), (fun q => by cases q)⟩
theorem wm_Gr_59 : Cond.methodLink "ScopeLines$Grammar" 59 ⟨"ScopeLines$State", "copy", "(LScopeLines$State;)V"⟩ ∈ zGW := z_in3 (List.mem_of_getElem? (i := 19) rfl) rfl
theorem wj_St_copy : Cond.instanceMethod ⟨"ScopeLines$State", "copy", "(LScopeLines$State;)V"⟩ ∈ zGW := z_in3 (List.mem_of_getElem? (i := 11) rfl) rfl
theorem ws_St_copy : Cond.selects m_St_copy.1.cls m_St_copy.1 m_St_copy.1 ∈ zGW := z_in3 (List.mem_of_getElem? (i := 12) rfl) rfl
theorem cw_Gr_mark_59 : zCw m_Gr_mark m_St_copy 59 0 1 1 := ⟨Or.inl wm_Gr_59, wc_St_copy, wn_St, ⟨by decide, by decide, by decide +kernel⟩, ⟨by decide, by decide⟩, (fun _ => ⟨wj_St_copy, ws_St_copy, by decide, T_St, 4, rfl⟩), (fun q => by cases q), (fun q => by cases q)⟩
theorem wf_Gr_63 : Cond.fieldLink "ScopeLines$Grammar" 63 "ScopeLines$Line" "tokenCount" "I" ∈ zGW := z_in2 (List.mem_of_getElem? (i := 70) rfl) rfl
theorem fd_Gr_63 : zFd "ScopeLines$Grammar" 63 2 5 (.int) false := ⟨R_Li, T_Li, 8, ck_Li, by decide, by decide +kernel, rfl, rfl, Or.inl wf_Gr_63⟩
theorem wf_Gr_68 : Cond.fieldLink "ScopeLines$Grammar" 68 "ScopeLines$Line" "isMarked" "Z" ∈ zGW := z_in2 (List.mem_of_getElem? (i := 72) rfl) rfl
theorem fd_Gr_68 : zFd "ScopeLines$Grammar" 68 2 6 (.boolean) false := ⟨R_Li, T_Li, 8, ck_Li, by decide, by decide +kernel, rfl, rfl, Or.inl wf_Gr_68⟩
theorem wf_Gr_83 : Cond.fieldLink "ScopeLines$Grammar" 83 "ScopeLines$Line" "size" "I" ∈ zGW := z_in2 (List.mem_of_getElem? (i := 61) rfl) rfl
theorem fd_Gr_83 : zFd "ScopeLines$Grammar" 83 2 1 (.int) false := ⟨R_Li, T_Li, 8, ck_Li, by decide, by decide +kernel, rfl, rfl, Or.inl wf_Gr_83⟩
theorem wm_Gr_86 : Cond.methodLink "ScopeLines$Grammar" 86 ⟨"ScopeLines$Grammar", "cut", "(LScopeLines$Line;II)Z"⟩ ∈ zGW := z_in3 (List.mem_of_getElem? (i := 88) rfl) rfl
theorem wj_Gr_cut : Cond.instanceMethod ⟨"ScopeLines$Grammar", "cut", "(LScopeLines$Line;II)Z"⟩ ∈ zGW := z_in3 (List.mem_of_getElem? (i := 90) rfl) rfl
theorem ws_Gr_cut : Cond.selects m_Gr_cut.1.cls m_Gr_cut.1 m_Gr_cut.1 ∈ zGW := z_inp (q := (⟨"ScopeLines$Grammar", "cut", "(LScopeLines$Line;II)Z"⟩, 10)) (List.mem_of_getElem? (i := 26) rfl)
theorem cw_Gr_mark_86 : zCw m_Gr_mark m_Gr_cut 86 0 8 3 := ⟨Or.inl wm_Gr_86, wc_Gr_cut, wn_Gr, ⟨by decide, by decide, by decide +kernel⟩, ⟨by decide, by decide⟩, (fun _ => ⟨wj_Gr_cut, ws_Gr_cut, by decide, T_Gr, 10, rfl⟩), (fun q => by cases q), (fun q => by cases q)⟩
theorem wf_St_26 : Cond.fieldLink "ScopeLines$State" 26 "ScopeLines$Line" "characters" "[C" ∈ zGW := z_in2 (List.mem_of_getElem? (i := 57) rfl) rfl
theorem fd_St_26 : zFd "ScopeLines$State" 26 2 0 (.array .char) true := ⟨R_Li, T_Li, 8, ck_Li, by decide, by decide +kernel, rfl, rfl, Or.inl wf_St_26⟩
theorem cw_Gr_takeWinner_86 : zCw m_Gr_takeWinner m_Gr_cut 86 0 8 3 := ⟨Or.inl wm_Gr_86, wc_Gr_cut, wn_Gr, ⟨by decide, by decide, by decide +kernel⟩, ⟨by decide, by decide⟩, (fun _ => ⟨wj_Gr_cut, ws_Gr_cut, by decide, T_Gr, 10, rfl⟩), (fun q => by cases q), (fun q => by cases q)⟩
theorem wm_Gr_155 : Cond.methodLink "ScopeLines$Grammar" 155 ⟨"ScopeLines$State", "push", "(I)V"⟩ ∈ zGW := z_in3 (List.mem_of_getElem? (i := 108) rfl) rfl
theorem wj_St_push : Cond.instanceMethod ⟨"ScopeLines$State", "push", "(I)V"⟩ ∈ zGW := z_in3 (List.mem_of_getElem? (i := 109) rfl) rfl
theorem ws_St_push : Cond.selects m_St_push.1.cls m_St_push.1 m_St_push.1 ∈ zGW := z_in3 (List.mem_of_getElem? (i := 110) rfl) rfl
theorem cw_Gr_takeWinner_155 : zCw m_Gr_takeWinner m_St_push 155 0 1 1 := ⟨Or.inl wm_Gr_155, wc_St_push, wn_St, ⟨by decide, by decide, by decide +kernel⟩, ⟨by decide, by decide⟩, (fun _ => ⟨wj_St_push, ws_St_push, by decide, T_St, 4, rfl⟩), (fun q => by cases q), (fun q => by cases q)⟩
theorem wm_Gr_158 : Cond.methodLink "ScopeLines$Grammar" 158 ⟨"ScopeLines$State", "keepText", "(ILScopeLines$Line;II)V"⟩ ∈ zGW := z_in3 (List.mem_of_getElem? (i := 112) rfl) rfl
theorem wj_St_keepText : Cond.instanceMethod ⟨"ScopeLines$State", "keepText", "(ILScopeLines$Line;II)V"⟩ ∈ zGW := z_in3 (List.mem_of_getElem? (i := 113) rfl) rfl
theorem ws_St_keepText : Cond.selects m_St_keepText.1.cls m_St_keepText.1 m_St_keepText.1 ∈ zGW := z_in3 (List.mem_of_getElem? (i := 114) rfl) rfl
theorem cw_Gr_takeWinner_158 : zCw m_Gr_takeWinner m_St_keepText 158 0 1 4 := ⟨Or.inl wm_Gr_158, wc_St_keepText, wn_St, ⟨by decide, by decide, by decide +kernel⟩, ⟨by decide, by decide⟩, (fun _ => ⟨wj_St_keepText, ws_St_keepText, by decide, T_St, 4, rfl⟩), (fun q => by cases q), (fun q => by cases q)⟩
theorem cw_Gr_takeWinner_162 : zCw m_Gr_takeWinner m_Li_addScope 162 0 2 1 := ⟨Or.inl wm_Gr_162, wc_Li_addScope, wn_Li, ⟨by decide, by decide, by decide +kernel⟩, ⟨by decide, by decide⟩, (fun _ => ⟨wj_Li_addScope, ws_Li_addScope, by decide, T_Li, 8, rfl⟩), (fun q => by cases q), (fun q => by cases q)⟩
theorem cw_Gr_tokenize_59 : zCw m_Gr_tokenize m_St_copy 59 0 1 1 := ⟨Or.inl wm_Gr_59, wc_St_copy, wn_St, ⟨by decide, by decide, by decide +kernel⟩, ⟨by decide, by decide⟩, (fun _ => ⟨wj_St_copy, ws_St_copy, by decide, T_St, 4, rfl⟩), (fun q => by cases q), (fun q => by cases q)⟩
theorem wm_Gr_71 : Cond.methodLink "ScopeLines$Grammar" 71 ⟨"ScopeLines$Grammar", "findWinner", "(LScopeLines$Line;I)Z"⟩ ∈ zGW := z_in3 (List.mem_of_getElem? (i := 20) rfl) rfl
theorem wj_Gr_findWinner : Cond.instanceMethod ⟨"ScopeLines$Grammar", "findWinner", "(LScopeLines$Line;I)Z"⟩ ∈ zGW := z_in3 (List.mem_of_getElem? (i := 22) rfl) rfl
theorem ws_Gr_findWinner : Cond.selects m_Gr_findWinner.1.cls m_Gr_findWinner.1 m_Gr_findWinner.1 ∈ zGW := z_inp (q := (⟨"ScopeLines$Grammar", "findWinner", "(LScopeLines$Line;I)Z"⟩, 10)) (List.mem_of_getElem? (i := 15) rfl)
theorem cw_Gr_tokenize_71 : zCw m_Gr_tokenize m_Gr_findWinner 71 0 8 2 := ⟨Or.inl wm_Gr_71, wc_Gr_findWinner, wn_Gr, ⟨by decide, by decide, by decide +kernel⟩, ⟨by decide, by decide⟩, (fun _ => ⟨wj_Gr_findWinner, ws_Gr_findWinner, by decide, T_Gr, 10, rfl⟩), (fun q => by cases q), (fun q => by cases q)⟩
theorem wm_Gr_75 : Cond.methodLink "ScopeLines$Grammar" 75 ⟨"ScopeLines$Grammar", "mark", "(LScopeLines$Line;LScopeLines$State;)V"⟩ ∈ zGW := z_in3 (List.mem_of_getElem? (i := 84) rfl) rfl
theorem wj_Gr_mark : Cond.instanceMethod ⟨"ScopeLines$Grammar", "mark", "(LScopeLines$Line;LScopeLines$State;)V"⟩ ∈ zGW := z_in3 (List.mem_of_getElem? (i := 86) rfl) rfl
theorem ws_Gr_mark : Cond.selects m_Gr_mark.1.cls m_Gr_mark.1 m_Gr_mark.1 ∈ zGW := z_inp (q := (⟨"ScopeLines$Grammar", "mark", "(LScopeLines$Line;LScopeLines$State;)V"⟩, 10)) (List.mem_of_getElem? (i := 25) rfl)
theorem cw_Gr_tokenize_75 : zCw m_Gr_tokenize m_Gr_mark 75 0 8 2 := ⟨Or.inl wm_Gr_75, wc_Gr_mark, wn_Gr, ⟨by decide, by decide, by decide +kernel⟩, ⟨by decide, by decide⟩, (fun _ => ⟨wj_Gr_mark, ws_Gr_mark, by decide, T_Gr, 10, rfl⟩), (fun q => by cases q), (fun q => by cases q)⟩
theorem wm_Gr_79 : Cond.methodLink "ScopeLines$Grammar" 79 ⟨"ScopeLines$Grammar", "isLast", "(I)Z"⟩ ∈ zGW := z_in3 (List.mem_of_getElem? (i := 100) rfl) rfl
theorem wj_Gr_isLast : Cond.instanceMethod ⟨"ScopeLines$Grammar", "isLast", "(I)Z"⟩ ∈ zGW := z_in3 (List.mem_of_getElem? (i := 102) rfl) rfl
theorem ws_Gr_isLast : Cond.selects m_Gr_isLast.1.cls m_Gr_isLast.1 m_Gr_isLast.1 ∈ zGW := z_inp (q := (⟨"ScopeLines$Grammar", "isLast", "(I)Z"⟩, 10)) (List.mem_of_getElem? (i := 27) rfl)
theorem cw_Gr_tokenize_79 : zCw m_Gr_tokenize m_Gr_isLast 79 0 8 1 := ⟨Or.inl wm_Gr_79, wc_Gr_isLast, wn_Gr, ⟨by decide, by decide, by decide +kernel⟩, ⟨by decide, by decide⟩, (fun _ => ⟨wj_Gr_isLast, ws_Gr_isLast, by decide, T_Gr, 10, rfl⟩), (fun q => by cases q), (fun q => by cases q)⟩
theorem cw_Gr_tokenize_86 : zCw m_Gr_tokenize m_Gr_cut 86 0 8 3 := ⟨Or.inl wm_Gr_86, wc_Gr_cut, wn_Gr, ⟨by decide, by decide, by decide +kernel⟩, ⟨by decide, by decide⟩, (fun _ => ⟨wj_Gr_cut, ws_Gr_cut, by decide, T_Gr, 10, rfl⟩), (fun q => by cases q), (fun q => by cases q)⟩
theorem wm_Gr_93 : Cond.methodLink "ScopeLines$Grammar" 93 ⟨"ScopeLines$Grammar", "takeWinner", "(LScopeLines$Line;)V"⟩ ∈ zGW := z_in3 (List.mem_of_getElem? (i := 104) rfl) rfl
theorem wj_Gr_takeWinner : Cond.instanceMethod ⟨"ScopeLines$Grammar", "takeWinner", "(LScopeLines$Line;)V"⟩ ∈ zGW := z_in3 (List.mem_of_getElem? (i := 106) rfl) rfl
theorem ws_Gr_takeWinner : Cond.selects m_Gr_takeWinner.1.cls m_Gr_takeWinner.1 m_Gr_takeWinner.1 ∈ zGW := z_inp (q := (⟨"ScopeLines$Grammar", "takeWinner", "(LScopeLines$Line;)V"⟩, 10)) (List.mem_of_getElem? (i := 28) rfl)
theorem cw_Gr_tokenize_93 : zCw m_Gr_tokenize m_Gr_takeWinner 93 0 8 1 := ⟨Or.inl wm_Gr_93, wc_Gr_takeWinner, wn_Gr, ⟨by decide, by decide, by decide +kernel⟩, ⟨by decide, by decide⟩, (fun _ => ⟨wj_Gr_takeWinner, ws_Gr_takeWinner, by decide, T_Gr, 10, rfl⟩), (fun q => by cases q), (fun q => by cases q)⟩
theorem wf_Gr_100 : Cond.fieldLink "ScopeLines$Grammar" 100 "ScopeLines$Line" "end" "LScopeLines$State;" ∈ zGW := z_in2 (List.mem_of_getElem? (i := 75) rfl) rfl
theorem fd_Gr_100 : zFd "ScopeLines$Grammar" 100 2 7 (.object "ScopeLines$State") true := ⟨R_Li, T_Li, 8, ck_Li, by decide, by decide +kernel, rfl, rfl, Or.inl wf_Gr_100⟩
theorem wm_St_37 : Cond.methodLink "ScopeLines$State" 37 ⟨"ScopeLines$State", "isSameText", "(LScopeLines$State;I)Z"⟩ ∈ zGW := z_in3 (List.mem_of_getElem? (i := 120) rfl) rfl
theorem wj_St_isSameText : Cond.instanceMethod ⟨"ScopeLines$State", "isSameText", "(LScopeLines$State;I)Z"⟩ ∈ zGW := z_in3 (List.mem_of_getElem? (i := 122) rfl) rfl
theorem ws_St_isSameText : Cond.selects m_St_isSameText.1.cls m_St_isSameText.1 m_St_isSameText.1 ∈ zGW := z_inp (q := (⟨"ScopeLines$State", "isSameText", "(LScopeLines$State;I)Z"⟩, 4)) (List.mem_of_getElem? (i := 29) rfl)
theorem cw_St_isSame_37 : zCw m_St_isSame m_St_isSameText 37 0 1 2 := ⟨Or.inl wm_St_37, wc_St_isSameText, wn_St, ⟨by decide, by decide, by decide +kernel⟩, ⟨by decide, by decide⟩, (fun _ => ⟨wj_St_isSameText, ws_St_isSameText, by decide, T_St, 4, rfl⟩), (fun q => by cases q), (fun q => by cases q)⟩
theorem wf_SL_119 : Cond.fieldLink "ScopeLines" 119 "ScopeLines" "lineCount" "I" ∈ zGW := z_in2 (List.mem_of_getElem? (i := 99) rfl) rfl
theorem fd_SL_119 : zFd "ScopeLines" 119 0 5 (.int) false := ⟨R_SL, T_SL, 10, ck_SL, by decide, by decide +kernel, rfl, rfl, Or.inl wf_SL_119⟩
theorem wf_SL_157 : Cond.fieldLink "ScopeLines" 157 "ScopeLines$Line" "end" "LScopeLines$State;" ∈ zGW := z_in2 (List.mem_of_getElem? (i := 76) rfl) rfl
theorem fd_SL_157 : zFd "ScopeLines" 157 2 7 (.object "ScopeLines$State") true := ⟨R_Li, T_Li, 8, ck_Li, by decide, by decide +kernel, rfl, rfl, Or.inl wf_SL_157⟩
theorem wm_SL_199 : Cond.methodLink "ScopeLines" 199 ⟨"ScopeLines$State", "copy", "(LScopeLines$State;)V"⟩ ∈ zGW := z_in3 (List.mem_of_getElem? (i := 10) rfl) rfl
theorem cw_SL_tokenizeFrom_199 : zCw m_SL_tokenizeFrom m_St_copy 199 0 1 1 := ⟨Or.inl wm_SL_199, wc_St_copy, wn_St, ⟨by decide, by decide, by decide +kernel⟩, ⟨by decide, by decide⟩, (fun _ => ⟨wj_St_copy, ws_St_copy, by decide, T_St, 4, rfl⟩), (fun q => by cases q), (fun q => by cases q)⟩
theorem wm_SL_203 : Cond.methodLink "ScopeLines" 203 ⟨"ScopeLines$Grammar", "tokenize", "(LScopeLines$Line;LScopeLines$State;)V"⟩ ∈ zGW := z_in3 (List.mem_of_getElem? (i := 15) rfl) rfl
theorem wj_Gr_tokenize : Cond.instanceMethod ⟨"ScopeLines$Grammar", "tokenize", "(LScopeLines$Line;LScopeLines$State;)V"⟩ ∈ zGW := z_in3 (List.mem_of_getElem? (i := 16) rfl) rfl
theorem ws_Gr_tokenize : Cond.selects m_Gr_tokenize.1.cls m_Gr_tokenize.1 m_Gr_tokenize.1 ∈ zGW := z_in3 (List.mem_of_getElem? (i := 17) rfl) rfl
theorem cw_SL_tokenizeFrom_203 : zCw m_SL_tokenizeFrom m_Gr_tokenize 203 0 8 2 := ⟨Or.inl wm_SL_203, wc_Gr_tokenize, wn_Gr, ⟨by decide, by decide, by decide +kernel⟩, ⟨by decide, by decide⟩, (fun _ => ⟨wj_Gr_tokenize, ws_Gr_tokenize, by decide, T_Gr, 10, rfl⟩), (fun q => by cases q), (fun q => by cases q)⟩
theorem wm_SL_207 : Cond.methodLink "ScopeLines" 207 ⟨"ScopeLines$State", "isSame", "(LScopeLines$State;)Z"⟩ ∈ zGW := z_in3 (List.mem_of_getElem? (i := 116) rfl) rfl
theorem wj_St_isSame : Cond.instanceMethod ⟨"ScopeLines$State", "isSame", "(LScopeLines$State;)Z"⟩ ∈ zGW := z_in3 (List.mem_of_getElem? (i := 117) rfl) rfl
theorem ws_St_isSame : Cond.selects m_St_isSame.1.cls m_St_isSame.1 m_St_isSame.1 ∈ zGW := z_in3 (List.mem_of_getElem? (i := 118) rfl) rfl
theorem cw_SL_tokenizeFrom_207 : zCw m_SL_tokenizeFrom m_St_isSame 207 0 1 1 := ⟨Or.inl wm_SL_207, wc_St_isSame, wn_St, ⟨by decide, by decide, by decide +kernel⟩, ⟨by decide, by decide⟩, (fun _ => ⟨wj_St_isSame, ws_St_isSame, by decide, T_St, 4, rfl⟩), (fun q => by cases q), (fun q => by cases q)⟩
theorem wf_SL_129 : Cond.fieldLink "ScopeLines" 129 "ScopeLines" "passCount" "I" ∈ zGW := z_in2 (List.mem_of_getElem? (i := 100) rfl) rfl
theorem fd_SL_129 : zFd "ScopeLines" 129 0 6 (.int) false := ⟨R_SL, T_SL, 10, ck_SL, by decide, by decide +kernel, rfl, rfl, Or.inl wf_SL_129⟩
theorem wm_SL_66 : Cond.methodLink "ScopeLines" 66 ⟨"ScopeLines$Grammar", "isRange", "(I)Z"⟩ ∈ zGW := z_in2 (List.mem_of_getElem? (i := 137) rfl) rfl
theorem wj_Gr_isRange : Cond.instanceMethod ⟨"ScopeLines$Grammar", "isRange", "(I)Z"⟩ ∈ zGW := z_in2 (List.mem_of_getElem? (i := 138) rfl) rfl
theorem ws_Gr_isRange : Cond.selects m_Gr_isRange.1.cls m_Gr_isRange.1 m_Gr_isRange.1 ∈ zGW := z_in2 (List.mem_of_getElem? (i := 139) rfl) rfl
theorem cw_SL_piece_66 : zCw m_SL_piece m_Gr_isRange 66 0 8 1 := ⟨Or.inl wm_SL_66, wc_Gr_isRange, wn_Gr, ⟨by decide, by decide, by decide +kernel⟩, ⟨by decide, by decide⟩, (fun _ => ⟨wj_Gr_isRange, ws_Gr_isRange, by decide, T_Gr, 10, rfl⟩), (fun q => by cases q), (fun q => by cases q)⟩
theorem wm_SL_70 : Cond.methodLink "ScopeLines" 70 ⟨"ScopeLines", "isScope", "(I)Z"⟩ ∈ zGW := z_in2 (List.mem_of_getElem? (i := 141) rfl) rfl
theorem wn_SL : Cond.initialized "ScopeLines" ∈ zGW := z_in1 (List.mem_of_getElem? (i := 1) rfl) rfl
theorem wt_SL_isScope : Cond.static ⟨"ScopeLines", "isScope", "(I)Z"⟩ ∈ zGW := z_in2 (List.mem_of_getElem? (i := 142) rfl) rfl
theorem cw_SL_piece_70 : zCw m_SL_piece m_SL_isScope 70 1 0 1 := ⟨Or.inl wm_SL_70, wc_SL_isScope, wn_SL, ⟨by decide, by decide, by decide +kernel⟩, ⟨by decide, by decide⟩, (fun q => by cases q), (fun _ => wt_SL_isScope), (fun q => by cases q)⟩
theorem wm_SL_73 : Cond.methodLink "ScopeLines" 73 ⟨"ScopeLines$Grammar", "nextRule", "()LScopeLines$Rule;"⟩ ∈ zGW := z_in2 (List.mem_of_getElem? (i := 144) rfl) rfl
theorem cw_SL_piece_73 : zCw m_SL_piece m_Gr_nextRule 73 0 8 0 := ⟨Or.inl wm_SL_73, wc_Gr_nextRule, wn_Gr, ⟨by decide, by decide, by decide +kernel⟩, ⟨by decide, by decide⟩, (fun _ => ⟨wj_Gr_nextRule, ws_Gr_nextRule, by decide, T_Gr, 10, rfl⟩), (fun q => by cases q), (fun q => by cases q)⟩
theorem wf_SL_77 : Cond.fieldLink "ScopeLines" 77 "ScopeLines$Rule" "pattern" "LScopeLines$Pattern;" ∈ zGW := z_in1 (List.mem_of_getElem? (i := 231) rfl) rfl
theorem fd_SL_77 : zFd "ScopeLines" 77 7 0 (.object "ScopeLines$Pattern") true := ⟨R_Ru, T_Ru, 6, ck_Ru, by decide, by decide +kernel, rfl, rfl, Or.inl wf_SL_77⟩
theorem wm_SL_83 : Cond.methodLink "ScopeLines" 83 ⟨"ScopeLines$Parser", "parse", "([CIIZLScopeLines$Pattern;)Z"⟩ ∈ zGW := z_in2 (List.mem_of_getElem? (i := 148) rfl) rfl
theorem wj_Pr_parse : Cond.instanceMethod ⟨"ScopeLines$Parser", "parse", "([CIIZLScopeLines$Pattern;)Z"⟩ ∈ zGW := z_in2 (List.mem_of_getElem? (i := 149) rfl) rfl
theorem ws_Pr_parse : Cond.selects m_Pr_parse.1.cls m_Pr_parse.1 m_Pr_parse.1 ∈ zGW := z_in2 (List.mem_of_getElem? (i := 150) rfl) rfl
theorem cw_SL_piece_83 : zCw m_SL_piece m_Pr_parse 83 0 5 5 := ⟨Or.inl wm_SL_83, wc_Pr_parse, wn_Pr, ⟨by decide, by decide, by decide +kernel⟩, ⟨by decide, by decide⟩, (fun _ => ⟨wj_Pr_parse, ws_Pr_parse, by decide, T_Pr, 15, rfl⟩), (fun q => by cases q), (fun q => by cases q)⟩
theorem wm_SL_90 : Cond.methodLink "ScopeLines" 90 ⟨"ScopeLines", "addRule", "(IIZ)I"⟩ ∈ zGW := z_in2 (List.mem_of_getElem? (i := 237) rfl) rfl
theorem wj_SL_addRule : Cond.instanceMethod ⟨"ScopeLines", "addRule", "(IIZ)I"⟩ ∈ zGW := z_in2 (List.mem_of_getElem? (i := 239) rfl) rfl
theorem ws_SL_addRule : Cond.selects m_SL_addRule.1.cls m_SL_addRule.1 m_SL_addRule.1 ∈ zGW := z_inp (q := (⟨"ScopeLines", "addRule", "(IIZ)I"⟩, 10)) (List.mem_of_getElem? (i := 13) rfl)
theorem cw_SL_piece_90 : zCw m_SL_piece m_SL_addRule 90 0 0 3 := ⟨Or.inl wm_SL_90, wc_SL_addRule, wn_SL, ⟨by decide, by decide, by decide +kernel⟩, ⟨by decide, by decide⟩, (fun _ => ⟨wj_SL_addRule, ws_SL_addRule, by decide, T_SL, 10, rfl⟩), (fun q => by cases q), (fun q => by cases q)⟩
theorem wm_SL_94 : Cond.methodLink "ScopeLines" 94 ⟨"ScopeLines", "tokenizeFrom", "(IZ)I"⟩ ∈ zGW := z_in3 (List.mem_of_getElem? (i := 6) rfl) rfl
theorem wj_SL_tokenizeFrom : Cond.instanceMethod ⟨"ScopeLines", "tokenizeFrom", "(IZ)I"⟩ ∈ zGW := z_in3 (List.mem_of_getElem? (i := 8) rfl) rfl
theorem ws_SL_tokenizeFrom : Cond.selects m_SL_tokenizeFrom.1.cls m_SL_tokenizeFrom.1 m_SL_tokenizeFrom.1 ∈ zGW := z_inp (q := (⟨"ScopeLines", "tokenizeFrom", "(IZ)I"⟩, 10)) (List.mem_of_getElem? (i := 14) rfl)
theorem cw_SL_piece_94 : zCw m_SL_piece m_SL_tokenizeFrom 94 0 0 2 := ⟨Or.inl wm_SL_94, wc_SL_tokenizeFrom, wn_SL, ⟨by decide, by decide, by decide +kernel⟩, ⟨by decide, by decide⟩, (fun _ => ⟨wj_SL_tokenizeFrom, ws_SL_tokenizeFrom, by decide, T_SL, 10, rfl⟩), (fun q => by cases q), (fun q => by cases q)⟩
theorem cw_SL_range_66 : zCw m_SL_range m_Gr_isRange 66 0 8 1 := ⟨Or.inl wm_SL_66, wc_Gr_isRange, wn_Gr, ⟨by decide, by decide, by decide +kernel⟩, ⟨by decide, by decide⟩, (fun _ => ⟨wj_Gr_isRange, ws_Gr_isRange, by decide, T_Gr, 10, rfl⟩), (fun q => by cases q), (fun q => by cases q)⟩
theorem cw_SL_range_70 : zCw m_SL_range m_SL_isScope 70 1 0 1 := ⟨Or.inl wm_SL_70, wc_SL_isScope, wn_SL, ⟨by decide, by decide, by decide +kernel⟩, ⟨by decide, by decide⟩, (fun q => by cases q), (fun _ => wt_SL_isScope), (fun q => by cases q)⟩
theorem cw_SL_range_73 : zCw m_SL_range m_Gr_nextRule 73 0 8 0 := ⟨Or.inl wm_SL_73, wc_Gr_nextRule, wn_Gr, ⟨by decide, by decide, by decide +kernel⟩, ⟨by decide, by decide⟩, (fun _ => ⟨wj_Gr_nextRule, ws_Gr_nextRule, by decide, T_Gr, 10, rfl⟩), (fun q => by cases q), (fun q => by cases q)⟩
theorem wm_SL_98 : Cond.methodLink "ScopeLines" 98 ⟨"ScopeLines", "firstBlank", "()I"⟩ ∈ zGW := z_in3 (List.mem_of_getElem? (i := 128) rfl) rfl
theorem wj_SL_firstBlank : Cond.instanceMethod ⟨"ScopeLines", "firstBlank", "()I"⟩ ∈ zGW := z_in3 (List.mem_of_getElem? (i := 130) rfl) rfl
theorem ws_SL_firstBlank : Cond.selects m_SL_firstBlank.1.cls m_SL_firstBlank.1 m_SL_firstBlank.1 ∈ zGW := z_inp (q := (⟨"ScopeLines", "firstBlank", "()I"⟩, 10)) (List.mem_of_getElem? (i := 30) rfl)
theorem cw_SL_range_98 : zCw m_SL_range m_SL_firstBlank 98 0 0 0 := ⟨Or.inl wm_SL_98, wc_SL_firstBlank, wn_SL, ⟨by decide, by decide, by decide +kernel⟩, ⟨by decide, by decide⟩, (fun _ => ⟨wj_SL_firstBlank, ws_SL_firstBlank, by decide, T_SL, 10, rfl⟩), (fun q => by cases q), (fun q => by cases q)⟩
theorem cw_SL_range_83 : zCw m_SL_range m_Pr_parse 83 0 5 5 := ⟨Or.inl wm_SL_83, wc_Pr_parse, wn_Pr, ⟨by decide, by decide, by decide +kernel⟩, ⟨by decide, by decide⟩, (fun _ => ⟨wj_Pr_parse, ws_Pr_parse, by decide, T_Pr, 15, rfl⟩), (fun q => by cases q), (fun q => by cases q)⟩
theorem wf_SL_102 : Cond.fieldLink "ScopeLines" 102 "ScopeLines$Rule" "end" "LScopeLines$Pattern;" ∈ zGW := z_in1 (List.mem_of_getElem? (i := 234) rfl) rfl
theorem fd_SL_102 : zFd "ScopeLines" 102 7 1 (.object "ScopeLines$Pattern") true := ⟨R_Ru, T_Ru, 6, ck_Ru, by decide, by decide +kernel, rfl, rfl, Or.inl wf_SL_102⟩
theorem cw_SL_range_90 : zCw m_SL_range m_SL_addRule 90 0 0 3 := ⟨Or.inl wm_SL_90, wc_SL_addRule, wn_SL, ⟨by decide, by decide, by decide +kernel⟩, ⟨by decide, by decide⟩, (fun _ => ⟨wj_SL_addRule, ws_SL_addRule, by decide, T_SL, 10, rfl⟩), (fun q => by cases q), (fun q => by cases q)⟩
theorem cw_SL_range_94 : zCw m_SL_range m_SL_tokenizeFrom 94 0 0 2 := ⟨Or.inl wm_SL_94, wc_SL_tokenizeFrom, wn_SL, ⟨by decide, by decide, by decide +kernel⟩, ⟨by decide, by decide⟩, (fun _ => ⟨wj_SL_tokenizeFrom, ws_SL_tokenizeFrom, by decide, T_SL, 10, rfl⟩), (fun q => by cases q), (fun q => by cases q)⟩
theorem cw_SL_include_66 : zCw m_SL_include m_Gr_isRange 66 0 8 1 := ⟨Or.inl wm_SL_66, wc_Gr_isRange, wn_Gr, ⟨by decide, by decide, by decide +kernel⟩, ⟨by decide, by decide⟩, (fun _ => ⟨wj_Gr_isRange, ws_Gr_isRange, by decide, T_Gr, 10, rfl⟩), (fun q => by cases q), (fun q => by cases q)⟩
theorem wf_SL_105 : Cond.fieldLink "ScopeLines" 105 "ScopeLines$Grammar" "rules" "[LScopeLines$Rule;" ∈ zGW := z_in2 (List.mem_of_getElem? (i := 16) rfl) rfl
theorem fd_SL_105 : zFd "ScopeLines" 105 8 0 (.array (.object "ScopeLines$Rule")) true := ⟨R_Gr, T_Gr, 10, ck_Gr, by decide, by decide +kernel, rfl, rfl, Or.inl wf_SL_105⟩
theorem wf_SL_109 : Cond.fieldLink "ScopeLines" 109 "ScopeLines$Rule" "included" "I" ∈ zGW := z_in2 (List.mem_of_getElem? (i := 0) rfl) rfl
theorem fd_SL_109 : zFd "ScopeLines" 109 7 5 (.int) false := ⟨R_Ru, T_Ru, 6, ck_Ru, by decide, by decide +kernel, rfl, rfl, Or.inl wf_SL_109⟩
theorem cw_SL_include_94 : zCw m_SL_include m_SL_tokenizeFrom 94 0 0 2 := ⟨Or.inl wm_SL_94, wc_SL_tokenizeFrom, wn_SL, ⟨by decide, by decide, by decide +kernel⟩, ⟨by decide, by decide⟩, (fun _ => ⟨wj_SL_tokenizeFrom, ws_SL_tokenizeFrom, by decide, T_SL, 10, rfl⟩), (fun q => by cases q), (fun q => by cases q)⟩
theorem wf_Pa_21 : Cond.fieldLink "ScopeLines$Palette" 21 "ScopeLines$Palette" "count" "I" ∈ zGW := z_in1 (List.mem_of_getElem? (i := 88) rfl) rfl
theorem fd_Pa_21 : zFd "ScopeLines$Palette" 21 3 3 (.int) false := ⟨R_Pa, T_Pa, 4, ck_Pa, by decide, by decide +kernel, rfl, rfl, Or.inl wf_Pa_21⟩
theorem cw_SL_theme_70 : zCw m_SL_theme m_SL_isScope 70 1 0 1 := ⟨Or.inl wm_SL_70, wc_SL_isScope, wn_SL, ⟨by decide, by decide, by decide +kernel⟩, ⟨by decide, by decide⟩, (fun q => by cases q), (fun _ => wt_SL_isScope), (fun q => by cases q)⟩
theorem wf_SL_112 : Cond.fieldLink "ScopeLines" 112 "ScopeLines$Palette" "count" "I" ∈ zGW := z_in1 (List.mem_of_getElem? (i := 89) rfl) rfl
theorem fd_SL_112 : zFd "ScopeLines" 112 3 3 (.int) false := ⟨R_Pa, T_Pa, 4, ck_Pa, by decide, by decide +kernel, rfl, rfl, Or.inl wf_SL_112⟩
theorem wm_SL_115 : Cond.methodLink "ScopeLines" 115 ⟨"ScopeLines$Palette", "add", "(III)V"⟩ ∈ zGW := z_in3 (List.mem_of_getElem? (i := 140) rfl) rfl
theorem wj_Pa_add : Cond.instanceMethod ⟨"ScopeLines$Palette", "add", "(III)V"⟩ ∈ zGW := z_in3 (List.mem_of_getElem? (i := 141) rfl) rfl
theorem ws_Pa_add : Cond.selects m_Pa_add.1.cls m_Pa_add.1 m_Pa_add.1 ∈ zGW := z_in3 (List.mem_of_getElem? (i := 142) rfl) rfl
theorem cw_SL_theme_115 : zCw m_SL_theme m_Pa_add 115 0 3 3 := ⟨Or.inl wm_SL_115, wc_Pa_add, wn_Pa, ⟨by decide, by decide, by decide +kernel⟩, ⟨by decide, by decide⟩, (fun _ => ⟨wj_Pa_add, ws_Pa_add, by decide, T_Pa, 4, rfl⟩), (fun q => by cases q), (fun q => by cases q)⟩
theorem w_Li_32 : Cond.methodLink "ScopeLines$Line" 32 ⟨"java/lang/System", "arraycopy", "(Ljava/lang/Object;ILjava/lang/Object;II)V"⟩ ∈ zGW := z_in3 (List.mem_of_getElem? (i := 152) rfl) rfl
theorem wf_Li_38 : Cond.fieldLink "ScopeLines$Line" 38 "ScopeLines$Line" "size" "I" ∈ zGW := z_in2 (List.mem_of_getElem? (i := 59) rfl) rfl
theorem fd_Li_38 : zFd "ScopeLines$Line" 38 2 1 (.int) false := ⟨R_Li, T_Li, 8, ck_Li, by decide, by decide +kernel, rfl, rfl, Or.inl wf_Li_38⟩
theorem wm_SL_122 : Cond.methodLink "ScopeLines" 122 ⟨"ScopeLines$Line", "write", "([CI)V"⟩ ∈ zGW := z_in3 (List.mem_of_getElem? (i := 148) rfl) rfl
theorem wj_Li_write : Cond.instanceMethod ⟨"ScopeLines$Line", "write", "([CI)V"⟩ ∈ zGW := z_in3 (List.mem_of_getElem? (i := 149) rfl) rfl
theorem ws_Li_write : Cond.selects m_Li_write.1.cls m_Li_write.1 m_Li_write.1 ∈ zGW := z_in3 (List.mem_of_getElem? (i := 150) rfl) rfl
theorem cw_SL_put_122 : zCw m_SL_put m_Li_write 122 0 2 2 := ⟨Or.inl wm_SL_122, wc_Li_write, wn_Li, ⟨by decide, by decide, by decide +kernel⟩, ⟨by decide, by decide⟩, (fun _ => ⟨wj_Li_write, ws_Li_write, by decide, T_Li, 8, rfl⟩), (fun q => by cases q), (fun q => by cases q)⟩
theorem cw_SL_put_94 : zCw m_SL_put m_SL_tokenizeFrom 94 0 0 2 := ⟨Or.inl wm_SL_94, wc_SL_tokenizeFrom, wn_SL, ⟨by decide, by decide, by decide +kernel⟩, ⟨by decide, by decide⟩, (fun _ => ⟨wj_SL_tokenizeFrom, ws_SL_tokenizeFrom, by decide, T_SL, 10, rfl⟩), (fun q => by cases q), (fun q => by cases q)⟩
theorem wm_SL_126 : Cond.methodLink "ScopeLines" 126 ⟨"ScopeLines", "isLine", "(I)Z"⟩ ∈ zGW := z_in3 (List.mem_of_getElem? (i := 157) rfl) rfl
theorem wj_SL_isLine : Cond.instanceMethod ⟨"ScopeLines", "isLine", "(I)Z"⟩ ∈ zGW := z_in3 (List.mem_of_getElem? (i := 159) rfl) rfl
theorem ws_SL_isLine : Cond.selects m_SL_isLine.1.cls m_SL_isLine.1 m_SL_isLine.1 ∈ zGW := z_inp (q := (⟨"ScopeLines", "isLine", "(I)Z"⟩, 10)) (List.mem_of_getElem? (i := 31) rfl)
theorem cw_SL_drop_126 : zCw m_SL_drop m_SL_isLine 126 0 0 1 := ⟨Or.inl wm_SL_126, wc_SL_isLine, wn_SL, ⟨by decide, by decide, by decide +kernel⟩, ⟨by decide, by decide⟩, (fun _ => ⟨wj_SL_isLine, ws_SL_isLine, by decide, T_SL, 10, rfl⟩), (fun q => by cases q), (fun q => by cases q)⟩
theorem cw_SL_drop_94 : zCw m_SL_drop m_SL_tokenizeFrom 94 0 0 2 := ⟨Or.inl wm_SL_94, wc_SL_tokenizeFrom, wn_SL, ⟨by decide, by decide, by decide +kernel⟩, ⟨by decide, by decide⟩, (fun _ => ⟨wj_SL_tokenizeFrom, ws_SL_tokenizeFrom, by decide, T_SL, 10, rfl⟩), (fun q => by cases q), (fun q => by cases q)⟩
theorem cw_SL_length_126 : zCw m_SL_length m_SL_isLine 126 0 0 1 := ⟨Or.inl wm_SL_126, wc_SL_isLine, wn_SL, ⟨by decide, by decide, by decide +kernel⟩, ⟨by decide, by decide⟩, (fun _ => ⟨wj_SL_isLine, ws_SL_isLine, by decide, T_SL, 10, rfl⟩), (fun q => by cases q), (fun q => by cases q)⟩
theorem wf_SL_132 : Cond.fieldLink "ScopeLines" 132 "ScopeLines$Line" "size" "I" ∈ zGW := z_in2 (List.mem_of_getElem? (i := 62) rfl) rfl
theorem fd_SL_132 : zFd "ScopeLines" 132 2 1 (.int) false := ⟨R_Li, T_Li, 8, ck_Li, by decide, by decide +kernel, rfl, rfl, Or.inl wf_SL_132⟩
theorem cw_SL_tokens_126 : zCw m_SL_tokens m_SL_isLine 126 0 0 1 := ⟨Or.inl wm_SL_126, wc_SL_isLine, wn_SL, ⟨by decide, by decide, by decide +kernel⟩, ⟨by decide, by decide⟩, (fun _ => ⟨wj_SL_isLine, ws_SL_isLine, by decide, T_SL, 10, rfl⟩), (fun q => by cases q), (fun q => by cases q)⟩
theorem wf_SL_135 : Cond.fieldLink "ScopeLines" 135 "ScopeLines$Line" "tokenCount" "I" ∈ zGW := z_in2 (List.mem_of_getElem? (i := 71) rfl) rfl
theorem fd_SL_135 : zFd "ScopeLines" 135 2 5 (.int) false := ⟨R_Li, T_Li, 8, ck_Li, by decide, by decide +kernel, rfl, rfl, Or.inl wf_SL_135⟩
theorem wm_Li_45 : Cond.methodLink "ScopeLines$Line" 45 ⟨"ScopeLines$Line", "scopeOf", "(II)I"⟩ ∈ zGW := z_in3 (List.mem_of_getElem? (i := 185) rfl) rfl
theorem wj_Li_scopeOf : Cond.instanceMethod ⟨"ScopeLines$Line", "scopeOf", "(II)I"⟩ ∈ zGW := z_in3 (List.mem_of_getElem? (i := 186) rfl) rfl
theorem ws_Li_scopeOf : Cond.selects m_Li_scopeOf.1.cls m_Li_scopeOf.1 m_Li_scopeOf.1 ∈ zGW := z_in3 (List.mem_of_getElem? (i := 187) rfl) rfl
theorem cw_Li_lastScope_45 : zCw m_Li_lastScope m_Li_scopeOf 45 0 2 2 := ⟨Or.inl wm_Li_45, wc_Li_scopeOf, wn_Li, ⟨by decide, by decide, by decide +kernel⟩, ⟨by decide, by decide⟩, (fun _ => ⟨wj_Li_scopeOf, ws_Li_scopeOf, by decide, T_Li, 8, rfl⟩), (fun q => by cases q), (fun q => by cases q)⟩
theorem wm_Pa_34 : Cond.methodLink "ScopeLines$Palette" 34 ⟨"ScopeLines$Line", "scopeOf", "(II)I"⟩ ∈ zGW := z_in3 (List.mem_of_getElem? (i := 197) rfl) rfl
theorem cw_Pa_isUnder_34 : zCw m_Pa_isUnder m_Li_scopeOf 34 0 2 2 := ⟨Or.inl wm_Pa_34, wc_Li_scopeOf, wn_Li, ⟨by decide, by decide, by decide +kernel⟩, ⟨by decide, by decide⟩, (fun _ => ⟨wj_Li_scopeOf, ws_Li_scopeOf, by decide, T_Li, 8, rfl⟩), (fun q => by cases q), (fun q => by cases q)⟩
theorem cw_Pa_entryFor_34 : zCw m_Pa_entryFor m_Li_scopeOf 34 0 2 2 := ⟨Or.inl wm_Pa_34, wc_Li_scopeOf, wn_Li, ⟨by decide, by decide, by decide +kernel⟩, ⟨by decide, by decide⟩, (fun _ => ⟨wj_Li_scopeOf, ws_Li_scopeOf, by decide, T_Li, 8, rfl⟩), (fun q => by cases q), (fun q => by cases q)⟩
theorem wm_Pa_38 : Cond.methodLink "ScopeLines$Palette" 38 ⟨"ScopeLines$Palette", "isUnder", "(LScopeLines$Line;III)Z"⟩ ∈ zGW := z_in3 (List.mem_of_getElem? (i := 198) rfl) rfl
theorem wt_Pa_isUnder : Cond.static ⟨"ScopeLines$Palette", "isUnder", "(LScopeLines$Line;III)Z"⟩ ∈ zGW := z_in3 (List.mem_of_getElem? (i := 199) rfl) rfl
theorem cw_Pa_entryFor_38 : zCw m_Pa_entryFor m_Pa_isUnder 38 1 0 4 := ⟨Or.inl wm_Pa_38, wc_Pa_isUnder, wn_Pa, ⟨by decide, by decide, by decide +kernel⟩, ⟨by decide, by decide⟩, (fun q => by cases q), (fun _ => wt_Pa_isUnder), (fun q => by cases q)⟩
theorem wf_Pa_25 : Cond.fieldLink "ScopeLines$Palette" 25 "ScopeLines$Line" "scopeCounts" "[I" ∈ zGW := z_in2 (List.mem_of_getElem? (i := 66) rfl) rfl
theorem fd_Pa_25 : zFd "ScopeLines$Palette" 25 2 3 (.array .int) true := ⟨R_Li, T_Li, 8, ck_Li, by decide, by decide +kernel, rfl, rfl, Or.inl wf_Pa_25⟩
theorem wm_Pa_30 : Cond.methodLink "ScopeLines$Palette" 30 ⟨"ScopeLines$Palette", "entryFor", "(LScopeLines$Line;II)I"⟩ ∈ zGW := z_in3 (List.mem_of_getElem? (i := 193) rfl) rfl
theorem wj_Pa_entryFor : Cond.instanceMethod ⟨"ScopeLines$Palette", "entryFor", "(LScopeLines$Line;II)I"⟩ ∈ zGW := z_in3 (List.mem_of_getElem? (i := 195) rfl) rfl
theorem ws_Pa_entryFor : Cond.selects m_Pa_entryFor.1.cls m_Pa_entryFor.1 m_Pa_entryFor.1 ∈ zGW := z_inp (q := (⟨"ScopeLines$Palette", "entryFor", "(LScopeLines$Line;II)I"⟩, 4)) (List.mem_of_getElem? (i := 32) rfl)
theorem cw_Pa_colourOf_30 : zCw m_Pa_colourOf m_Pa_entryFor 30 0 3 3 := ⟨Or.inl wm_Pa_30, wc_Pa_entryFor, wn_Pa, ⟨by decide, by decide, by decide +kernel⟩, ⟨by decide, by decide⟩, (fun _ => ⟨wj_Pa_entryFor, ws_Pa_entryFor, by decide, T_Pa, 4, rfl⟩), (fun q => by cases q), (fun q => by cases q)⟩
theorem cw_SL_token_126 : zCw m_SL_token m_SL_isLine 126 0 0 1 := ⟨Or.inl wm_SL_126, wc_SL_isLine, wn_SL, ⟨by decide, by decide, by decide +kernel⟩, ⟨by decide, by decide⟩, (fun _ => ⟨wj_SL_isLine, ws_SL_isLine, by decide, T_SL, 10, rfl⟩), (fun q => by cases q), (fun q => by cases q)⟩
theorem wf_SL_138 : Cond.fieldLink "ScopeLines" 138 "ScopeLines$Line" "begins" "[I" ∈ zGW := z_in2 (List.mem_of_getElem? (i := 64) rfl) rfl
theorem fd_SL_138 : zFd "ScopeLines" 138 2 2 (.array .int) true := ⟨R_Li, T_Li, 8, ck_Li, by decide, by decide +kernel, rfl, rfl, Or.inl wf_SL_138⟩
theorem wf_SL_142 : Cond.fieldLink "ScopeLines" 142 "ScopeLines$Line" "scopeCounts" "[I" ∈ zGW := z_in2 (List.mem_of_getElem? (i := 67) rfl) rfl
theorem fd_SL_142 : zFd "ScopeLines" 142 2 3 (.array .int) true := ⟨R_Li, T_Li, 8, ck_Li, by decide, by decide +kernel, rfl, rfl, Or.inl wf_SL_142⟩
theorem wm_SL_145 : Cond.methodLink "ScopeLines" 145 ⟨"ScopeLines$Line", "lastScope", "(I)I"⟩ ∈ zGW := z_in3 (List.mem_of_getElem? (i := 181) rfl) rfl
theorem wj_Li_lastScope : Cond.instanceMethod ⟨"ScopeLines$Line", "lastScope", "(I)I"⟩ ∈ zGW := z_in3 (List.mem_of_getElem? (i := 182) rfl) rfl
theorem ws_Li_lastScope : Cond.selects m_Li_lastScope.1.cls m_Li_lastScope.1 m_Li_lastScope.1 ∈ zGW := z_in3 (List.mem_of_getElem? (i := 183) rfl) rfl
theorem cw_SL_token_145 : zCw m_SL_token m_Li_lastScope 145 0 2 1 := ⟨Or.inl wm_SL_145, wc_Li_lastScope, wn_Li, ⟨by decide, by decide, by decide +kernel⟩, ⟨by decide, by decide⟩, (fun _ => ⟨wj_Li_lastScope, ws_Li_lastScope, by decide, T_Li, 8, rfl⟩), (fun q => by cases q), (fun q => by cases q)⟩
theorem wm_SL_149 : Cond.methodLink "ScopeLines" 149 ⟨"ScopeLines$Palette", "colourOf", "(LScopeLines$Line;I)I"⟩ ∈ zGW := z_in3 (List.mem_of_getElem? (i := 189) rfl) rfl
theorem wj_Pa_colourOf : Cond.instanceMethod ⟨"ScopeLines$Palette", "colourOf", "(LScopeLines$Line;I)I"⟩ ∈ zGW := z_in3 (List.mem_of_getElem? (i := 190) rfl) rfl
theorem ws_Pa_colourOf : Cond.selects m_Pa_colourOf.1.cls m_Pa_colourOf.1 m_Pa_colourOf.1 ∈ zGW := z_in3 (List.mem_of_getElem? (i := 191) rfl) rfl
theorem cw_SL_token_149 : zCw m_SL_token m_Pa_colourOf 149 0 3 2 := ⟨Or.inl wm_SL_149, wc_Pa_colourOf, wn_Pa, ⟨by decide, by decide, by decide +kernel⟩, ⟨by decide, by decide⟩, (fun _ => ⟨wj_Pa_colourOf, ws_Pa_colourOf, by decide, T_Pa, 4, rfl⟩), (fun q => by cases q), (fun q => by cases q)⟩
theorem cw_SL_marked_126 : zCw m_SL_marked m_SL_isLine 126 0 0 1 := ⟨Or.inl wm_SL_126, wc_SL_isLine, wn_SL, ⟨by decide, by decide, by decide +kernel⟩, ⟨by decide, by decide⟩, (fun _ => ⟨wj_SL_isLine, ws_SL_isLine, by decide, T_SL, 10, rfl⟩), (fun q => by cases q), (fun q => by cases q)⟩
theorem wf_SL_153 : Cond.fieldLink "ScopeLines" 153 "ScopeLines$Line" "isMarked" "Z" ∈ zGW := z_in2 (List.mem_of_getElem? (i := 73) rfl) rfl
theorem fd_SL_153 : zFd "ScopeLines" 153 2 6 (.boolean) false := ⟨R_Li, T_Li, 8, ck_Li, by decide, by decide +kernel, rfl, rfl, Or.inl wf_SL_153⟩
theorem cw_SL_state_126 : zCw m_SL_state m_SL_isLine 126 0 0 1 := ⟨Or.inl wm_SL_126, wc_SL_isLine, wn_SL, ⟨by decide, by decide, by decide +kernel⟩, ⟨by decide, by decide⟩, (fun _ => ⟨wj_SL_isLine, ws_SL_isLine, by decide, T_SL, 10, rfl⟩), (fun q => by cases q), (fun q => by cases q)⟩
theorem wf_SL_159 : Cond.fieldLink "ScopeLines" 159 "ScopeLines$State" "open" "I" ∈ zGW := z_in1 (List.mem_of_getElem? (i := 108) rfl) rfl
theorem fd_SL_159 : zFd "ScopeLines" 159 1 0 (.int) false := ⟨R_St, T_St, 4, ck_St, by decide, by decide +kernel, rfl, rfl, Or.inl wf_SL_159⟩
theorem wm_SL_162 : Cond.methodLink "ScopeLines" 162 ⟨"ScopeLines$State", "isOpen", "(I)Z"⟩ ∈ zGW := z_in3 (List.mem_of_getElem? (i := 209) rfl) rfl
theorem wj_St_isOpen : Cond.instanceMethod ⟨"ScopeLines$State", "isOpen", "(I)Z"⟩ ∈ zGW := z_in3 (List.mem_of_getElem? (i := 210) rfl) rfl
theorem ws_St_isOpen : Cond.selects m_St_isOpen.1.cls m_St_isOpen.1 m_St_isOpen.1 ∈ zGW := z_in3 (List.mem_of_getElem? (i := 211) rfl) rfl
theorem cw_SL_state_162 : zCw m_SL_state m_St_isOpen 162 0 1 1 := ⟨Or.inl wm_SL_162, wc_St_isOpen, wn_St, ⟨by decide, by decide, by decide +kernel⟩, ⟨by decide, by decide⟩, (fun _ => ⟨wj_St_isOpen, ws_St_isOpen, by decide, T_St, 4, rfl⟩), (fun q => by cases q), (fun q => by cases q)⟩
theorem wf_SL_165 : Cond.fieldLink "ScopeLines" 165 "ScopeLines$State" "ranges" "[I" ∈ zGW := z_in1 (List.mem_of_getElem? (i := 111) rfl) rfl
theorem fd_SL_165 : zFd "ScopeLines" 165 1 1 (.array .int) true := ⟨R_St, T_St, 4, ck_St, by decide, by decide +kernel, rfl, rfl, Or.inl wf_SL_165⟩
theorem cw_SL_text_126 : zCw m_SL_text m_SL_isLine 126 0 0 1 := ⟨Or.inl wm_SL_126, wc_SL_isLine, wn_SL, ⟨by decide, by decide, by decide +kernel⟩, ⟨by decide, by decide⟩, (fun _ => ⟨wj_SL_isLine, ws_SL_isLine, by decide, T_SL, 10, rfl⟩), (fun q => by cases q), (fun q => by cases q)⟩
theorem cw_SL_text_162 : zCw m_SL_text m_St_isOpen 162 0 1 1 := ⟨Or.inl wm_SL_162, wc_St_isOpen, wn_St, ⟨by decide, by decide, by decide +kernel⟩, ⟨by decide, by decide⟩, (fun _ => ⟨wj_St_isOpen, ws_St_isOpen, by decide, T_St, 4, rfl⟩), (fun q => by cases q), (fun q => by cases q)⟩
theorem wm_SL_168 : Cond.methodLink "ScopeLines" 168 ⟨"ScopeLines$State", "textLength", "(II)I"⟩ ∈ zGW := z_in3 (List.mem_of_getElem? (i := 217) rfl) rfl
theorem cw_SL_text_168 : zCw m_SL_text m_St_textLength 168 0 1 2 := ⟨Or.inl wm_SL_168, wc_St_textLength, wn_St, ⟨by decide, by decide, by decide +kernel⟩, ⟨by decide, by decide⟩, (fun _ => ⟨wj_St_textLength, ws_St_textLength, by decide, T_St, 4, rfl⟩), (fun q => by cases q), (fun q => by cases q)⟩
theorem cw_SL_find_126 : zCw m_SL_find m_SL_isLine 126 0 0 1 := ⟨Or.inl wm_SL_126, wc_SL_isLine, wn_SL, ⟨by decide, by decide, by decide +kernel⟩, ⟨by decide, by decide⟩, (fun _ => ⟨wj_SL_isLine, ws_SL_isLine, by decide, T_SL, 10, rfl⟩), (fun q => by cases q), (fun q => by cases q)⟩
theorem wf_SL_171 : Cond.fieldLink "ScopeLines" 171 "ScopeLines$Grammar" "search" "LScopeLines$Search;" ∈ zGW := z_in2 (List.mem_of_getElem? (i := 20) rfl) rfl
theorem fd_SL_171 : zFd "ScopeLines" 171 8 2 (.object "ScopeLines$Search") true := ⟨R_Gr, T_Gr, 10, ck_Gr, by decide, by decide +kernel, rfl, rfl, Or.inl wf_SL_171⟩
theorem wm_SL_175 : Cond.methodLink "ScopeLines" 175 ⟨"ScopeLines$Search", "run", "(LScopeLines$Pattern;LScopeLines$Line;ILScopeLines$State;)V"⟩ ∈ zGW := z_in3 (List.mem_of_getElem? (i := 222) rfl) rfl
theorem cw_SL_find_175 : zCw m_SL_find m_Se_run 175 0 6 4 := ⟨Or.inl wm_SL_175, wc_Se_run, wn_Se, ⟨by decide, by decide, by decide +kernel⟩, ⟨by decide, by decide⟩, (fun _ => ⟨wj_Se_run, ws_Se_run, by decide, T_Se, 12, rfl⟩), (fun q => by cases q), (fun q => by cases q)⟩
theorem wf_SL_181 : Cond.fieldLink "ScopeLines" 181 "ScopeLines$Search" "steps" "I" ∈ zGW := z_in1 (List.mem_of_getElem? (i := 156) rfl) rfl
theorem fd_SL_181 : zFd "ScopeLines" 181 6 4 (.int) false := ⟨R_Se, T_Se, 12, ck_Se, by decide, by decide +kernel, rfl, rfl, Or.inl wf_SL_181⟩
theorem wf_SL_184 : Cond.fieldLink "ScopeLines" 184 "ScopeLines$Search" "isOver" "Z" ∈ zGW := z_in1 (List.mem_of_getElem? (i := 159) rfl) rfl
theorem fd_SL_184 : zFd "ScopeLines" 184 6 5 (.boolean) false := ⟨R_Se, T_Se, 12, ck_Se, by decide, by decide +kernel, rfl, rfl, Or.inl wf_SL_184⟩
theorem wf_SL_187 : Cond.fieldLink "ScopeLines" 187 "ScopeLines$Search" "begin" "I" ∈ zGW := z_in1 (List.mem_of_getElem? (i := 151) rfl) rfl
theorem fd_SL_187 : zFd "ScopeLines" 187 6 2 (.int) false := ⟨R_Se, T_Se, 12, ck_Se, by decide, by decide +kernel, rfl, rfl, Or.inl wf_SL_187⟩
theorem wf_SL_190 : Cond.fieldLink "ScopeLines" 190 "ScopeLines$Search" "end" "I" ∈ zGW := z_in1 (List.mem_of_getElem? (i := 154) rfl) rfl
theorem fd_SL_190 : zFd "ScopeLines" 190 6 3 (.int) false := ⟨R_Se, T_Se, 12, ck_Se, by decide, by decide +kernel, rfl, rfl, Or.inl wf_SL_190⟩
theorem wf_SL_192 : Cond.fieldLink "ScopeLines" 192 "ScopeLines$Search" "groups" "[I" ∈ zGW := z_in1 (List.mem_of_getElem? (i := 148) rfl) rfl
theorem fd_SL_192 : zFd "ScopeLines" 192 6 1 (.array .int) true := ⟨R_Se, T_Se, 12, ck_Se, by decide, by decide +kernel, rfl, rfl, Or.inl wf_SL_192⟩
theorem w_Mo_1 : Cond.methodLink "ScopeLinesModel" 1 ⟨"java/lang/Object", "<init>", "()V"⟩ ∈ zGW := z_in3 (List.mem_of_getElem? (i := 231) rfl) rfl
theorem wf_Mo_7 : Cond.fieldLink "ScopeLinesModel" 7 "ScopeLinesModel" "draft" "[I" ∈ zGW := z_in3 (List.mem_of_getElem? (i := 234) rfl) rfl
theorem fd_Mo_7 : zFd "ScopeLinesModel" 7 9 2 (.array .int) false := ⟨R_Mo, T_Mo, 52, ck_Mo, by decide, by decide +kernel, rfl, rfl, Or.inl wf_Mo_7⟩
theorem wf_Mo_13 : Cond.fieldLink "ScopeLinesModel" 13 "ScopeLinesModel" "isRange" "[Z" ∈ zGW := z_in3 (List.mem_of_getElem? (i := 236) rfl) rfl
theorem fd_Mo_13 : zFd "ScopeLinesModel" 13 9 4 (.array .boolean) false := ⟨R_Mo, T_Mo, 52, ck_Mo, by decide, by decide +kernel, rfl, rfl, Or.inl wf_Mo_13⟩
theorem wf_Mo_17 : Cond.fieldLink "ScopeLinesModel" 17 "ScopeLinesModel" "home" "[I" ∈ zGW := z_in3 (List.mem_of_getElem? (i := 237) rfl) rfl
theorem fd_Mo_17 : zFd "ScopeLinesModel" 17 9 5 (.array .int) false := ⟨R_Mo, T_Mo, 52, ck_Mo, by decide, by decide +kernel, rfl, rfl, Or.inl wf_Mo_17⟩
theorem wf_Mo_20 : Cond.fieldLink "ScopeLinesModel" 20 "ScopeLinesModel" "scope" "[I" ∈ zGW := z_in3 (List.mem_of_getElem? (i := 238) rfl) rfl
theorem fd_Mo_20 : zFd "ScopeLinesModel" 20 9 6 (.array .int) false := ⟨R_Mo, T_Mo, 52, ck_Mo, by decide, by decide +kernel, rfl, rfl, Or.inl wf_Mo_20⟩
theorem wf_Mo_23 : Cond.fieldLink "ScopeLinesModel" 23 "ScopeLinesModel" "includes" "[I" ∈ zGW := z_in3 (List.mem_of_getElem? (i := 239) rfl) rfl
theorem fd_Mo_23 : zFd "ScopeLinesModel" 23 9 7 (.array .int) false := ⟨R_Mo, T_Mo, 52, ck_Mo, by decide, by decide +kernel, rfl, rfl, Or.inl wf_Mo_23⟩
theorem wf_Mo_26 : Cond.fieldLink "ScopeLinesModel" 26 "ScopeLinesModel" "patLength" "[I" ∈ zGW := z_in4 (List.mem_of_getElem? (i := 0) rfl) rfl
theorem fd_Mo_26 : zFd "ScopeLinesModel" 26 9 8 (.array .int) false := ⟨R_Mo, T_Mo, 52, ck_Mo, by decide, by decide +kernel, rfl, rfl, Or.inl wf_Mo_26⟩
theorem wf_Mo_29 : Cond.fieldLink "ScopeLinesModel" 29 "ScopeLinesModel" "pat" "[I" ∈ zGW := z_in4 (List.mem_of_getElem? (i := 1) rfl) rfl
theorem fd_Mo_29 : zFd "ScopeLinesModel" 29 9 9 (.array .int) false := ⟨R_Mo, T_Mo, 52, ck_Mo, by decide, by decide +kernel, rfl, rfl, Or.inl wf_Mo_29⟩
theorem wf_Mo_32 : Cond.fieldLink "ScopeLinesModel" 32 "ScopeLinesModel" "quant" "[I" ∈ zGW := z_in4 (List.mem_of_getElem? (i := 2) rfl) rfl
theorem fd_Mo_32 : zFd "ScopeLinesModel" 32 9 10 (.array .int) false := ⟨R_Mo, T_Mo, 52, ck_Mo, by decide, by decide +kernel, rfl, rfl, Or.inl wf_Mo_32⟩
theorem wf_Mo_35 : Cond.fieldLink "ScopeLinesModel" 35 "ScopeLinesModel" "atomEnd" "[I" ∈ zGW := z_in4 (List.mem_of_getElem? (i := 3) rfl) rfl
theorem fd_Mo_35 : zFd "ScopeLinesModel" 35 9 11 (.array .int) false := ⟨R_Mo, T_Mo, 52, ck_Mo, by decide, by decide +kernel, rfl, rfl, Or.inl wf_Mo_35⟩
theorem wf_Mo_38 : Cond.fieldLink "ScopeLinesModel" 38 "ScopeLinesModel" "pieceEnd" "[I" ∈ zGW := z_in4 (List.mem_of_getElem? (i := 4) rfl) rfl
theorem fd_Mo_38 : zFd "ScopeLinesModel" 38 9 12 (.array .int) false := ⟨R_Mo, T_Mo, 52, ck_Mo, by decide, by decide +kernel, rfl, rfl, Or.inl wf_Mo_38⟩
theorem wf_Mo_41 : Cond.fieldLink "ScopeLinesModel" 41 "ScopeLinesModel" "groupOf" "[I" ∈ zGW := z_in4 (List.mem_of_getElem? (i := 5) rfl) rfl
theorem fd_Mo_41 : zFd "ScopeLinesModel" 41 9 13 (.array .int) false := ⟨R_Mo, T_Mo, 52, ck_Mo, by decide, by decide +kernel, rfl, rfl, Or.inl wf_Mo_41⟩
theorem wf_Mo_44 : Cond.fieldLink "ScopeLinesModel" 44 "ScopeLinesModel" "owner" "[I" ∈ zGW := z_in4 (List.mem_of_getElem? (i := 6) rfl) rfl
theorem fd_Mo_44 : zFd "ScopeLinesModel" 44 9 14 (.array .int) false := ⟨R_Mo, T_Mo, 52, ck_Mo, by decide, by decide +kernel, rfl, rfl, Or.inl wf_Mo_44⟩
theorem wf_Mo_47 : Cond.fieldLink "ScopeLinesModel" 47 "ScopeLinesModel" "bar" "[I" ∈ zGW := z_in4 (List.mem_of_getElem? (i := 7) rfl) rfl
theorem fd_Mo_47 : zFd "ScopeLinesModel" 47 9 15 (.array .int) false := ⟨R_Mo, T_Mo, 52, ck_Mo, by decide, by decide +kernel, rfl, rfl, Or.inl wf_Mo_47⟩
theorem wf_Mo_50 : Cond.fieldLink "ScopeLinesModel" 50 "ScopeLinesModel" "firstBar" "[I" ∈ zGW := z_in4 (List.mem_of_getElem? (i := 8) rfl) rfl
theorem fd_Mo_50 : zFd "ScopeLinesModel" 50 9 16 (.array .int) false := ⟨R_Mo, T_Mo, 52, ck_Mo, by decide, by decide +kernel, rfl, rfl, Or.inl wf_Mo_50⟩
theorem wf_Mo_53 : Cond.fieldLink "ScopeLinesModel" 53 "ScopeLinesModel" "opened" "[I" ∈ zGW := z_in4 (List.mem_of_getElem? (i := 9) rfl) rfl
theorem fd_Mo_53 : zFd "ScopeLinesModel" 53 9 17 (.array .int) false := ⟨R_Mo, T_Mo, 52, ck_Mo, by decide, by decide +kernel, rfl, rfl, Or.inl wf_Mo_53⟩
theorem wf_Mo_56 : Cond.fieldLink "ScopeLinesModel" 56 "ScopeLinesModel" "lastBar" "[I" ∈ zGW := z_in4 (List.mem_of_getElem? (i := 10) rfl) rfl
theorem fd_Mo_56 : zFd "ScopeLinesModel" 56 9 18 (.array .int) false := ⟨R_Mo, T_Mo, 52, ck_Mo, by decide, by decide +kernel, rfl, rfl, Or.inl wf_Mo_56⟩
theorem wf_Mo_59 : Cond.fieldLink "ScopeLinesModel" 59 "ScopeLinesModel" "some" "[Z" ∈ zGW := z_in4 (List.mem_of_getElem? (i := 11) rfl) rfl
theorem fd_Mo_59 : zFd "ScopeLinesModel" 59 9 19 (.array .boolean) false := ⟨R_Mo, T_Mo, 52, ck_Mo, by decide, by decide +kernel, rfl, rfl, Or.inl wf_Mo_59⟩
theorem wf_Mo_62 : Cond.fieldLink "ScopeLinesModel" 62 "ScopeLinesModel" "present" "[Z" ∈ zGW := z_in4 (List.mem_of_getElem? (i := 12) rfl) rfl
theorem fd_Mo_62 : zFd "ScopeLinesModel" 62 9 20 (.array .boolean) false := ⟨R_Mo, T_Mo, 52, ck_Mo, by decide, by decide +kernel, rfl, rfl, Or.inl wf_Mo_62⟩
theorem wf_Mo_65 : Cond.fieldLink "ScopeLinesModel" 65 "ScopeLinesModel" "group" "[I" ∈ zGW := z_in4 (List.mem_of_getElem? (i := 17) rfl) rfl
theorem fd_Mo_65 : zFd "ScopeLinesModel" 65 9 25 (.array .int) false := ⟨R_Mo, T_Mo, 52, ck_Mo, by decide, by decide +kernel, rfl, rfl, Or.inl wf_Mo_65⟩
theorem wf_Mo_68 : Cond.fieldLink "ScopeLinesModel" 68 "ScopeLinesModel" "choice" "[I" ∈ zGW := z_in4 (List.mem_of_getElem? (i := 19) rfl) rfl
theorem fd_Mo_68 : zFd "ScopeLinesModel" 68 9 27 (.array .int) false := ⟨R_Mo, T_Mo, 52, ck_Mo, by decide, by decide +kernel, rfl, rfl, Or.inl wf_Mo_68⟩
theorem wf_Mo_71 : Cond.fieldLink "ScopeLinesModel" 71 "ScopeLinesModel" "refLength" "[I" ∈ zGW := z_in4 (List.mem_of_getElem? (i := 20) rfl) rfl
theorem fd_Mo_71 : zFd "ScopeLinesModel" 71 9 28 (.array .int) false := ⟨R_Mo, T_Mo, 52, ck_Mo, by decide, by decide +kernel, rfl, rfl, Or.inl wf_Mo_71⟩
theorem wf_Mo_74 : Cond.fieldLink "ScopeLinesModel" 74 "ScopeLinesModel" "ref" "[I" ∈ zGW := z_in4 (List.mem_of_getElem? (i := 21) rfl) rfl
theorem fd_Mo_74 : zFd "ScopeLinesModel" 74 9 29 (.array .int) false := ⟨R_Mo, T_Mo, 52, ck_Mo, by decide, by decide +kernel, rfl, rfl, Or.inl wf_Mo_74⟩
theorem wf_Mo_77 : Cond.fieldLink "ScopeLinesModel" 77 "ScopeLinesModel" "length" "[I" ∈ zGW := z_in4 (List.mem_of_getElem? (i := 24) rfl) rfl
theorem fd_Mo_77 : zFd "ScopeLinesModel" 77 9 32 (.array .int) false := ⟨R_Mo, T_Mo, 52, ck_Mo, by decide, by decide +kernel, rfl, rfl, Or.inl wf_Mo_77⟩
theorem wf_Mo_80 : Cond.fieldLink "ScopeLinesModel" 80 "ScopeLinesModel" "text" "[I" ∈ zGW := z_in4 (List.mem_of_getElem? (i := 25) rfl) rfl
theorem fd_Mo_80 : zFd "ScopeLinesModel" 80 9 33 (.array .int) false := ⟨R_Mo, T_Mo, 52, ck_Mo, by decide, by decide +kernel, rfl, rfl, Or.inl wf_Mo_80⟩
theorem wf_Mo_83 : Cond.fieldLink "ScopeLinesModel" 83 "ScopeLinesModel" "marked" "[Z" ∈ zGW := z_in4 (List.mem_of_getElem? (i := 26) rfl) rfl
theorem fd_Mo_83 : zFd "ScopeLinesModel" 83 9 34 (.array .boolean) false := ⟨R_Mo, T_Mo, 52, ck_Mo, by decide, by decide +kernel, rfl, rfl, Or.inl wf_Mo_83⟩
theorem wf_Mo_86 : Cond.fieldLink "ScopeLinesModel" 86 "ScopeLinesModel" "tokens" "[I" ∈ zGW := z_in4 (List.mem_of_getElem? (i := 27) rfl) rfl
theorem fd_Mo_86 : zFd "ScopeLinesModel" 86 9 35 (.array .int) false := ⟨R_Mo, T_Mo, 52, ck_Mo, by decide, by decide +kernel, rfl, rfl, Or.inl wf_Mo_86⟩
theorem wf_Mo_89 : Cond.fieldLink "ScopeLinesModel" 89 "ScopeLinesModel" "tokenAt" "[I" ∈ zGW := z_in4 (List.mem_of_getElem? (i := 28) rfl) rfl
theorem fd_Mo_89 : zFd "ScopeLinesModel" 89 9 36 (.array .int) false := ⟨R_Mo, T_Mo, 52, ck_Mo, by decide, by decide +kernel, rfl, rfl, Or.inl wf_Mo_89⟩
theorem wf_Mo_92 : Cond.fieldLink "ScopeLinesModel" 92 "ScopeLinesModel" "tokenScopes" "[I" ∈ zGW := z_in4 (List.mem_of_getElem? (i := 29) rfl) rfl
theorem fd_Mo_92 : zFd "ScopeLinesModel" 92 9 37 (.array .int) false := ⟨R_Mo, T_Mo, 52, ck_Mo, by decide, by decide +kernel, rfl, rfl, Or.inl wf_Mo_92⟩
theorem wf_Mo_95 : Cond.fieldLink "ScopeLinesModel" 95 "ScopeLinesModel" "tokenScope" "[I" ∈ zGW := z_in4 (List.mem_of_getElem? (i := 30) rfl) rfl
theorem fd_Mo_95 : zFd "ScopeLinesModel" 95 9 38 (.array .int) false := ⟨R_Mo, T_Mo, 52, ck_Mo, by decide, by decide +kernel, rfl, rfl, Or.inl wf_Mo_95⟩
theorem wf_Mo_98 : Cond.fieldLink "ScopeLinesModel" 98 "ScopeLinesModel" "depth" "[I" ∈ zGW := z_in4 (List.mem_of_getElem? (i := 31) rfl) rfl
theorem fd_Mo_98 : zFd "ScopeLinesModel" 98 9 39 (.array .int) false := ⟨R_Mo, T_Mo, 52, ck_Mo, by decide, by decide +kernel, rfl, rfl, Or.inl wf_Mo_98⟩
theorem wf_Mo_101 : Cond.fieldLink "ScopeLinesModel" 101 "ScopeLinesModel" "open" "[I" ∈ zGW := z_in4 (List.mem_of_getElem? (i := 32) rfl) rfl
theorem fd_Mo_101 : zFd "ScopeLinesModel" 101 9 40 (.array .int) false := ⟨R_Mo, T_Mo, 52, ck_Mo, by decide, by decide +kernel, rfl, rfl, Or.inl wf_Mo_101⟩
theorem wf_Mo_104 : Cond.fieldLink "ScopeLinesModel" 104 "ScopeLinesModel" "openLength" "[I" ∈ zGW := z_in4 (List.mem_of_getElem? (i := 33) rfl) rfl
theorem fd_Mo_104 : zFd "ScopeLinesModel" 104 9 41 (.array .int) false := ⟨R_Mo, T_Mo, 52, ck_Mo, by decide, by decide +kernel, rfl, rfl, Or.inl wf_Mo_104⟩
theorem wf_Mo_107 : Cond.fieldLink "ScopeLinesModel" 107 "ScopeLinesModel" "openText" "[I" ∈ zGW := z_in4 (List.mem_of_getElem? (i := 34) rfl) rfl
theorem fd_Mo_107 : zFd "ScopeLinesModel" 107 9 42 (.array .int) false := ⟨R_Mo, T_Mo, 52, ck_Mo, by decide, by decide +kernel, rfl, rfl, Or.inl wf_Mo_107⟩
theorem wf_Mo_110 : Cond.fieldLink "ScopeLinesModel" 110 "ScopeLinesModel" "candidates" "[I" ∈ zGW := z_in4 (List.mem_of_getElem? (i := 35) rfl) rfl
theorem fd_Mo_110 : zFd "ScopeLinesModel" 110 9 43 (.array .int) false := ⟨R_Mo, T_Mo, 52, ck_Mo, by decide, by decide +kernel, rfl, rfl, Or.inl wf_Mo_110⟩
theorem wf_Mo_113 : Cond.fieldLink "ScopeLinesModel" 113 "ScopeLinesModel" "bestGroup" "[I" ∈ zGW := z_in4 (List.mem_of_getElem? (i := 39) rfl) rfl
theorem fd_Mo_113 : zFd "ScopeLinesModel" 113 9 47 (.array .int) false := ⟨R_Mo, T_Mo, 52, ck_Mo, by decide, by decide +kernel, rfl, rfl, Or.inl wf_Mo_113⟩
theorem wf_Mo_116 : Cond.fieldLink "ScopeLinesModel" 116 "ScopeLinesModel" "entryScope" "[I" ∈ zGW := z_in4 (List.mem_of_getElem? (i := 41) rfl) rfl
theorem fd_Mo_116 : zFd "ScopeLinesModel" 116 9 49 (.array .int) false := ⟨R_Mo, T_Mo, 52, ck_Mo, by decide, by decide +kernel, rfl, rfl, Or.inl wf_Mo_116⟩
theorem wf_Mo_119 : Cond.fieldLink "ScopeLinesModel" 119 "ScopeLinesModel" "entryParent" "[I" ∈ zGW := z_in4 (List.mem_of_getElem? (i := 42) rfl) rfl
theorem fd_Mo_119 : zFd "ScopeLinesModel" 119 9 50 (.array .int) false := ⟨R_Mo, T_Mo, 52, ck_Mo, by decide, by decide +kernel, rfl, rfl, Or.inl wf_Mo_119⟩
theorem wf_Mo_122 : Cond.fieldLink "ScopeLinesModel" 122 "ScopeLinesModel" "entryColour" "[I" ∈ zGW := z_in4 (List.mem_of_getElem? (i := 43) rfl) rfl
theorem fd_Mo_122 : zFd "ScopeLinesModel" 122 9 51 (.array .int) false := ⟨R_Mo, T_Mo, 52, ck_Mo, by decide, by decide +kernel, rfl, rfl, Or.inl wf_Mo_122⟩
theorem wf_Mo_125 : Cond.fieldLink "ScopeLinesModel" 125 "ScopeLinesModel" "budget" "I" ∈ zGW := z_in3 (List.mem_of_getElem? (i := 232) rfl) rfl
theorem fd_Mo_125 : zFd "ScopeLinesModel" 125 9 0 (.int) false := ⟨R_Mo, T_Mo, 52, ck_Mo, by decide, by decide +kernel, rfl, rfl, Or.inl wf_Mo_125⟩
theorem wf_Mo_129 : Cond.fieldLink "ScopeLinesModel" 129 "ScopeLinesModel" "drafted" "I" ∈ zGW := z_in3 (List.mem_of_getElem? (i := 233) rfl) rfl
theorem fd_Mo_129 : zFd "ScopeLinesModel" 129 9 1 (.int) false := ⟨R_Mo, T_Mo, 52, ck_Mo, by decide, by decide +kernel, rfl, rfl, Or.inl wf_Mo_129⟩
theorem wm_Mo_132 : Cond.methodLink "ScopeLinesModel" 132 ⟨"ScopeLinesModel", "at", "(II)I"⟩ ∈ zGW := z_in4 (List.mem_of_getElem? (i := 177) rfl) rfl
theorem wn_Mo : Cond.initialized "ScopeLinesModel" ∈ zGW := z_in1 (List.mem_of_getElem? (i := 11) rfl) rfl
theorem wj_Mo_at : Cond.instanceMethod ⟨"ScopeLinesModel", "at", "(II)I"⟩ ∈ zGW := z_in4 (List.mem_of_getElem? (i := 179) rfl) rfl
theorem ws_Mo_at : Cond.selects m_Mo_at.1.cls m_Mo_at.1 m_Mo_at.1 ∈ zGW := z_inp (q := (⟨"ScopeLinesModel", "at", "(II)I"⟩, 52)) (List.mem_of_getElem? (i := 37) rfl)
theorem cw_Mo_items_132 : zCw m_Mo_items m_Mo_at 132 0 9 2 := ⟨Or.inl wm_Mo_132, wc_Mo_at, wn_Mo, ⟨by decide, by decide, by decide +kernel⟩, ⟨by decide, by decide⟩, (fun _ => ⟨wj_Mo_at, ws_Mo_at, by decide, T_Mo, 52, rfl⟩), (fun q => by cases q), (fun q => by cases q)⟩
theorem cw_Mo_simple_132 : zCw m_Mo_simple m_Mo_at 132 0 9 2 := ⟨Or.inl wm_Mo_132, wc_Mo_at, wn_Mo, ⟨by decide, by decide, by decide +kernel⟩, ⟨by decide, by decide⟩, (fun _ => ⟨wj_Mo_at, ws_Mo_at, by decide, T_Mo, 52, rfl⟩), (fun q => by cases q), (fun q => by cases q)⟩
theorem wm_Mo_136 : Cond.methodLink "ScopeLinesModel" 136 ⟨"ScopeLinesModel", "items", "(II)I"⟩ ∈ zGW := z_in4 (List.mem_of_getElem? (i := 201) rfl) rfl
theorem wj_Mo_items : Cond.instanceMethod ⟨"ScopeLinesModel", "items", "(II)I"⟩ ∈ zGW := z_in4 (List.mem_of_getElem? (i := 203) rfl) rfl
theorem ws_Mo_items : Cond.selects m_Mo_items.1.cls m_Mo_items.1 m_Mo_items.1 ∈ zGW := z_inp (q := (⟨"ScopeLinesModel", "items", "(II)I"⟩, 52)) (List.mem_of_getElem? (i := 43) rfl)
theorem cw_Mo_simple_136 : zCw m_Mo_simple m_Mo_items 136 0 9 2 := ⟨Or.inl wm_Mo_136, wc_Mo_items, wn_Mo, ⟨by decide, by decide, by decide +kernel⟩, ⟨by decide, by decide⟩, (fun _ => ⟨wj_Mo_items, ws_Mo_items, by decide, T_Mo, 52, rfl⟩), (fun q => by cases q), (fun q => by cases q)⟩
theorem wm_Mo_139 : Cond.methodLink "ScopeLinesModel" 139 ⟨"ScopeLinesModel", "quantifier", "(I)Z"⟩ ∈ zGW := z_in4 (List.mem_of_getElem? (i := 205) rfl) rfl
theorem wt_Mo_quantifier : Cond.static ⟨"ScopeLinesModel", "quantifier", "(I)Z"⟩ ∈ zGW := z_in4 (List.mem_of_getElem? (i := 206) rfl) rfl
theorem cw_Mo_simple_139 : zCw m_Mo_simple m_Mo_quantifier 139 1 0 1 := ⟨Or.inl wm_Mo_139, wc_Mo_quantifier, wn_Mo, ⟨by decide, by decide, by decide +kernel⟩, ⟨by decide, by decide⟩, (fun q => by cases q), (fun _ => wt_Mo_quantifier), (fun q => by cases q)⟩
theorem cw_Mo_isRef_132 : zCw m_Mo_isRef m_Mo_at 132 0 9 2 := ⟨Or.inl wm_Mo_132, wc_Mo_at, wn_Mo, ⟨by decide, by decide, by decide +kernel⟩, ⟨by decide, by decide⟩, (fun _ => ⟨wj_Mo_at, ws_Mo_at, by decide, T_Mo, 52, rfl⟩), (fun q => by cases q), (fun q => by cases q)⟩
theorem cw_Mo_quantified_132 : zCw m_Mo_quantified m_Mo_at 132 0 9 2 := ⟨Or.inl wm_Mo_132, wc_Mo_at, wn_Mo, ⟨by decide, by decide, by decide +kernel⟩, ⟨by decide, by decide⟩, (fun _ => ⟨wj_Mo_at, ws_Mo_at, by decide, T_Mo, 52, rfl⟩), (fun q => by cases q), (fun q => by cases q)⟩
theorem wm_Mo_143 : Cond.methodLink "ScopeLinesModel" 143 ⟨"ScopeLinesModel", "isRef", "(II)Z"⟩ ∈ zGW := z_in4 (List.mem_of_getElem? (i := 193) rfl) rfl
theorem wj_Mo_isRef : Cond.instanceMethod ⟨"ScopeLinesModel", "isRef", "(II)Z"⟩ ∈ zGW := z_in4 (List.mem_of_getElem? (i := 195) rfl) rfl
theorem ws_Mo_isRef : Cond.selects m_Mo_isRef.1.cls m_Mo_isRef.1 m_Mo_isRef.1 ∈ zGW := z_inp (q := (⟨"ScopeLinesModel", "isRef", "(II)Z"⟩, 52)) (List.mem_of_getElem? (i := 41) rfl)
theorem cw_Mo_quantified_143 : zCw m_Mo_quantified m_Mo_isRef 143 0 9 2 := ⟨Or.inl wm_Mo_143, wc_Mo_isRef, wn_Mo, ⟨by decide, by decide, by decide +kernel⟩, ⟨by decide, by decide⟩, (fun _ => ⟨wj_Mo_isRef, ws_Mo_isRef, by decide, T_Mo, 52, rfl⟩), (fun q => by cases q), (fun q => by cases q)⟩
theorem cw_Mo_parse_132 : zCw m_Mo_parse m_Mo_at 132 0 9 2 := ⟨Or.inl wm_Mo_132, wc_Mo_at, wn_Mo, ⟨by decide, by decide, by decide +kernel⟩, ⟨by decide, by decide⟩, (fun _ => ⟨wj_Mo_at, ws_Mo_at, by decide, T_Mo, 52, rfl⟩), (fun q => by cases q), (fun q => by cases q)⟩
theorem wm_Mo_147 : Cond.methodLink "ScopeLinesModel" 147 ⟨"ScopeLinesModel", "openLevel", "(II)V"⟩ ∈ zGW := z_in4 (List.mem_of_getElem? (i := 181) rfl) rfl
theorem wj_Mo_openLevel : Cond.instanceMethod ⟨"ScopeLinesModel", "openLevel", "(II)V"⟩ ∈ zGW := z_in4 (List.mem_of_getElem? (i := 183) rfl) rfl
theorem ws_Mo_openLevel : Cond.selects m_Mo_openLevel.1.cls m_Mo_openLevel.1 m_Mo_openLevel.1 ∈ zGW := z_inp (q := (⟨"ScopeLinesModel", "openLevel", "(II)V"⟩, 52)) (List.mem_of_getElem? (i := 38) rfl)
theorem cw_Mo_parse_147 : zCw m_Mo_parse m_Mo_openLevel 147 0 9 2 := ⟨Or.inl wm_Mo_147, wc_Mo_openLevel, wn_Mo, ⟨by decide, by decide, by decide +kernel⟩, ⟨by decide, by decide⟩, (fun _ => ⟨wj_Mo_openLevel, ws_Mo_openLevel, by decide, T_Mo, 52, rfl⟩), (fun q => by cases q), (fun q => by cases q)⟩
theorem wm_Mo_151 : Cond.methodLink "ScopeLinesModel" 151 ⟨"ScopeLinesModel", "note", "(III)V"⟩ ∈ zGW := z_in4 (List.mem_of_getElem? (i := 185) rfl) rfl
theorem wj_Mo_note : Cond.instanceMethod ⟨"ScopeLinesModel", "note", "(III)V"⟩ ∈ zGW := z_in4 (List.mem_of_getElem? (i := 187) rfl) rfl
theorem ws_Mo_note : Cond.selects m_Mo_note.1.cls m_Mo_note.1 m_Mo_note.1 ∈ zGW := z_inp (q := (⟨"ScopeLinesModel", "note", "(III)V"⟩, 52)) (List.mem_of_getElem? (i := 39) rfl)
theorem cw_Mo_parse_151 : zCw m_Mo_parse m_Mo_note 151 0 9 3 := ⟨Or.inl wm_Mo_151, wc_Mo_note, wn_Mo, ⟨by decide, by decide, by decide +kernel⟩, ⟨by decide, by decide⟩, (fun _ => ⟨wj_Mo_note, ws_Mo_note, by decide, T_Mo, 52, rfl⟩), (fun q => by cases q), (fun q => by cases q)⟩
theorem wm_Mo_155 : Cond.methodLink "ScopeLinesModel" 155 ⟨"ScopeLinesModel", "quantified", "(IIIZI)I"⟩ ∈ zGW := z_in4 (List.mem_of_getElem? (i := 189) rfl) rfl
theorem wj_Mo_quantified : Cond.instanceMethod ⟨"ScopeLinesModel", "quantified", "(IIIZI)I"⟩ ∈ zGW := z_in4 (List.mem_of_getElem? (i := 191) rfl) rfl
theorem ws_Mo_quantified : Cond.selects m_Mo_quantified.1.cls m_Mo_quantified.1 m_Mo_quantified.1 ∈ zGW := z_inp (q := (⟨"ScopeLinesModel", "quantified", "(IIIZI)I"⟩, 52)) (List.mem_of_getElem? (i := 40) rfl)
theorem cw_Mo_parse_155 : zCw m_Mo_parse m_Mo_quantified 155 0 9 5 := ⟨Or.inl wm_Mo_155, wc_Mo_quantified, wn_Mo, ⟨by decide, by decide, by decide +kernel⟩, ⟨by decide, by decide⟩, (fun _ => ⟨wj_Mo_quantified, ws_Mo_quantified, by decide, T_Mo, 52, rfl⟩), (fun q => by cases q), (fun q => by cases q)⟩
theorem wm_Mo_159 : Cond.methodLink "ScopeLinesModel" 159 ⟨"ScopeLinesModel", "simple", "(IIZ)I"⟩ ∈ zGW := z_in4 (List.mem_of_getElem? (i := 197) rfl) rfl
theorem wj_Mo_simple : Cond.instanceMethod ⟨"ScopeLinesModel", "simple", "(IIZ)I"⟩ ∈ zGW := z_in4 (List.mem_of_getElem? (i := 199) rfl) rfl
theorem ws_Mo_simple : Cond.selects m_Mo_simple.1.cls m_Mo_simple.1 m_Mo_simple.1 ∈ zGW := z_inp (q := (⟨"ScopeLinesModel", "simple", "(IIZ)I"⟩, 52)) (List.mem_of_getElem? (i := 42) rfl)
theorem cw_Mo_parse_159 : zCw m_Mo_parse m_Mo_simple 159 0 9 3 := ⟨Or.inl wm_Mo_159, wc_Mo_simple, wn_Mo, ⟨by decide, by decide, by decide +kernel⟩, ⟨by decide, by decide⟩, (fun _ => ⟨wj_Mo_simple, ws_Mo_simple, by decide, T_Mo, 52, rfl⟩), (fun q => by cases q), (fun q => by cases q)⟩
theorem cw_Mo_parse_143 : zCw m_Mo_parse m_Mo_isRef 143 0 9 2 := ⟨Or.inl wm_Mo_143, wc_Mo_isRef, wn_Mo, ⟨by decide, by decide, by decide +kernel⟩, ⟨by decide, by decide⟩, (fun _ => ⟨wj_Mo_isRef, ws_Mo_isRef, by decide, T_Mo, 52, rfl⟩), (fun q => by cases q), (fun q => by cases q)⟩
theorem cw_Mo_inItems_132 : zCw m_Mo_inItems m_Mo_at 132 0 9 2 := ⟨Or.inl wm_Mo_132, wc_Mo_at, wn_Mo, ⟨by decide, by decide, by decide +kernel⟩, ⟨by decide, by decide⟩, (fun _ => ⟨wj_Mo_at, ws_Mo_at, by decide, T_Mo, 52, rfl⟩), (fun q => by cases q), (fun q => by cases q)⟩
theorem wf_Mo_163 : Cond.fieldLink "ScopeLinesModel" 163 "ScopeLinesModel" "choices" "I" ∈ zGW := z_in4 (List.mem_of_getElem? (i := 18) rfl) rfl
theorem fd_Mo_163 : zFd "ScopeLinesModel" 163 9 26 (.int) false := ⟨R_Mo, T_Mo, 52, ck_Mo, by decide, by decide +kernel, rfl, rfl, Or.inl wf_Mo_163⟩
theorem wf_Mo_166 : Cond.fieldLink "ScopeLinesModel" 166 "ScopeLinesModel" "steps" "I" ∈ zGW := z_in4 (List.mem_of_getElem? (i := 13) rfl) rfl
theorem fd_Mo_166 : zFd "ScopeLinesModel" 166 9 21 (.int) false := ⟨R_Mo, T_Mo, 52, ck_Mo, by decide, by decide +kernel, rfl, rfl, Or.inl wf_Mo_166⟩
theorem wf_Mo_169 : Cond.fieldLink "ScopeLinesModel" 169 "ScopeLinesModel" "over" "Z" ∈ zGW := z_in4 (List.mem_of_getElem? (i := 14) rfl) rfl
theorem fd_Mo_169 : zFd "ScopeLinesModel" 169 9 22 (.boolean) false := ⟨R_Mo, T_Mo, 52, ck_Mo, by decide, by decide +kernel, rfl, rfl, Or.inl wf_Mo_169⟩
theorem cw_Mo_fits_132 : zCw m_Mo_fits m_Mo_at 132 0 9 2 := ⟨Or.inl wm_Mo_132, wc_Mo_at, wn_Mo, ⟨by decide, by decide, by decide +kernel⟩, ⟨by decide, by decide⟩, (fun _ => ⟨wj_Mo_at, ws_Mo_at, by decide, T_Mo, 52, rfl⟩), (fun q => by cases q), (fun q => by cases q)⟩
theorem cw_Mo_fits_143 : zCw m_Mo_fits m_Mo_isRef 143 0 9 2 := ⟨Or.inl wm_Mo_143, wc_Mo_isRef, wn_Mo, ⟨by decide, by decide, by decide +kernel⟩, ⟨by decide, by decide⟩, (fun _ => ⟨wj_Mo_isRef, ws_Mo_isRef, by decide, T_Mo, 52, rfl⟩), (fun q => by cases q), (fun q => by cases q)⟩
theorem wm_Mo_173 : Cond.methodLink "ScopeLinesModel" 173 ⟨"ScopeLinesModel", "step", "()Z"⟩ ∈ zGW := z_in5 (List.mem_of_getElem? (i := 20) rfl) rfl
theorem wj_Mo_step : Cond.instanceMethod ⟨"ScopeLinesModel", "step", "()Z"⟩ ∈ zGW := z_in5 (List.mem_of_getElem? (i := 22) rfl) rfl
theorem ws_Mo_step : Cond.selects m_Mo_step.1.cls m_Mo_step.1 m_Mo_step.1 ∈ zGW := z_inp (q := (⟨"ScopeLinesModel", "step", "()Z"⟩, 52)) (List.mem_of_getElem? (i := 57) rfl)
theorem cw_Mo_fits_173 : zCw m_Mo_fits m_Mo_step 173 0 9 0 := ⟨Or.inl wm_Mo_173, wc_Mo_step, wn_Mo, ⟨by decide, by decide, by decide +kernel⟩, ⟨by decide, by decide⟩, (fun _ => ⟨wj_Mo_step, ws_Mo_step, by decide, T_Mo, 52, rfl⟩), (fun q => by cases q), (fun q => by cases q)⟩
theorem wm_Mo_177 : Cond.methodLink "ScopeLinesModel" 177 ⟨"ScopeLinesModel", "inItems", "(III)Z"⟩ ∈ zGW := z_in5 (List.mem_of_getElem? (i := 24) rfl) rfl
theorem wj_Mo_inItems : Cond.instanceMethod ⟨"ScopeLinesModel", "inItems", "(III)Z"⟩ ∈ zGW := z_in5 (List.mem_of_getElem? (i := 26) rfl) rfl
theorem ws_Mo_inItems : Cond.selects m_Mo_inItems.1.cls m_Mo_inItems.1 m_Mo_inItems.1 ∈ zGW := z_inp (q := (⟨"ScopeLinesModel", "inItems", "(III)Z"⟩, 52)) (List.mem_of_getElem? (i := 58) rfl)
theorem cw_Mo_fits_177 : zCw m_Mo_fits m_Mo_inItems 177 0 9 3 := ⟨Or.inl wm_Mo_177, wc_Mo_inItems, wn_Mo, ⟨by decide, by decide, by decide +kernel⟩, ⟨by decide, by decide⟩, (fun _ => ⟨wj_Mo_inItems, ws_Mo_inItems, by decide, T_Mo, 52, rfl⟩), (fun q => by cases q), (fun q => by cases q)⟩
theorem cw_Mo_ended_132 : zCw m_Mo_ended m_Mo_at 132 0 9 2 := ⟨Or.inl wm_Mo_132, wc_Mo_at, wn_Mo, ⟨by decide, by decide, by decide +kernel⟩, ⟨by decide, by decide⟩, (fun _ => ⟨wj_Mo_at, ws_Mo_at, by decide, T_Mo, 52, rfl⟩), (fun q => by cases q), (fun q => by cases q)⟩
theorem wm_Mo_181 : Cond.methodLink "ScopeLinesModel" 181 ⟨"ScopeLinesModel", "push", "(III)V"⟩ ∈ zGW := z_in5 (List.mem_of_getElem? (i := 8) rfl) rfl
theorem wj_Mo_push : Cond.instanceMethod ⟨"ScopeLinesModel", "push", "(III)V"⟩ ∈ zGW := z_in5 (List.mem_of_getElem? (i := 10) rfl) rfl
theorem ws_Mo_push : Cond.selects m_Mo_push.1.cls m_Mo_push.1 m_Mo_push.1 ∈ zGW := z_inp (q := (⟨"ScopeLinesModel", "push", "(III)V"⟩, 52)) (List.mem_of_getElem? (i := 54) rfl)
theorem cw_Mo_match_181 : zCw m_Mo_match m_Mo_push 181 0 9 3 := ⟨Or.inl wm_Mo_181, wc_Mo_push, wn_Mo, ⟨by decide, by decide, by decide +kernel⟩, ⟨by decide, by decide⟩, (fun _ => ⟨wj_Mo_push, ws_Mo_push, by decide, T_Mo, 52, rfl⟩), (fun q => by cases q), (fun q => by cases q)⟩
theorem wm_Mo_184 : Cond.methodLink "ScopeLinesModel" 184 ⟨"ScopeLinesModel", "ended", "(II)Z"⟩ ∈ zGW := z_in5 (List.mem_of_getElem? (i := 12) rfl) rfl
theorem wj_Mo_ended : Cond.instanceMethod ⟨"ScopeLinesModel", "ended", "(II)Z"⟩ ∈ zGW := z_in5 (List.mem_of_getElem? (i := 14) rfl) rfl
theorem ws_Mo_ended : Cond.selects m_Mo_ended.1.cls m_Mo_ended.1 m_Mo_ended.1 ∈ zGW := z_inp (q := (⟨"ScopeLinesModel", "ended", "(II)Z"⟩, 52)) (List.mem_of_getElem? (i := 55) rfl)
theorem cw_Mo_match_184 : zCw m_Mo_match m_Mo_ended 184 0 9 2 := ⟨Or.inl wm_Mo_184, wc_Mo_ended, wn_Mo, ⟨by decide, by decide, by decide +kernel⟩, ⟨by decide, by decide⟩, (fun _ => ⟨wj_Mo_ended, ws_Mo_ended, by decide, T_Mo, 52, rfl⟩), (fun q => by cases q), (fun q => by cases q)⟩
theorem cw_Mo_match_132 : zCw m_Mo_match m_Mo_at 132 0 9 2 := ⟨Or.inl wm_Mo_132, wc_Mo_at, wn_Mo, ⟨by decide, by decide, by decide +kernel⟩, ⟨by decide, by decide⟩, (fun _ => ⟨wj_Mo_at, ws_Mo_at, by decide, T_Mo, 52, rfl⟩), (fun q => by cases q), (fun q => by cases q)⟩
theorem wm_Mo_187 : Cond.methodLink "ScopeLinesModel" 187 ⟨"ScopeLinesModel", "fits", "(IIII)I"⟩ ∈ zGW := z_in5 (List.mem_of_getElem? (i := 16) rfl) rfl
theorem wj_Mo_fits : Cond.instanceMethod ⟨"ScopeLinesModel", "fits", "(IIII)I"⟩ ∈ zGW := z_in5 (List.mem_of_getElem? (i := 18) rfl) rfl
theorem ws_Mo_fits : Cond.selects m_Mo_fits.1.cls m_Mo_fits.1 m_Mo_fits.1 ∈ zGW := z_inp (q := (⟨"ScopeLinesModel", "fits", "(IIII)I"⟩, 52)) (List.mem_of_getElem? (i := 56) rfl)
theorem cw_Mo_match_187 : zCw m_Mo_match m_Mo_fits 187 0 9 4 := ⟨Or.inl wm_Mo_187, wc_Mo_fits, wn_Mo, ⟨by decide, by decide, by decide +kernel⟩, ⟨by decide, by decide⟩, (fun _ => ⟨wj_Mo_fits, ws_Mo_fits, by decide, T_Mo, 52, rfl⟩), (fun q => by cases q), (fun q => by cases q)⟩
theorem wf_Mo_191 : Cond.fieldLink "ScopeLinesModel" 191 "ScopeLinesModel" "matchTo" "I" ∈ zGW := z_in4 (List.mem_of_getElem? (i := 16) rfl) rfl
theorem fd_Mo_191 : zFd "ScopeLinesModel" 191 9 24 (.int) false := ⟨R_Mo, T_Mo, 52, ck_Mo, by decide, by decide +kernel, rfl, rfl, Or.inl wf_Mo_191⟩
theorem wf_Mo_194 : Cond.fieldLink "ScopeLinesModel" 194 "ScopeLinesModel" "matchFrom" "I" ∈ zGW := z_in4 (List.mem_of_getElem? (i := 15) rfl) rfl
theorem fd_Mo_194 : zFd "ScopeLinesModel" 194 9 23 (.int) false := ⟨R_Mo, T_Mo, 52, ck_Mo, by decide, by decide +kernel, rfl, rfl, Or.inl wf_Mo_194⟩
theorem wm_Mo_197 : Cond.methodLink "ScopeLinesModel" 197 ⟨"ScopeLinesModel", "match", "(III)V"⟩ ∈ zGW := z_in5 (List.mem_of_getElem? (i := 4) rfl) rfl
theorem wj_Mo_match : Cond.instanceMethod ⟨"ScopeLinesModel", "match", "(III)V"⟩ ∈ zGW := z_in5 (List.mem_of_getElem? (i := 6) rfl) rfl
theorem ws_Mo_match : Cond.selects m_Mo_match.1.cls m_Mo_match.1 m_Mo_match.1 ∈ zGW := z_inp (q := (⟨"ScopeLinesModel", "match", "(III)V"⟩, 52)) (List.mem_of_getElem? (i := 53) rfl)
theorem cw_Mo_search_197 : zCw m_Mo_search m_Mo_match 197 0 9 3 := ⟨Or.inl wm_Mo_197, wc_Mo_match, wn_Mo, ⟨by decide, by decide, by decide +kernel⟩, ⟨by decide, by decide⟩, (fun _ => ⟨wj_Mo_match, ws_Mo_match, by decide, T_Mo, 52, rfl⟩), (fun q => by cases q), (fun q => by cases q)⟩
theorem wm_Mo_200 : Cond.methodLink "ScopeLinesModel" 200 ⟨"ScopeLinesModel", "copyState", "(II)V"⟩ ∈ zGW := z_in4 (List.mem_of_getElem? (i := 224) rfl) rfl
theorem wj_Mo_copyState : Cond.instanceMethod ⟨"ScopeLinesModel", "copyState", "(II)V"⟩ ∈ zGW := z_in4 (List.mem_of_getElem? (i := 226) rfl) rfl
theorem ws_Mo_copyState : Cond.selects m_Mo_copyState.1.cls m_Mo_copyState.1 m_Mo_copyState.1 ∈ zGW := z_inp (q := (⟨"ScopeLinesModel", "copyState", "(II)V"⟩, 52)) (List.mem_of_getElem? (i := 48) rfl)
theorem cw_Mo_begin_200 : zCw m_Mo_begin m_Mo_copyState 200 0 9 2 := ⟨Or.inl wm_Mo_200, wc_Mo_copyState, wn_Mo, ⟨by decide, by decide, by decide +kernel⟩, ⟨by decide, by decide⟩, (fun _ => ⟨wj_Mo_copyState, ws_Mo_copyState, by decide, T_Mo, 52, rfl⟩), (fun q => by cases q), (fun q => by cases q)⟩
theorem wf_Mo_203 : Cond.fieldLink "ScopeLinesModel" 203 "ScopeLinesModel" "rules" "I" ∈ zGW := z_in3 (List.mem_of_getElem? (i := 235) rfl) rfl
theorem fd_Mo_203 : zFd "ScopeLinesModel" 203 9 3 (.int) false := ⟨R_Mo, T_Mo, 52, ck_Mo, by decide, by decide +kernel, rfl, rfl, Or.inl wf_Mo_203⟩
theorem wm_Mo_206 : Cond.methodLink "ScopeLinesModel" 206 ⟨"ScopeLinesModel", "addRules", "(II)I"⟩ ∈ zGW := z_in4 (List.mem_of_getElem? (i := 236) rfl) rfl
theorem wj_Mo_addRules : Cond.instanceMethod ⟨"ScopeLinesModel", "addRules", "(II)I"⟩ ∈ zGW := z_in4 (List.mem_of_getElem? (i := 238) rfl) rfl
theorem ws_Mo_addRules : Cond.selects m_Mo_addRules.1.cls m_Mo_addRules.1 m_Mo_addRules.1 ∈ zGW := z_inp (q := (⟨"ScopeLinesModel", "addRules", "(II)I"⟩, 52)) (List.mem_of_getElem? (i := 51) rfl)
theorem cw_Mo_gather_206 : zCw m_Mo_gather m_Mo_addRules 206 0 9 2 := ⟨Or.inl wm_Mo_206, wc_Mo_addRules, wn_Mo, ⟨by decide, by decide, by decide +kernel⟩, ⟨by decide, by decide⟩, (fun _ => ⟨wj_Mo_addRules, ws_Mo_addRules, by decide, T_Mo, 52, rfl⟩), (fun q => by cases q), (fun q => by cases q)⟩
theorem wm_Mo_209 : Cond.methodLink "ScopeLinesModel" 209 ⟨"ScopeLinesModel", "gather", "()I"⟩ ∈ zGW := z_in4 (List.mem_of_getElem? (i := 232) rfl) rfl
theorem wj_Mo_gather : Cond.instanceMethod ⟨"ScopeLinesModel", "gather", "()I"⟩ ∈ zGW := z_in4 (List.mem_of_getElem? (i := 234) rfl) rfl
theorem ws_Mo_gather : Cond.selects m_Mo_gather.1.cls m_Mo_gather.1 m_Mo_gather.1 ∈ zGW := z_inp (q := (⟨"ScopeLinesModel", "gather", "()I"⟩, 52)) (List.mem_of_getElem? (i := 50) rfl)
theorem cw_Mo_findBest_209 : zCw m_Mo_findBest m_Mo_gather 209 0 9 0 := ⟨Or.inl wm_Mo_209, wc_Mo_gather, wn_Mo, ⟨by decide, by decide, by decide +kernel⟩, ⟨by decide, by decide⟩, (fun _ => ⟨wj_Mo_gather, ws_Mo_gather, by decide, T_Mo, 52, rfl⟩), (fun q => by cases q), (fun q => by cases q)⟩
theorem wf_Mo_213 : Cond.fieldLink "ScopeLinesModel" 213 "ScopeLinesModel" "best" "I" ∈ zGW := z_in4 (List.mem_of_getElem? (i := 36) rfl) rfl
theorem fd_Mo_213 : zFd "ScopeLinesModel" 213 9 44 (.int) false := ⟨R_Mo, T_Mo, 52, ck_Mo, by decide, by decide +kernel, rfl, rfl, Or.inl wf_Mo_213⟩
theorem wm_Mo_216 : Cond.methodLink "ScopeLinesModel" 216 ⟨"ScopeLinesModel", "search", "(III)V"⟩ ∈ zGW := z_in5 (List.mem_of_getElem? (i := 0) rfl) rfl
theorem wj_Mo_search : Cond.instanceMethod ⟨"ScopeLinesModel", "search", "(III)V"⟩ ∈ zGW := z_in5 (List.mem_of_getElem? (i := 2) rfl) rfl
theorem ws_Mo_search : Cond.selects m_Mo_search.1.cls m_Mo_search.1 m_Mo_search.1 ∈ zGW := z_inp (q := (⟨"ScopeLinesModel", "search", "(III)V"⟩, 52)) (List.mem_of_getElem? (i := 52) rfl)
theorem cw_Mo_findBest_216 : zCw m_Mo_findBest m_Mo_search 216 0 9 3 := ⟨Or.inl wm_Mo_216, wc_Mo_search, wn_Mo, ⟨by decide, by decide, by decide +kernel⟩, ⟨by decide, by decide⟩, (fun _ => ⟨wj_Mo_search, ws_Mo_search, by decide, T_Mo, 52, rfl⟩), (fun q => by cases q), (fun q => by cases q)⟩
theorem wf_Mo_219 : Cond.fieldLink "ScopeLinesModel" 219 "ScopeLinesModel" "bestFrom" "I" ∈ zGW := z_in4 (List.mem_of_getElem? (i := 37) rfl) rfl
theorem fd_Mo_219 : zFd "ScopeLinesModel" 219 9 45 (.int) false := ⟨R_Mo, T_Mo, 52, ck_Mo, by decide, by decide +kernel, rfl, rfl, Or.inl wf_Mo_219⟩
theorem wf_Mo_222 : Cond.fieldLink "ScopeLinesModel" 222 "ScopeLinesModel" "bestTo" "I" ∈ zGW := z_in4 (List.mem_of_getElem? (i := 38) rfl) rfl
theorem fd_Mo_222 : zFd "ScopeLinesModel" 222 9 46 (.int) false := ⟨R_Mo, T_Mo, 52, ck_Mo, by decide, by decide +kernel, rfl, rfl, Or.inl wf_Mo_222⟩
theorem wf_Mo_225 : Cond.fieldLink "ScopeLinesModel" 225 "ScopeLinesModel" "passes" "I" ∈ zGW := z_in4 (List.mem_of_getElem? (i := 23) rfl) rfl
theorem fd_Mo_225 : zFd "ScopeLinesModel" 225 9 31 (.int) false := ⟨R_Mo, T_Mo, 52, ck_Mo, by decide, by decide +kernel, rfl, rfl, Or.inl wf_Mo_225⟩
theorem wm_Mo_228 : Cond.methodLink "ScopeLinesModel" 228 ⟨"ScopeLinesModel", "begin", "(I)V"⟩ ∈ zGW := z_in4 (List.mem_of_getElem? (i := 220) rfl) rfl
theorem wj_Mo_begin : Cond.instanceMethod ⟨"ScopeLinesModel", "begin", "(I)V"⟩ ∈ zGW := z_in4 (List.mem_of_getElem? (i := 222) rfl) rfl
theorem ws_Mo_begin : Cond.selects m_Mo_begin.1.cls m_Mo_begin.1 m_Mo_begin.1 ∈ zGW := z_inp (q := (⟨"ScopeLinesModel", "begin", "(I)V"⟩, 52)) (List.mem_of_getElem? (i := 47) rfl)
theorem cw_Mo_tokenize_228 : zCw m_Mo_tokenize m_Mo_begin 228 0 9 1 := ⟨Or.inl wm_Mo_228, wc_Mo_begin, wn_Mo, ⟨by decide, by decide, by decide +kernel⟩, ⟨by decide, by decide⟩, (fun _ => ⟨wj_Mo_begin, ws_Mo_begin, by decide, T_Mo, 52, rfl⟩), (fun q => by cases q), (fun q => by cases q)⟩
theorem wm_Mo_232 : Cond.methodLink "ScopeLinesModel" 232 ⟨"ScopeLinesModel", "findBest", "(II)Z"⟩ ∈ zGW := z_in4 (List.mem_of_getElem? (i := 228) rfl) rfl
theorem wj_Mo_findBest : Cond.instanceMethod ⟨"ScopeLinesModel", "findBest", "(II)Z"⟩ ∈ zGW := z_in4 (List.mem_of_getElem? (i := 230) rfl) rfl
theorem ws_Mo_findBest : Cond.selects m_Mo_findBest.1.cls m_Mo_findBest.1 m_Mo_findBest.1 ∈ zGW := z_inp (q := (⟨"ScopeLinesModel", "findBest", "(II)Z"⟩, 52)) (List.mem_of_getElem? (i := 49) rfl)
theorem cw_Mo_tokenize_232 : zCw m_Mo_tokenize m_Mo_findBest 232 0 9 2 := ⟨Or.inl wm_Mo_232, wc_Mo_findBest, wn_Mo, ⟨by decide, by decide, by decide +kernel⟩, ⟨by decide, by decide⟩, (fun _ => ⟨wj_Mo_findBest, ws_Mo_findBest, by decide, T_Mo, 52, rfl⟩), (fun q => by cases q), (fun q => by cases q)⟩
theorem wm_Mo_235 : Cond.methodLink "ScopeLinesModel" 235 ⟨"ScopeLinesModel", "cutOff", "(IIII)V"⟩ ∈ zGW := z_in5 (List.mem_of_getElem? (i := 28) rfl) rfl
theorem wj_Mo_cutOff : Cond.instanceMethod ⟨"ScopeLinesModel", "cutOff", "(IIII)V"⟩ ∈ zGW := z_in5 (List.mem_of_getElem? (i := 30) rfl) rfl
theorem ws_Mo_cutOff : Cond.selects m_Mo_cutOff.1.cls m_Mo_cutOff.1 m_Mo_cutOff.1 ∈ zGW := z_inp (q := (⟨"ScopeLinesModel", "cutOff", "(IIII)V"⟩, 52)) (List.mem_of_getElem? (i := 59) rfl)
theorem cw_Mo_tokenize_235 : zCw m_Mo_tokenize m_Mo_cutOff 235 0 9 4 := ⟨Or.inl wm_Mo_235, wc_Mo_cutOff, wn_Mo, ⟨by decide, by decide, by decide +kernel⟩, ⟨by decide, by decide⟩, (fun _ => ⟨wj_Mo_cutOff, ws_Mo_cutOff, by decide, T_Mo, 52, rfl⟩), (fun q => by cases q), (fun q => by cases q)⟩
theorem wm_Mo_239 : Cond.methodLink "ScopeLinesModel" 239 ⟨"ScopeLinesModel", "openRange", "(II)V"⟩ ∈ zGW := z_in5 (List.mem_of_getElem? (i := 32) rfl) rfl
theorem wj_Mo_openRange : Cond.instanceMethod ⟨"ScopeLinesModel", "openRange", "(II)V"⟩ ∈ zGW := z_in5 (List.mem_of_getElem? (i := 34) rfl) rfl
theorem ws_Mo_openRange : Cond.selects m_Mo_openRange.1.cls m_Mo_openRange.1 m_Mo_openRange.1 ∈ zGW := z_inp (q := (⟨"ScopeLinesModel", "openRange", "(II)V"⟩, 52)) (List.mem_of_getElem? (i := 60) rfl)
theorem cw_Mo_tokenize_239 : zCw m_Mo_tokenize m_Mo_openRange 239 0 9 2 := ⟨Or.inl wm_Mo_239, wc_Mo_openRange, wn_Mo, ⟨by decide, by decide, by decide +kernel⟩, ⟨by decide, by decide⟩, (fun _ => ⟨wj_Mo_openRange, ws_Mo_openRange, by decide, T_Mo, 52, rfl⟩), (fun q => by cases q), (fun q => by cases q)⟩
theorem cw_Mo_tokenize_200 : zCw m_Mo_tokenize m_Mo_copyState 200 0 9 2 := ⟨Or.inl wm_Mo_200, wc_Mo_copyState, wn_Mo, ⟨by decide, by decide, by decide +kernel⟩, ⟨by decide, by decide⟩, (fun _ => ⟨wj_Mo_copyState, ws_Mo_copyState, by decide, T_Mo, 52, rfl⟩), (fun q => by cases q), (fun q => by cases q)⟩
theorem wf_Mo_242 : Cond.fieldLink "ScopeLinesModel" 242 "ScopeLinesModel" "lines" "I" ∈ zGW := z_in4 (List.mem_of_getElem? (i := 22) rfl) rfl
theorem fd_Mo_242 : zFd "ScopeLinesModel" 242 9 30 (.int) false := ⟨R_Mo, T_Mo, 52, ck_Mo, by decide, by decide +kernel, rfl, rfl, Or.inl wf_Mo_242⟩
theorem cw_Mo_refresh_200 : zCw m_Mo_refresh m_Mo_copyState 200 0 9 2 := ⟨Or.inl wm_Mo_200, wc_Mo_copyState, wn_Mo, ⟨by decide, by decide, by decide +kernel⟩, ⟨by decide, by decide⟩, (fun _ => ⟨wj_Mo_copyState, ws_Mo_copyState, by decide, T_Mo, 52, rfl⟩), (fun q => by cases q), (fun q => by cases q)⟩
theorem wm_Mo_245 : Cond.methodLink "ScopeLinesModel" 245 ⟨"ScopeLinesModel", "tokenize", "(I)V"⟩ ∈ zGW := z_in4 (List.mem_of_getElem? (i := 216) rfl) rfl
theorem wj_Mo_tokenize : Cond.instanceMethod ⟨"ScopeLinesModel", "tokenize", "(I)V"⟩ ∈ zGW := z_in4 (List.mem_of_getElem? (i := 218) rfl) rfl
theorem ws_Mo_tokenize : Cond.selects m_Mo_tokenize.1.cls m_Mo_tokenize.1 m_Mo_tokenize.1 ∈ zGW := z_inp (q := (⟨"ScopeLinesModel", "tokenize", "(I)V"⟩, 52)) (List.mem_of_getElem? (i := 46) rfl)
theorem cw_Mo_refresh_245 : zCw m_Mo_refresh m_Mo_tokenize 245 0 9 1 := ⟨Or.inl wm_Mo_245, wc_Mo_tokenize, wn_Mo, ⟨by decide, by decide, by decide +kernel⟩, ⟨by decide, by decide⟩, (fun _ => ⟨wj_Mo_tokenize, ws_Mo_tokenize, by decide, T_Mo, 52, rfl⟩), (fun q => by cases q), (fun q => by cases q)⟩
theorem wm_Mo_248 : Cond.methodLink "ScopeLinesModel" 248 ⟨"ScopeLinesModel", "sameState", "(II)Z"⟩ ∈ zGW := z_in5 (List.mem_of_getElem? (i := 56) rfl) rfl
theorem wj_Mo_sameState : Cond.instanceMethod ⟨"ScopeLinesModel", "sameState", "(II)Z"⟩ ∈ zGW := z_in5 (List.mem_of_getElem? (i := 58) rfl) rfl
theorem ws_Mo_sameState : Cond.selects m_Mo_sameState.1.cls m_Mo_sameState.1 m_Mo_sameState.1 ∈ zGW := z_inp (q := (⟨"ScopeLinesModel", "sameState", "(II)Z"⟩, 52)) (List.mem_of_getElem? (i := 62) rfl)
theorem cw_Mo_refresh_248 : zCw m_Mo_refresh m_Mo_sameState 248 0 9 2 := ⟨Or.inl wm_Mo_248, wc_Mo_sameState, wn_Mo, ⟨by decide, by decide, by decide +kernel⟩, ⟨by decide, by decide⟩, (fun _ => ⟨wj_Mo_sameState, ws_Mo_sameState, by decide, T_Mo, 52, rfl⟩), (fun q => by cases q), (fun q => by cases q)⟩
theorem cw_Mo_refreshAll_245 : zCw m_Mo_refreshAll m_Mo_tokenize 245 0 9 1 := ⟨Or.inl wm_Mo_245, wc_Mo_tokenize, wn_Mo, ⟨by decide, by decide, by decide +kernel⟩, ⟨by decide, by decide⟩, (fun _ => ⟨wj_Mo_tokenize, ws_Mo_tokenize, by decide, T_Mo, 52, rfl⟩), (fun q => by cases q), (fun q => by cases q)⟩
theorem wm_Mo_251 : Cond.methodLink "ScopeLinesModel" 251 ⟨"ScopeLinesModel", "lift", "(III)V"⟩ ∈ zGW := z_in4 (List.mem_of_getElem? (i := 169) rfl) rfl
theorem wj_Mo_lift : Cond.instanceMethod ⟨"ScopeLinesModel", "lift", "(III)V"⟩ ∈ zGW := z_in4 (List.mem_of_getElem? (i := 171) rfl) rfl
theorem ws_Mo_lift : Cond.selects m_Mo_lift.1.cls m_Mo_lift.1 m_Mo_lift.1 ∈ zGW := z_inp (q := (⟨"ScopeLinesModel", "lift", "(III)V"⟩, 52)) (List.mem_of_getElem? (i := 35) rfl)
theorem cw_Mo_isPattern_251 : zCw m_Mo_isPattern m_Mo_lift 251 0 9 3 := ⟨Or.inl wm_Mo_251, wc_Mo_lift, wn_Mo, ⟨by decide, by decide, by decide +kernel⟩, ⟨by decide, by decide⟩, (fun _ => ⟨wj_Mo_lift, ws_Mo_lift, by decide, T_Mo, 52, rfl⟩), (fun q => by cases q), (fun q => by cases q)⟩
theorem wm_Mo_254 : Cond.methodLink "ScopeLinesModel" 254 ⟨"ScopeLinesModel", "parse", "(IZ)Z"⟩ ∈ zGW := z_in4 (List.mem_of_getElem? (i := 173) rfl) rfl
theorem wj_Mo_parse : Cond.instanceMethod ⟨"ScopeLinesModel", "parse", "(IZ)Z"⟩ ∈ zGW := z_in4 (List.mem_of_getElem? (i := 175) rfl) rfl
theorem ws_Mo_parse : Cond.selects m_Mo_parse.1.cls m_Mo_parse.1 m_Mo_parse.1 ∈ zGW := z_inp (q := (⟨"ScopeLinesModel", "parse", "(IZ)Z"⟩, 52)) (List.mem_of_getElem? (i := 36) rfl)
theorem cw_Mo_isPattern_254 : zCw m_Mo_isPattern m_Mo_parse 254 0 9 2 := ⟨Or.inl wm_Mo_254, wc_Mo_parse, wn_Mo, ⟨by decide, by decide, by decide +kernel⟩, ⟨by decide, by decide⟩, (fun _ => ⟨wj_Mo_parse, ws_Mo_parse, by decide, T_Mo, 52, rfl⟩), (fun q => by cases q), (fun q => by cases q)⟩
theorem cw_Mo_make_251 : zCw m_Mo_make m_Mo_lift 251 0 9 3 := ⟨Or.inl wm_Mo_251, wc_Mo_lift, wn_Mo, ⟨by decide, by decide, by decide +kernel⟩, ⟨by decide, by decide⟩, (fun _ => ⟨wj_Mo_lift, ws_Mo_lift, by decide, T_Mo, 52, rfl⟩), (fun q => by cases q), (fun q => by cases q)⟩
theorem cw_Mo_make_254 : zCw m_Mo_make m_Mo_parse 254 0 9 2 := ⟨Or.inl wm_Mo_254, wc_Mo_parse, wn_Mo, ⟨by decide, by decide, by decide +kernel⟩, ⟨by decide, by decide⟩, (fun _ => ⟨wj_Mo_parse, ws_Mo_parse, by decide, T_Mo, 52, rfl⟩), (fun q => by cases q), (fun q => by cases q)⟩
theorem wm_Mo_258 : Cond.methodLink "ScopeLinesModel" 258 ⟨"ScopeLinesModel", "refreshAll", "()V"⟩ ∈ zGW := z_in4 (List.mem_of_getElem? (i := 212) rfl) rfl
theorem wj_Mo_refreshAll : Cond.instanceMethod ⟨"ScopeLinesModel", "refreshAll", "()V"⟩ ∈ zGW := z_in4 (List.mem_of_getElem? (i := 214) rfl) rfl
theorem ws_Mo_refreshAll : Cond.selects m_Mo_refreshAll.1.cls m_Mo_refreshAll.1 m_Mo_refreshAll.1 ∈ zGW := z_inp (q := (⟨"ScopeLinesModel", "refreshAll", "()V"⟩, 52)) (List.mem_of_getElem? (i := 45) rfl)
theorem cw_Mo_make_258 : zCw m_Mo_make m_Mo_refreshAll 258 0 9 0 := ⟨Or.inl wm_Mo_258, wc_Mo_refreshAll, wn_Mo, ⟨by decide, by decide, by decide +kernel⟩, ⟨by decide, by decide⟩, (fun _ => ⟨wj_Mo_refreshAll, ws_Mo_refreshAll, by decide, T_Mo, 52, rfl⟩), (fun q => by cases q), (fun q => by cases q)⟩
theorem wm_Mo_261 : Cond.methodLink "ScopeLinesModel" 261 ⟨"ScopeLinesModel", "isRangeNumber", "(I)Z"⟩ ∈ zGW := z_in4 (List.mem_of_getElem? (i := 161) rfl) rfl
theorem wj_Mo_isRangeNumber : Cond.instanceMethod ⟨"ScopeLinesModel", "isRangeNumber", "(I)Z"⟩ ∈ zGW := z_in4 (List.mem_of_getElem? (i := 163) rfl) rfl
theorem ws_Mo_isRangeNumber : Cond.selects m_Mo_isRangeNumber.1.cls m_Mo_isRangeNumber.1 m_Mo_isRangeNumber.1 ∈ zGW := z_inp (q := (⟨"ScopeLinesModel", "isRangeNumber", "(I)Z"⟩, 52)) (List.mem_of_getElem? (i := 33) rfl)
theorem cw_Mo_piece_261 : zCw m_Mo_piece m_Mo_isRangeNumber 261 0 9 1 := ⟨Or.inl wm_Mo_261, wc_Mo_isRangeNumber, wn_Mo, ⟨by decide, by decide, by decide +kernel⟩, ⟨by decide, by decide⟩, (fun _ => ⟨wj_Mo_isRangeNumber, ws_Mo_isRangeNumber, by decide, T_Mo, 52, rfl⟩), (fun q => by cases q), (fun q => by cases q)⟩
theorem wm_Mo_264 : Cond.methodLink "ScopeLinesModel" 264 ⟨"ScopeLinesModel", "isPattern", "(IIZ)Z"⟩ ∈ zGW := z_in4 (List.mem_of_getElem? (i := 165) rfl) rfl
theorem wj_Mo_isPattern : Cond.instanceMethod ⟨"ScopeLinesModel", "isPattern", "(IIZ)Z"⟩ ∈ zGW := z_in4 (List.mem_of_getElem? (i := 167) rfl) rfl
theorem ws_Mo_isPattern : Cond.selects m_Mo_isPattern.1.cls m_Mo_isPattern.1 m_Mo_isPattern.1 ∈ zGW := z_inp (q := (⟨"ScopeLinesModel", "isPattern", "(IIZ)Z"⟩, 52)) (List.mem_of_getElem? (i := 34) rfl)
theorem cw_Mo_piece_264 : zCw m_Mo_piece m_Mo_isPattern 264 0 9 3 := ⟨Or.inl wm_Mo_264, wc_Mo_isPattern, wn_Mo, ⟨by decide, by decide, by decide +kernel⟩, ⟨by decide, by decide⟩, (fun _ => ⟨wj_Mo_isPattern, ws_Mo_isPattern, by decide, T_Mo, 52, rfl⟩), (fun q => by cases q), (fun q => by cases q)⟩
theorem wm_Mo_268 : Cond.methodLink "ScopeLinesModel" 268 ⟨"ScopeLinesModel", "make", "(IIZI)I"⟩ ∈ zGW := z_in4 (List.mem_of_getElem? (i := 208) rfl) rfl
theorem wj_Mo_make : Cond.instanceMethod ⟨"ScopeLinesModel", "make", "(IIZI)I"⟩ ∈ zGW := z_in4 (List.mem_of_getElem? (i := 210) rfl) rfl
theorem ws_Mo_make : Cond.selects m_Mo_make.1.cls m_Mo_make.1 m_Mo_make.1 ∈ zGW := z_inp (q := (⟨"ScopeLinesModel", "make", "(IIZI)I"⟩, 52)) (List.mem_of_getElem? (i := 44) rfl)
theorem cw_Mo_piece_268 : zCw m_Mo_piece m_Mo_make 268 0 9 4 := ⟨Or.inl wm_Mo_268, wc_Mo_make, wn_Mo, ⟨by decide, by decide, by decide +kernel⟩, ⟨by decide, by decide⟩, (fun _ => ⟨wj_Mo_make, ws_Mo_make, by decide, T_Mo, 52, rfl⟩), (fun q => by cases q), (fun q => by cases q)⟩
theorem cw_Mo_range_261 : zCw m_Mo_range m_Mo_isRangeNumber 261 0 9 1 := ⟨Or.inl wm_Mo_261, wc_Mo_isRangeNumber, wn_Mo, ⟨by decide, by decide, by decide +kernel⟩, ⟨by decide, by decide⟩, (fun _ => ⟨wj_Mo_isRangeNumber, ws_Mo_isRangeNumber, by decide, T_Mo, 52, rfl⟩), (fun q => by cases q), (fun q => by cases q)⟩
theorem cw_Mo_range_264 : zCw m_Mo_range m_Mo_isPattern 264 0 9 3 := ⟨Or.inl wm_Mo_264, wc_Mo_isPattern, wn_Mo, ⟨by decide, by decide, by decide +kernel⟩, ⟨by decide, by decide⟩, (fun _ => ⟨wj_Mo_isPattern, ws_Mo_isPattern, by decide, T_Mo, 52, rfl⟩), (fun q => by cases q), (fun q => by cases q)⟩
theorem cw_Mo_range_268 : zCw m_Mo_range m_Mo_make 268 0 9 4 := ⟨Or.inl wm_Mo_268, wc_Mo_make, wn_Mo, ⟨by decide, by decide, by decide +kernel⟩, ⟨by decide, by decide⟩, (fun _ => ⟨wj_Mo_make, ws_Mo_make, by decide, T_Mo, 52, rfl⟩), (fun q => by cases q), (fun q => by cases q)⟩
theorem cw_Mo_include_261 : zCw m_Mo_include m_Mo_isRangeNumber 261 0 9 1 := ⟨Or.inl wm_Mo_261, wc_Mo_isRangeNumber, wn_Mo, ⟨by decide, by decide, by decide +kernel⟩, ⟨by decide, by decide⟩, (fun _ => ⟨wj_Mo_isRangeNumber, ws_Mo_isRangeNumber, by decide, T_Mo, 52, rfl⟩), (fun q => by cases q), (fun q => by cases q)⟩
theorem cw_Mo_include_258 : zCw m_Mo_include m_Mo_refreshAll 258 0 9 0 := ⟨Or.inl wm_Mo_258, wc_Mo_refreshAll, wn_Mo, ⟨by decide, by decide, by decide +kernel⟩, ⟨by decide, by decide⟩, (fun _ => ⟨wj_Mo_refreshAll, ws_Mo_refreshAll, by decide, T_Mo, 52, rfl⟩), (fun q => by cases q), (fun q => by cases q)⟩
theorem wf_Mo_272 : Cond.fieldLink "ScopeLinesModel" 272 "ScopeLinesModel" "entries" "I" ∈ zGW := z_in4 (List.mem_of_getElem? (i := 40) rfl) rfl
theorem fd_Mo_272 : zFd "ScopeLinesModel" 272 9 48 (.int) false := ⟨R_Mo, T_Mo, 52, ck_Mo, by decide, by decide +kernel, rfl, rfl, Or.inl wf_Mo_272⟩
theorem wm_Mo_275 : Cond.methodLink "ScopeLinesModel" 275 ⟨"ScopeLinesModel", "refresh", "(I)I"⟩ ∈ zGW := z_in5 (List.mem_of_getElem? (i := 52) rfl) rfl
theorem wj_Mo_refresh : Cond.instanceMethod ⟨"ScopeLinesModel", "refresh", "(I)I"⟩ ∈ zGW := z_in5 (List.mem_of_getElem? (i := 54) rfl) rfl
theorem ws_Mo_refresh : Cond.selects m_Mo_refresh.1.cls m_Mo_refresh.1 m_Mo_refresh.1 ∈ zGW := z_inp (q := (⟨"ScopeLinesModel", "refresh", "(I)I"⟩, 52)) (List.mem_of_getElem? (i := 61) rfl)
theorem cw_Mo_put_275 : zCw m_Mo_put m_Mo_refresh 275 0 9 1 := ⟨Or.inl wm_Mo_275, wc_Mo_refresh, wn_Mo, ⟨by decide, by decide, by decide +kernel⟩, ⟨by decide, by decide⟩, (fun _ => ⟨wj_Mo_refresh, ws_Mo_refresh, by decide, T_Mo, 52, rfl⟩), (fun q => by cases q), (fun q => by cases q)⟩
theorem cw_Mo_drop_200 : zCw m_Mo_drop m_Mo_copyState 200 0 9 2 := ⟨Or.inl wm_Mo_200, wc_Mo_copyState, wn_Mo, ⟨by decide, by decide, by decide +kernel⟩, ⟨by decide, by decide⟩, (fun _ => ⟨wj_Mo_copyState, ws_Mo_copyState, by decide, T_Mo, 52, rfl⟩), (fun q => by cases q), (fun q => by cases q)⟩
theorem cw_Mo_drop_275 : zCw m_Mo_drop m_Mo_refresh 275 0 9 1 := ⟨Or.inl wm_Mo_275, wc_Mo_refresh, wn_Mo, ⟨by decide, by decide, by decide +kernel⟩, ⟨by decide, by decide⟩, (fun _ => ⟨wj_Mo_refresh, ws_Mo_refresh, by decide, T_Mo, 52, rfl⟩), (fun q => by cases q), (fun q => by cases q)⟩
theorem wm_Mo_279 : Cond.methodLink "ScopeLinesModel" 279 ⟨"ScopeLinesModel", "isLine", "(I)Z"⟩ ∈ zGW := z_in5 (List.mem_of_getElem? (i := 76) rfl) rfl
theorem wj_Mo_isLine : Cond.instanceMethod ⟨"ScopeLinesModel", "isLine", "(I)Z"⟩ ∈ zGW := z_in5 (List.mem_of_getElem? (i := 78) rfl) rfl
theorem ws_Mo_isLine : Cond.selects m_Mo_isLine.1.cls m_Mo_isLine.1 m_Mo_isLine.1 ∈ zGW := z_inp (q := (⟨"ScopeLinesModel", "isLine", "(I)Z"⟩, 52)) (List.mem_of_getElem? (i := 63) rfl)
theorem cw_Mo_length_279 : zCw m_Mo_length m_Mo_isLine 279 0 9 1 := ⟨Or.inl wm_Mo_279, wc_Mo_isLine, wn_Mo, ⟨by decide, by decide, by decide +kernel⟩, ⟨by decide, by decide⟩, (fun _ => ⟨wj_Mo_isLine, ws_Mo_isLine, by decide, T_Mo, 52, rfl⟩), (fun q => by cases q), (fun q => by cases q)⟩
theorem cw_Mo_tokens_279 : zCw m_Mo_tokens m_Mo_isLine 279 0 9 1 := ⟨Or.inl wm_Mo_279, wc_Mo_isLine, wn_Mo, ⟨by decide, by decide, by decide +kernel⟩, ⟨by decide, by decide⟩, (fun _ => ⟨wj_Mo_isLine, ws_Mo_isLine, by decide, T_Mo, 52, rfl⟩), (fun q => by cases q), (fun q => by cases q)⟩
theorem wm_Mo_282 : Cond.methodLink "ScopeLinesModel" 282 ⟨"ScopeLinesModel", "entry", "(IIZ)I"⟩ ∈ zGW := z_in5 (List.mem_of_getElem? (i := 92) rfl) rfl
theorem wj_Mo_entry : Cond.instanceMethod ⟨"ScopeLinesModel", "entry", "(IIZ)I"⟩ ∈ zGW := z_in5 (List.mem_of_getElem? (i := 94) rfl) rfl
theorem ws_Mo_entry : Cond.selects m_Mo_entry.1.cls m_Mo_entry.1 m_Mo_entry.1 ∈ zGW := z_inp (q := (⟨"ScopeLinesModel", "entry", "(IIZ)I"⟩, 52)) (List.mem_of_getElem? (i := 65) rfl)
theorem cw_Mo_colour_282 : zCw m_Mo_colour m_Mo_entry 282 0 9 3 := ⟨Or.inl wm_Mo_282, wc_Mo_entry, wn_Mo, ⟨by decide, by decide, by decide +kernel⟩, ⟨by decide, by decide⟩, (fun _ => ⟨wj_Mo_entry, ws_Mo_entry, by decide, T_Mo, 52, rfl⟩), (fun q => by cases q), (fun q => by cases q)⟩
theorem cw_Mo_token_279 : zCw m_Mo_token m_Mo_isLine 279 0 9 1 := ⟨Or.inl wm_Mo_279, wc_Mo_isLine, wn_Mo, ⟨by decide, by decide, by decide +kernel⟩, ⟨by decide, by decide⟩, (fun _ => ⟨wj_Mo_isLine, ws_Mo_isLine, by decide, T_Mo, 52, rfl⟩), (fun q => by cases q), (fun q => by cases q)⟩
theorem wm_Mo_285 : Cond.methodLink "ScopeLinesModel" 285 ⟨"ScopeLinesModel", "colour", "(I)I"⟩ ∈ zGW := z_in5 (List.mem_of_getElem? (i := 88) rfl) rfl
theorem wj_Mo_colour : Cond.instanceMethod ⟨"ScopeLinesModel", "colour", "(I)I"⟩ ∈ zGW := z_in5 (List.mem_of_getElem? (i := 90) rfl) rfl
theorem ws_Mo_colour : Cond.selects m_Mo_colour.1.cls m_Mo_colour.1 m_Mo_colour.1 ∈ zGW := z_inp (q := (⟨"ScopeLinesModel", "colour", "(I)I"⟩, 52)) (List.mem_of_getElem? (i := 64) rfl)
theorem cw_Mo_token_285 : zCw m_Mo_token m_Mo_colour 285 0 9 1 := ⟨Or.inl wm_Mo_285, wc_Mo_colour, wn_Mo, ⟨by decide, by decide, by decide +kernel⟩, ⟨by decide, by decide⟩, (fun _ => ⟨wj_Mo_colour, ws_Mo_colour, by decide, T_Mo, 52, rfl⟩), (fun q => by cases q), (fun q => by cases q)⟩
theorem cw_Mo_marked_279 : zCw m_Mo_marked m_Mo_isLine 279 0 9 1 := ⟨Or.inl wm_Mo_279, wc_Mo_isLine, wn_Mo, ⟨by decide, by decide, by decide +kernel⟩, ⟨by decide, by decide⟩, (fun _ => ⟨wj_Mo_isLine, ws_Mo_isLine, by decide, T_Mo, 52, rfl⟩), (fun q => by cases q), (fun q => by cases q)⟩
theorem cw_Mo_state_279 : zCw m_Mo_state m_Mo_isLine 279 0 9 1 := ⟨Or.inl wm_Mo_279, wc_Mo_isLine, wn_Mo, ⟨by decide, by decide, by decide +kernel⟩, ⟨by decide, by decide⟩, (fun _ => ⟨wj_Mo_isLine, ws_Mo_isLine, by decide, T_Mo, 52, rfl⟩), (fun q => by cases q), (fun q => by cases q)⟩
theorem cw_Mo_text_279 : zCw m_Mo_text m_Mo_isLine 279 0 9 1 := ⟨Or.inl wm_Mo_279, wc_Mo_isLine, wn_Mo, ⟨by decide, by decide, by decide +kernel⟩, ⟨by decide, by decide⟩, (fun _ => ⟨wj_Mo_isLine, ws_Mo_isLine, by decide, T_Mo, 52, rfl⟩), (fun q => by cases q), (fun q => by cases q)⟩
theorem cw_Mo_find_279 : zCw m_Mo_find m_Mo_isLine 279 0 9 1 := ⟨Or.inl wm_Mo_279, wc_Mo_isLine, wn_Mo, ⟨by decide, by decide, by decide +kernel⟩, ⟨by decide, by decide⟩, (fun _ => ⟨wj_Mo_isLine, ws_Mo_isLine, by decide, T_Mo, 52, rfl⟩), (fun q => by cases q), (fun q => by cases q)⟩
theorem cw_Mo_find_216 : zCw m_Mo_find m_Mo_search 216 0 9 3 := ⟨Or.inl wm_Mo_216, wc_Mo_search, wn_Mo, ⟨by decide, by decide, by decide +kernel⟩, ⟨by decide, by decide⟩, (fun _ => ⟨wj_Mo_search, ws_Mo_search, by decide, T_Mo, 52, rfl⟩), (fun q => by cases q), (fun q => by cases q)⟩
theorem wk_Lw_7 : Cond.classLink "ScopeLinesLaw" 7 "ScopeLines" ∈ zGW := z_in1 (List.mem_of_getElem? (i := 14) rfl) rfl
theorem wi_SL : Cond.instantiable "ScopeLines" 10 ∈ zGW := z_in1 (List.mem_of_getElem? (i := 15) rfl) rfl
theorem nw_Lw_7 : zNw "ScopeLinesLaw" 7 0 10 := ⟨R_SL, T_SL, ck_SL, df_SL, wk_Lw_7, wi_SL, wn_SL⟩
theorem wm_Lw_9 : Cond.methodLink "ScopeLinesLaw" 9 ⟨"ScopeLinesLaw", "cell", "([II)I"⟩ ∈ zGW := z_in3 (List.mem_of_getElem? (i := 223) rfl) rfl
theorem wn_Lw : Cond.initialized "ScopeLinesLaw" ∈ zGW := z_in1 (List.mem_of_getElem? (i := 0) rfl) rfl
theorem wt_Lw_cell : Cond.static ⟨"ScopeLinesLaw", "cell", "([II)I"⟩ ∈ zGW := z_in3 (List.mem_of_getElem? (i := 224) rfl) rfl
theorem cw_Lw_law_9 : zCw m_Lw_law m_Lw_cell 9 1 0 2 := ⟨Or.inl wm_Lw_9, wc_Lw_cell, wn_Lw, ⟨by decide, by decide, by decide +kernel⟩, ⟨by decide, by decide⟩, (fun q => by cases q), (fun _ => wt_Lw_cell), (fun q => by cases q)⟩
theorem wm_Lw_15 : Cond.methodLink "ScopeLinesLaw" 15 ⟨"ScopeLines", "<init>", "(I)V"⟩ ∈ zGW := z_in1 (List.mem_of_getElem? (i := 16) rfl) rfl
theorem wj_SL_init : Cond.instanceMethod ⟨"ScopeLines", "<init>", "(I)V"⟩ ∈ zGW := z_in1 (List.mem_of_getElem? (i := 17) rfl) rfl
theorem cw_Lw_law_15 : zCw m_Lw_law m_SL_init 15 2 0 1 := ⟨Or.inl wm_Lw_15, wc_SL_init, wn_SL, ⟨by decide, by decide, by decide +kernel⟩, ⟨by decide, by decide⟩, (fun q => by cases q), (fun q => by cases q), (fun _ => ⟨rfl, rfl, wj_SL_init⟩)⟩
theorem wk_Lw_18 : Cond.classLink "ScopeLinesLaw" 18 "ScopeLinesModel" ∈ zGW := z_in3 (List.mem_of_getElem? (i := 226) rfl) rfl
theorem wi_Mo : Cond.instantiable "ScopeLinesModel" 52 ∈ zGW := z_in3 (List.mem_of_getElem? (i := 227) rfl) rfl
theorem nw_Lw_18 : zNw "ScopeLinesLaw" 18 9 52 := ⟨R_Mo, T_Mo, ck_Mo, df_Mo, wk_Lw_18, wi_Mo, wn_Mo⟩
theorem wm_Lw_20 : Cond.methodLink "ScopeLinesLaw" 20 ⟨"ScopeLinesModel", "<init>", "(I)V"⟩ ∈ zGW := z_in3 (List.mem_of_getElem? (i := 228) rfl) rfl
theorem wj_Mo_init : Cond.instanceMethod ⟨"ScopeLinesModel", "<init>", "(I)V"⟩ ∈ zGW := z_in3 (List.mem_of_getElem? (i := 229) rfl) rfl
theorem cw_Lw_law_20 : zCw m_Lw_law m_Mo_init 20 2 0 1 := ⟨Or.inl wm_Lw_20, wc_Mo_init, wn_Mo, ⟨by decide, by decide, by decide +kernel⟩, ⟨by decide, by decide⟩, (fun q => by cases q), (fun q => by cases q), (fun _ => ⟨rfl, rfl, wj_Mo_init⟩)⟩
theorem w_Lw_21 : Cond.constantLong "ScopeLinesLaw" 21 (Int64.ofInt (4294967295)) ∈ zGW := z_in5 (List.mem_of_getElem? (i := 112) rfl) rfl
theorem wm_Lw_23 : Cond.methodLink "ScopeLinesLaw" 23 ⟨"ScopeLines", "type", "(J)Z"⟩ ∈ zGW := z_in2 (List.mem_of_getElem? (i := 125) rfl) rfl
theorem wj_SL_type : Cond.instanceMethod ⟨"ScopeLines", "type", "(J)Z"⟩ ∈ zGW := z_in2 (List.mem_of_getElem? (i := 126) rfl) rfl
theorem ws_SL_type : Cond.selects m_SL_type.1.cls m_SL_type.1 m_SL_type.1 ∈ zGW := z_in2 (List.mem_of_getElem? (i := 127) rfl) rfl
theorem cw_Lw_law_23 : zCw m_Lw_law m_SL_type 23 0 0 1 := ⟨Or.inl wm_Lw_23, wc_SL_type, wn_SL, ⟨by decide, by decide, by decide +kernel⟩, ⟨by decide, by decide⟩, (fun _ => ⟨wj_SL_type, ws_SL_type, by decide, T_SL, 10, rfl⟩), (fun q => by cases q), (fun q => by cases q)⟩
theorem wm_Lw_27 : Cond.methodLink "ScopeLinesLaw" 27 ⟨"ScopeLinesModel", "type", "(J)Z"⟩ ∈ zGW := z_in4 (List.mem_of_getElem? (i := 149) rfl) rfl
theorem wj_Mo_type : Cond.instanceMethod ⟨"ScopeLinesModel", "type", "(J)Z"⟩ ∈ zGW := z_in4 (List.mem_of_getElem? (i := 150) rfl) rfl
theorem ws_Mo_type : Cond.selects m_Mo_type.1.cls m_Mo_type.1 m_Mo_type.1 ∈ zGW := z_in4 (List.mem_of_getElem? (i := 151) rfl) rfl
theorem cw_Lw_law_27 : zCw m_Lw_law m_Mo_type 27 0 9 1 := ⟨Or.inl wm_Lw_27, wc_Mo_type, wn_Mo, ⟨by decide, by decide, by decide +kernel⟩, ⟨by decide, by decide⟩, (fun _ => ⟨wj_Mo_type, ws_Mo_type, by decide, T_Mo, 52, rfl⟩), (fun q => by cases q), (fun q => by cases q)⟩
theorem wm_Lw_28 : Cond.methodLink "ScopeLinesLaw" 28 ⟨"ScopeLines", "wipe", "()V"⟩ ∈ zGW := z_in2 (List.mem_of_getElem? (i := 129) rfl) rfl
theorem wj_SL_wipe : Cond.instanceMethod ⟨"ScopeLines", "wipe", "()V"⟩ ∈ zGW := z_in2 (List.mem_of_getElem? (i := 130) rfl) rfl
theorem ws_SL_wipe : Cond.selects m_SL_wipe.1.cls m_SL_wipe.1 m_SL_wipe.1 ∈ zGW := z_in2 (List.mem_of_getElem? (i := 131) rfl) rfl
theorem cw_Lw_law_28 : zCw m_Lw_law m_SL_wipe 28 0 0 0 := ⟨Or.inl wm_Lw_28, wc_SL_wipe, wn_SL, ⟨by decide, by decide, by decide +kernel⟩, ⟨by decide, by decide⟩, (fun _ => ⟨wj_SL_wipe, ws_SL_wipe, by decide, T_SL, 10, rfl⟩), (fun q => by cases q), (fun q => by cases q)⟩
theorem wm_Lw_31 : Cond.methodLink "ScopeLinesLaw" 31 ⟨"ScopeLinesModel", "wipe", "()V"⟩ ∈ zGW := z_in4 (List.mem_of_getElem? (i := 153) rfl) rfl
theorem wj_Mo_wipe : Cond.instanceMethod ⟨"ScopeLinesModel", "wipe", "()V"⟩ ∈ zGW := z_in4 (List.mem_of_getElem? (i := 154) rfl) rfl
theorem ws_Mo_wipe : Cond.selects m_Mo_wipe.1.cls m_Mo_wipe.1 m_Mo_wipe.1 ∈ zGW := z_in4 (List.mem_of_getElem? (i := 155) rfl) rfl
theorem cw_Lw_law_31 : zCw m_Lw_law m_Mo_wipe 31 0 9 0 := ⟨Or.inl wm_Lw_31, wc_Mo_wipe, wn_Mo, ⟨by decide, by decide, by decide +kernel⟩, ⟨by decide, by decide⟩, (fun _ => ⟨wj_Mo_wipe, ws_Mo_wipe, by decide, T_Mo, 52, rfl⟩), (fun q => by cases q), (fun q => by cases q)⟩
theorem wm_Lw_32 : Cond.methodLink "ScopeLinesLaw" 32 ⟨"ScopeLines", "piece", "(II)I"⟩ ∈ zGW := z_in2 (List.mem_of_getElem? (i := 133) rfl) rfl
theorem wj_SL_piece : Cond.instanceMethod ⟨"ScopeLines", "piece", "(II)I"⟩ ∈ zGW := z_in2 (List.mem_of_getElem? (i := 134) rfl) rfl
theorem ws_SL_piece : Cond.selects m_SL_piece.1.cls m_SL_piece.1 m_SL_piece.1 ∈ zGW := z_in2 (List.mem_of_getElem? (i := 135) rfl) rfl
theorem cw_Lw_law_32 : zCw m_Lw_law m_SL_piece 32 0 0 2 := ⟨Or.inl wm_Lw_32, wc_SL_piece, wn_SL, ⟨by decide, by decide, by decide +kernel⟩, ⟨by decide, by decide⟩, (fun _ => ⟨wj_SL_piece, ws_SL_piece, by decide, T_SL, 10, rfl⟩), (fun q => by cases q), (fun q => by cases q)⟩
theorem wm_Lw_36 : Cond.methodLink "ScopeLinesLaw" 36 ⟨"ScopeLinesModel", "piece", "(II)I"⟩ ∈ zGW := z_in4 (List.mem_of_getElem? (i := 157) rfl) rfl
theorem wj_Mo_piece : Cond.instanceMethod ⟨"ScopeLinesModel", "piece", "(II)I"⟩ ∈ zGW := z_in4 (List.mem_of_getElem? (i := 158) rfl) rfl
theorem ws_Mo_piece : Cond.selects m_Mo_piece.1.cls m_Mo_piece.1 m_Mo_piece.1 ∈ zGW := z_in4 (List.mem_of_getElem? (i := 159) rfl) rfl
theorem cw_Lw_law_36 : zCw m_Lw_law m_Mo_piece 36 0 9 2 := ⟨Or.inl wm_Lw_36, wc_Mo_piece, wn_Mo, ⟨by decide, by decide, by decide +kernel⟩, ⟨by decide, by decide⟩, (fun _ => ⟨wj_Mo_piece, ws_Mo_piece, by decide, T_Mo, 52, rfl⟩), (fun q => by cases q), (fun q => by cases q)⟩
theorem wm_Lw_37 : Cond.methodLink "ScopeLinesLaw" 37 ⟨"ScopeLines", "range", "(II)I"⟩ ∈ zGW := z_in3 (List.mem_of_getElem? (i := 124) rfl) rfl
theorem wj_SL_range : Cond.instanceMethod ⟨"ScopeLines", "range", "(II)I"⟩ ∈ zGW := z_in3 (List.mem_of_getElem? (i := 125) rfl) rfl
theorem ws_SL_range : Cond.selects m_SL_range.1.cls m_SL_range.1 m_SL_range.1 ∈ zGW := z_in3 (List.mem_of_getElem? (i := 126) rfl) rfl
theorem cw_Lw_law_37 : zCw m_Lw_law m_SL_range 37 0 0 2 := ⟨Or.inl wm_Lw_37, wc_SL_range, wn_SL, ⟨by decide, by decide, by decide +kernel⟩, ⟨by decide, by decide⟩, (fun _ => ⟨wj_SL_range, ws_SL_range, by decide, T_SL, 10, rfl⟩), (fun q => by cases q), (fun q => by cases q)⟩
theorem wm_Lw_40 : Cond.methodLink "ScopeLinesLaw" 40 ⟨"ScopeLinesModel", "range", "(II)I"⟩ ∈ zGW := z_in5 (List.mem_of_getElem? (i := 36) rfl) rfl
theorem wj_Mo_range : Cond.instanceMethod ⟨"ScopeLinesModel", "range", "(II)I"⟩ ∈ zGW := z_in5 (List.mem_of_getElem? (i := 37) rfl) rfl
theorem ws_Mo_range : Cond.selects m_Mo_range.1.cls m_Mo_range.1 m_Mo_range.1 ∈ zGW := z_in5 (List.mem_of_getElem? (i := 38) rfl) rfl
theorem cw_Lw_law_40 : zCw m_Lw_law m_Mo_range 40 0 9 2 := ⟨Or.inl wm_Lw_40, wc_Mo_range, wn_Mo, ⟨by decide, by decide, by decide +kernel⟩, ⟨by decide, by decide⟩, (fun _ => ⟨wj_Mo_range, ws_Mo_range, by decide, T_Mo, 52, rfl⟩), (fun q => by cases q), (fun q => by cases q)⟩
theorem wm_Lw_41 : Cond.methodLink "ScopeLinesLaw" 41 ⟨"ScopeLines", "include", "(II)Z"⟩ ∈ zGW := z_in3 (List.mem_of_getElem? (i := 132) rfl) rfl
theorem wj_SL_include : Cond.instanceMethod ⟨"ScopeLines", "include", "(II)Z"⟩ ∈ zGW := z_in3 (List.mem_of_getElem? (i := 133) rfl) rfl
theorem ws_SL_include : Cond.selects m_SL_include.1.cls m_SL_include.1 m_SL_include.1 ∈ zGW := z_in3 (List.mem_of_getElem? (i := 134) rfl) rfl
theorem cw_Lw_law_41 : zCw m_Lw_law m_SL_include 41 0 0 2 := ⟨Or.inl wm_Lw_41, wc_SL_include, wn_SL, ⟨by decide, by decide, by decide +kernel⟩, ⟨by decide, by decide⟩, (fun _ => ⟨wj_SL_include, ws_SL_include, by decide, T_SL, 10, rfl⟩), (fun q => by cases q), (fun q => by cases q)⟩
theorem wm_Lw_45 : Cond.methodLink "ScopeLinesLaw" 45 ⟨"ScopeLinesModel", "include", "(II)Z"⟩ ∈ zGW := z_in5 (List.mem_of_getElem? (i := 40) rfl) rfl
theorem wj_Mo_include : Cond.instanceMethod ⟨"ScopeLinesModel", "include", "(II)Z"⟩ ∈ zGW := z_in5 (List.mem_of_getElem? (i := 41) rfl) rfl
theorem ws_Mo_include : Cond.selects m_Mo_include.1.cls m_Mo_include.1 m_Mo_include.1 ∈ zGW := z_in5 (List.mem_of_getElem? (i := 42) rfl) rfl
theorem cw_Lw_law_45 : zCw m_Lw_law m_Mo_include 45 0 9 2 := ⟨Or.inl wm_Lw_45, wc_Mo_include, wn_Mo, ⟨by decide, by decide, by decide +kernel⟩, ⟨by decide, by decide⟩, (fun _ => ⟨wj_Mo_include, ws_Mo_include, by decide, T_Mo, 52, rfl⟩), (fun q => by cases q), (fun q => by cases q)⟩
theorem wm_Lw_46 : Cond.methodLink "ScopeLinesLaw" 46 ⟨"ScopeLines", "theme", "(III)Z"⟩ ∈ zGW := z_in3 (List.mem_of_getElem? (i := 136) rfl) rfl
theorem wj_SL_theme : Cond.instanceMethod ⟨"ScopeLines", "theme", "(III)Z"⟩ ∈ zGW := z_in3 (List.mem_of_getElem? (i := 137) rfl) rfl
theorem ws_SL_theme : Cond.selects m_SL_theme.1.cls m_SL_theme.1 m_SL_theme.1 ∈ zGW := z_in3 (List.mem_of_getElem? (i := 138) rfl) rfl
theorem cw_Lw_law_46 : zCw m_Lw_law m_SL_theme 46 0 0 3 := ⟨Or.inl wm_Lw_46, wc_SL_theme, wn_SL, ⟨by decide, by decide, by decide +kernel⟩, ⟨by decide, by decide⟩, (fun _ => ⟨wj_SL_theme, ws_SL_theme, by decide, T_SL, 10, rfl⟩), (fun q => by cases q), (fun q => by cases q)⟩
theorem wm_Lw_50 : Cond.methodLink "ScopeLinesLaw" 50 ⟨"ScopeLinesModel", "theme", "(III)Z"⟩ ∈ zGW := z_in5 (List.mem_of_getElem? (i := 44) rfl) rfl
theorem wj_Mo_theme : Cond.instanceMethod ⟨"ScopeLinesModel", "theme", "(III)Z"⟩ ∈ zGW := z_in5 (List.mem_of_getElem? (i := 45) rfl) rfl
theorem ws_Mo_theme : Cond.selects m_Mo_theme.1.cls m_Mo_theme.1 m_Mo_theme.1 ∈ zGW := z_in5 (List.mem_of_getElem? (i := 46) rfl) rfl
theorem cw_Lw_law_50 : zCw m_Lw_law m_Mo_theme 50 0 9 3 := ⟨Or.inl wm_Lw_50, wc_Mo_theme, wn_Mo, ⟨by decide, by decide, by decide +kernel⟩, ⟨by decide, by decide⟩, (fun _ => ⟨wj_Mo_theme, ws_Mo_theme, by decide, T_Mo, 52, rfl⟩), (fun q => by cases q), (fun q => by cases q)⟩
theorem wm_Lw_51 : Cond.methodLink "ScopeLinesLaw" 51 ⟨"ScopeLines", "put", "(I)I"⟩ ∈ zGW := z_in3 (List.mem_of_getElem? (i := 144) rfl) rfl
theorem wj_SL_put : Cond.instanceMethod ⟨"ScopeLines", "put", "(I)I"⟩ ∈ zGW := z_in3 (List.mem_of_getElem? (i := 145) rfl) rfl
theorem ws_SL_put : Cond.selects m_SL_put.1.cls m_SL_put.1 m_SL_put.1 ∈ zGW := z_in3 (List.mem_of_getElem? (i := 146) rfl) rfl
theorem cw_Lw_law_51 : zCw m_Lw_law m_SL_put 51 0 0 1 := ⟨Or.inl wm_Lw_51, wc_SL_put, wn_SL, ⟨by decide, by decide, by decide +kernel⟩, ⟨by decide, by decide⟩, (fun _ => ⟨wj_SL_put, ws_SL_put, by decide, T_SL, 10, rfl⟩), (fun q => by cases q), (fun q => by cases q)⟩
theorem wm_Lw_55 : Cond.methodLink "ScopeLinesLaw" 55 ⟨"ScopeLinesModel", "put", "(I)I"⟩ ∈ zGW := z_in5 (List.mem_of_getElem? (i := 48) rfl) rfl
theorem wj_Mo_put : Cond.instanceMethod ⟨"ScopeLinesModel", "put", "(I)I"⟩ ∈ zGW := z_in5 (List.mem_of_getElem? (i := 49) rfl) rfl
theorem ws_Mo_put : Cond.selects m_Mo_put.1.cls m_Mo_put.1 m_Mo_put.1 ∈ zGW := z_in5 (List.mem_of_getElem? (i := 50) rfl) rfl
theorem cw_Lw_law_55 : zCw m_Lw_law m_Mo_put 55 0 9 1 := ⟨Or.inl wm_Lw_55, wc_Mo_put, wn_Mo, ⟨by decide, by decide, by decide +kernel⟩, ⟨by decide, by decide⟩, (fun _ => ⟨wj_Mo_put, ws_Mo_put, by decide, T_Mo, 52, rfl⟩), (fun q => by cases q), (fun q => by cases q)⟩
theorem wm_Lw_56 : Cond.methodLink "ScopeLinesLaw" 56 ⟨"ScopeLines", "drop", "(I)I"⟩ ∈ zGW := z_in3 (List.mem_of_getElem? (i := 153) rfl) rfl
theorem wj_SL_drop : Cond.instanceMethod ⟨"ScopeLines", "drop", "(I)I"⟩ ∈ zGW := z_in3 (List.mem_of_getElem? (i := 154) rfl) rfl
theorem ws_SL_drop : Cond.selects m_SL_drop.1.cls m_SL_drop.1 m_SL_drop.1 ∈ zGW := z_in3 (List.mem_of_getElem? (i := 155) rfl) rfl
theorem cw_Lw_law_56 : zCw m_Lw_law m_SL_drop 56 0 0 1 := ⟨Or.inl wm_Lw_56, wc_SL_drop, wn_SL, ⟨by decide, by decide, by decide +kernel⟩, ⟨by decide, by decide⟩, (fun _ => ⟨wj_SL_drop, ws_SL_drop, by decide, T_SL, 10, rfl⟩), (fun q => by cases q), (fun q => by cases q)⟩
theorem wm_Lw_59 : Cond.methodLink "ScopeLinesLaw" 59 ⟨"ScopeLinesModel", "drop", "(I)I"⟩ ∈ zGW := z_in5 (List.mem_of_getElem? (i := 60) rfl) rfl
theorem wj_Mo_drop : Cond.instanceMethod ⟨"ScopeLinesModel", "drop", "(I)I"⟩ ∈ zGW := z_in5 (List.mem_of_getElem? (i := 61) rfl) rfl
theorem ws_Mo_drop : Cond.selects m_Mo_drop.1.cls m_Mo_drop.1 m_Mo_drop.1 ∈ zGW := z_in5 (List.mem_of_getElem? (i := 62) rfl) rfl
theorem cw_Lw_law_59 : zCw m_Lw_law m_Mo_drop 59 0 9 1 := ⟨Or.inl wm_Lw_59, wc_Mo_drop, wn_Mo, ⟨by decide, by decide, by decide +kernel⟩, ⟨by decide, by decide⟩, (fun _ => ⟨wj_Mo_drop, ws_Mo_drop, by decide, T_Mo, 52, rfl⟩), (fun q => by cases q), (fun q => by cases q)⟩
theorem wm_Lw_60 : Cond.methodLink "ScopeLinesLaw" 60 ⟨"ScopeLines", "lines", "()I"⟩ ∈ zGW := z_in3 (List.mem_of_getElem? (i := 161) rfl) rfl
theorem wj_SL_lines : Cond.instanceMethod ⟨"ScopeLines", "lines", "()I"⟩ ∈ zGW := z_in3 (List.mem_of_getElem? (i := 162) rfl) rfl
theorem ws_SL_lines : Cond.selects m_SL_lines.1.cls m_SL_lines.1 m_SL_lines.1 ∈ zGW := z_in3 (List.mem_of_getElem? (i := 163) rfl) rfl
theorem cw_Lw_law_60 : zCw m_Lw_law m_SL_lines 60 0 0 0 := ⟨Or.inl wm_Lw_60, wc_SL_lines, wn_SL, ⟨by decide, by decide, by decide +kernel⟩, ⟨by decide, by decide⟩, (fun _ => ⟨wj_SL_lines, ws_SL_lines, by decide, T_SL, 10, rfl⟩), (fun q => by cases q), (fun q => by cases q)⟩
theorem wm_Lw_64 : Cond.methodLink "ScopeLinesLaw" 64 ⟨"ScopeLinesModel", "lines", "()I"⟩ ∈ zGW := z_in5 (List.mem_of_getElem? (i := 64) rfl) rfl
theorem wj_Mo_lines : Cond.instanceMethod ⟨"ScopeLinesModel", "lines", "()I"⟩ ∈ zGW := z_in5 (List.mem_of_getElem? (i := 65) rfl) rfl
theorem ws_Mo_lines : Cond.selects m_Mo_lines.1.cls m_Mo_lines.1 m_Mo_lines.1 ∈ zGW := z_in5 (List.mem_of_getElem? (i := 66) rfl) rfl
theorem cw_Lw_law_64 : zCw m_Lw_law m_Mo_lines 64 0 9 0 := ⟨Or.inl wm_Lw_64, wc_Mo_lines, wn_Mo, ⟨by decide, by decide, by decide +kernel⟩, ⟨by decide, by decide⟩, (fun _ => ⟨wj_Mo_lines, ws_Mo_lines, by decide, T_Mo, 52, rfl⟩), (fun q => by cases q), (fun q => by cases q)⟩
theorem wm_Lw_65 : Cond.methodLink "ScopeLinesLaw" 65 ⟨"ScopeLines", "passes", "()I"⟩ ∈ zGW := z_in3 (List.mem_of_getElem? (i := 165) rfl) rfl
theorem wj_SL_passes : Cond.instanceMethod ⟨"ScopeLines", "passes", "()I"⟩ ∈ zGW := z_in3 (List.mem_of_getElem? (i := 166) rfl) rfl
theorem ws_SL_passes : Cond.selects m_SL_passes.1.cls m_SL_passes.1 m_SL_passes.1 ∈ zGW := z_in3 (List.mem_of_getElem? (i := 167) rfl) rfl
theorem cw_Lw_law_65 : zCw m_Lw_law m_SL_passes 65 0 0 0 := ⟨Or.inl wm_Lw_65, wc_SL_passes, wn_SL, ⟨by decide, by decide, by decide +kernel⟩, ⟨by decide, by decide⟩, (fun _ => ⟨wj_SL_passes, ws_SL_passes, by decide, T_SL, 10, rfl⟩), (fun q => by cases q), (fun q => by cases q)⟩
theorem wm_Lw_68 : Cond.methodLink "ScopeLinesLaw" 68 ⟨"ScopeLinesModel", "passes", "()I"⟩ ∈ zGW := z_in5 (List.mem_of_getElem? (i := 68) rfl) rfl
theorem wj_Mo_passes : Cond.instanceMethod ⟨"ScopeLinesModel", "passes", "()I"⟩ ∈ zGW := z_in5 (List.mem_of_getElem? (i := 69) rfl) rfl
theorem ws_Mo_passes : Cond.selects m_Mo_passes.1.cls m_Mo_passes.1 m_Mo_passes.1 ∈ zGW := z_in5 (List.mem_of_getElem? (i := 70) rfl) rfl
theorem cw_Lw_law_68 : zCw m_Lw_law m_Mo_passes 68 0 9 0 := ⟨Or.inl wm_Lw_68, wc_Mo_passes, wn_Mo, ⟨by decide, by decide, by decide +kernel⟩, ⟨by decide, by decide⟩, (fun _ => ⟨wj_Mo_passes, ws_Mo_passes, by decide, T_Mo, 52, rfl⟩), (fun q => by cases q), (fun q => by cases q)⟩
theorem wm_Lw_69 : Cond.methodLink "ScopeLinesLaw" 69 ⟨"ScopeLines", "length", "(I)I"⟩ ∈ zGW := z_in3 (List.mem_of_getElem? (i := 169) rfl) rfl
theorem wj_SL_length : Cond.instanceMethod ⟨"ScopeLines", "length", "(I)I"⟩ ∈ zGW := z_in3 (List.mem_of_getElem? (i := 170) rfl) rfl
theorem ws_SL_length : Cond.selects m_SL_length.1.cls m_SL_length.1 m_SL_length.1 ∈ zGW := z_in3 (List.mem_of_getElem? (i := 171) rfl) rfl
theorem cw_Lw_law_69 : zCw m_Lw_law m_SL_length 69 0 0 1 := ⟨Or.inl wm_Lw_69, wc_SL_length, wn_SL, ⟨by decide, by decide, by decide +kernel⟩, ⟨by decide, by decide⟩, (fun _ => ⟨wj_SL_length, ws_SL_length, by decide, T_SL, 10, rfl⟩), (fun q => by cases q), (fun q => by cases q)⟩
theorem wm_Lw_72 : Cond.methodLink "ScopeLinesLaw" 72 ⟨"ScopeLinesModel", "length", "(I)I"⟩ ∈ zGW := z_in5 (List.mem_of_getElem? (i := 72) rfl) rfl
theorem wj_Mo_length : Cond.instanceMethod ⟨"ScopeLinesModel", "length", "(I)I"⟩ ∈ zGW := z_in5 (List.mem_of_getElem? (i := 73) rfl) rfl
theorem ws_Mo_length : Cond.selects m_Mo_length.1.cls m_Mo_length.1 m_Mo_length.1 ∈ zGW := z_in5 (List.mem_of_getElem? (i := 74) rfl) rfl
theorem cw_Lw_law_72 : zCw m_Lw_law m_Mo_length 72 0 9 1 := ⟨Or.inl wm_Lw_72, wc_Mo_length, wn_Mo, ⟨by decide, by decide, by decide +kernel⟩, ⟨by decide, by decide⟩, (fun _ => ⟨wj_Mo_length, ws_Mo_length, by decide, T_Mo, 52, rfl⟩), (fun q => by cases q), (fun q => by cases q)⟩
theorem wm_Lw_73 : Cond.methodLink "ScopeLinesLaw" 73 ⟨"ScopeLines", "tokens", "(I)I"⟩ ∈ zGW := z_in3 (List.mem_of_getElem? (i := 173) rfl) rfl
theorem wj_SL_tokens : Cond.instanceMethod ⟨"ScopeLines", "tokens", "(I)I"⟩ ∈ zGW := z_in3 (List.mem_of_getElem? (i := 174) rfl) rfl
theorem ws_SL_tokens : Cond.selects m_SL_tokens.1.cls m_SL_tokens.1 m_SL_tokens.1 ∈ zGW := z_in3 (List.mem_of_getElem? (i := 175) rfl) rfl
theorem cw_Lw_law_73 : zCw m_Lw_law m_SL_tokens 73 0 0 1 := ⟨Or.inl wm_Lw_73, wc_SL_tokens, wn_SL, ⟨by decide, by decide, by decide +kernel⟩, ⟨by decide, by decide⟩, (fun _ => ⟨wj_SL_tokens, ws_SL_tokens, by decide, T_SL, 10, rfl⟩), (fun q => by cases q), (fun q => by cases q)⟩
theorem wm_Lw_76 : Cond.methodLink "ScopeLinesLaw" 76 ⟨"ScopeLinesModel", "tokens", "(I)I"⟩ ∈ zGW := z_in5 (List.mem_of_getElem? (i := 80) rfl) rfl
theorem wj_Mo_tokens : Cond.instanceMethod ⟨"ScopeLinesModel", "tokens", "(I)I"⟩ ∈ zGW := z_in5 (List.mem_of_getElem? (i := 81) rfl) rfl
theorem ws_Mo_tokens : Cond.selects m_Mo_tokens.1.cls m_Mo_tokens.1 m_Mo_tokens.1 ∈ zGW := z_in5 (List.mem_of_getElem? (i := 82) rfl) rfl
theorem cw_Lw_law_76 : zCw m_Lw_law m_Mo_tokens 76 0 9 1 := ⟨Or.inl wm_Lw_76, wc_Mo_tokens, wn_Mo, ⟨by decide, by decide, by decide +kernel⟩, ⟨by decide, by decide⟩, (fun _ => ⟨wj_Mo_tokens, ws_Mo_tokens, by decide, T_Mo, 52, rfl⟩), (fun q => by cases q), (fun q => by cases q)⟩
theorem wm_Lw_77 : Cond.methodLink "ScopeLinesLaw" 77 ⟨"ScopeLines", "token", "(III)I"⟩ ∈ zGW := z_in3 (List.mem_of_getElem? (i := 177) rfl) rfl
theorem wj_SL_token : Cond.instanceMethod ⟨"ScopeLines", "token", "(III)I"⟩ ∈ zGW := z_in3 (List.mem_of_getElem? (i := 178) rfl) rfl
theorem ws_SL_token : Cond.selects m_SL_token.1.cls m_SL_token.1 m_SL_token.1 ∈ zGW := z_in3 (List.mem_of_getElem? (i := 179) rfl) rfl
theorem cw_Lw_law_77 : zCw m_Lw_law m_SL_token 77 0 0 3 := ⟨Or.inl wm_Lw_77, wc_SL_token, wn_SL, ⟨by decide, by decide, by decide +kernel⟩, ⟨by decide, by decide⟩, (fun _ => ⟨wj_SL_token, ws_SL_token, by decide, T_SL, 10, rfl⟩), (fun q => by cases q), (fun q => by cases q)⟩
theorem wm_Lw_81 : Cond.methodLink "ScopeLinesLaw" 81 ⟨"ScopeLinesModel", "token", "(III)I"⟩ ∈ zGW := z_in5 (List.mem_of_getElem? (i := 84) rfl) rfl
theorem wj_Mo_token : Cond.instanceMethod ⟨"ScopeLinesModel", "token", "(III)I"⟩ ∈ zGW := z_in5 (List.mem_of_getElem? (i := 85) rfl) rfl
theorem ws_Mo_token : Cond.selects m_Mo_token.1.cls m_Mo_token.1 m_Mo_token.1 ∈ zGW := z_in5 (List.mem_of_getElem? (i := 86) rfl) rfl
theorem cw_Lw_law_81 : zCw m_Lw_law m_Mo_token 81 0 9 3 := ⟨Or.inl wm_Lw_81, wc_Mo_token, wn_Mo, ⟨by decide, by decide, by decide +kernel⟩, ⟨by decide, by decide⟩, (fun _ => ⟨wj_Mo_token, ws_Mo_token, by decide, T_Mo, 52, rfl⟩), (fun q => by cases q), (fun q => by cases q)⟩
theorem wm_Lw_82 : Cond.methodLink "ScopeLinesLaw" 82 ⟨"ScopeLines", "marked", "(I)Z"⟩ ∈ zGW := z_in3 (List.mem_of_getElem? (i := 201) rfl) rfl
theorem wj_SL_marked : Cond.instanceMethod ⟨"ScopeLines", "marked", "(I)Z"⟩ ∈ zGW := z_in3 (List.mem_of_getElem? (i := 202) rfl) rfl
theorem ws_SL_marked : Cond.selects m_SL_marked.1.cls m_SL_marked.1 m_SL_marked.1 ∈ zGW := z_in3 (List.mem_of_getElem? (i := 203) rfl) rfl
theorem cw_Lw_law_82 : zCw m_Lw_law m_SL_marked 82 0 0 1 := ⟨Or.inl wm_Lw_82, wc_SL_marked, wn_SL, ⟨by decide, by decide, by decide +kernel⟩, ⟨by decide, by decide⟩, (fun _ => ⟨wj_SL_marked, ws_SL_marked, by decide, T_SL, 10, rfl⟩), (fun q => by cases q), (fun q => by cases q)⟩
theorem wm_Lw_86 : Cond.methodLink "ScopeLinesLaw" 86 ⟨"ScopeLinesModel", "marked", "(I)Z"⟩ ∈ zGW := z_in5 (List.mem_of_getElem? (i := 96) rfl) rfl
theorem wj_Mo_marked : Cond.instanceMethod ⟨"ScopeLinesModel", "marked", "(I)Z"⟩ ∈ zGW := z_in5 (List.mem_of_getElem? (i := 97) rfl) rfl
theorem ws_Mo_marked : Cond.selects m_Mo_marked.1.cls m_Mo_marked.1 m_Mo_marked.1 ∈ zGW := z_in5 (List.mem_of_getElem? (i := 98) rfl) rfl
theorem cw_Lw_law_86 : zCw m_Lw_law m_Mo_marked 86 0 9 1 := ⟨Or.inl wm_Lw_86, wc_Mo_marked, wn_Mo, ⟨by decide, by decide, by decide +kernel⟩, ⟨by decide, by decide⟩, (fun _ => ⟨wj_Mo_marked, ws_Mo_marked, by decide, T_Mo, 52, rfl⟩), (fun q => by cases q), (fun q => by cases q)⟩
theorem wm_Lw_87 : Cond.methodLink "ScopeLinesLaw" 87 ⟨"ScopeLines", "state", "(II)I"⟩ ∈ zGW := z_in3 (List.mem_of_getElem? (i := 205) rfl) rfl
theorem wj_SL_state : Cond.instanceMethod ⟨"ScopeLines", "state", "(II)I"⟩ ∈ zGW := z_in3 (List.mem_of_getElem? (i := 206) rfl) rfl
theorem ws_SL_state : Cond.selects m_SL_state.1.cls m_SL_state.1 m_SL_state.1 ∈ zGW := z_in3 (List.mem_of_getElem? (i := 207) rfl) rfl
theorem cw_Lw_law_87 : zCw m_Lw_law m_SL_state 87 0 0 2 := ⟨Or.inl wm_Lw_87, wc_SL_state, wn_SL, ⟨by decide, by decide, by decide +kernel⟩, ⟨by decide, by decide⟩, (fun _ => ⟨wj_SL_state, ws_SL_state, by decide, T_SL, 10, rfl⟩), (fun q => by cases q), (fun q => by cases q)⟩
theorem wm_Lw_90 : Cond.methodLink "ScopeLinesLaw" 90 ⟨"ScopeLinesModel", "state", "(II)I"⟩ ∈ zGW := z_in5 (List.mem_of_getElem? (i := 100) rfl) rfl
theorem wj_Mo_state : Cond.instanceMethod ⟨"ScopeLinesModel", "state", "(II)I"⟩ ∈ zGW := z_in5 (List.mem_of_getElem? (i := 101) rfl) rfl
theorem ws_Mo_state : Cond.selects m_Mo_state.1.cls m_Mo_state.1 m_Mo_state.1 ∈ zGW := z_in5 (List.mem_of_getElem? (i := 102) rfl) rfl
theorem cw_Lw_law_90 : zCw m_Lw_law m_Mo_state 90 0 9 2 := ⟨Or.inl wm_Lw_90, wc_Mo_state, wn_Mo, ⟨by decide, by decide, by decide +kernel⟩, ⟨by decide, by decide⟩, (fun _ => ⟨wj_Mo_state, ws_Mo_state, by decide, T_Mo, 52, rfl⟩), (fun q => by cases q), (fun q => by cases q)⟩
theorem wm_Lw_91 : Cond.methodLink "ScopeLinesLaw" 91 ⟨"ScopeLines", "text", "(III)I"⟩ ∈ zGW := z_in3 (List.mem_of_getElem? (i := 213) rfl) rfl
theorem wj_SL_text : Cond.instanceMethod ⟨"ScopeLines", "text", "(III)I"⟩ ∈ zGW := z_in3 (List.mem_of_getElem? (i := 214) rfl) rfl
theorem ws_SL_text : Cond.selects m_SL_text.1.cls m_SL_text.1 m_SL_text.1 ∈ zGW := z_in3 (List.mem_of_getElem? (i := 215) rfl) rfl
theorem cw_Lw_law_91 : zCw m_Lw_law m_SL_text 91 0 0 3 := ⟨Or.inl wm_Lw_91, wc_SL_text, wn_SL, ⟨by decide, by decide, by decide +kernel⟩, ⟨by decide, by decide⟩, (fun _ => ⟨wj_SL_text, ws_SL_text, by decide, T_SL, 10, rfl⟩), (fun q => by cases q), (fun q => by cases q)⟩
theorem wm_Lw_94 : Cond.methodLink "ScopeLinesLaw" 94 ⟨"ScopeLinesModel", "text", "(III)I"⟩ ∈ zGW := z_in5 (List.mem_of_getElem? (i := 104) rfl) rfl
theorem wj_Mo_text : Cond.instanceMethod ⟨"ScopeLinesModel", "text", "(III)I"⟩ ∈ zGW := z_in5 (List.mem_of_getElem? (i := 105) rfl) rfl
theorem ws_Mo_text : Cond.selects m_Mo_text.1.cls m_Mo_text.1 m_Mo_text.1 ∈ zGW := z_in5 (List.mem_of_getElem? (i := 106) rfl) rfl
theorem cw_Lw_law_94 : zCw m_Lw_law m_Mo_text 94 0 9 3 := ⟨Or.inl wm_Lw_94, wc_Mo_text, wn_Mo, ⟨by decide, by decide, by decide +kernel⟩, ⟨by decide, by decide⟩, (fun _ => ⟨wj_Mo_text, ws_Mo_text, by decide, T_Mo, 52, rfl⟩), (fun q => by cases q), (fun q => by cases q)⟩
theorem wm_Lw_95 : Cond.methodLink "ScopeLinesLaw" 95 ⟨"ScopeLines", "find", "(IIII)I"⟩ ∈ zGW := z_in3 (List.mem_of_getElem? (i := 218) rfl) rfl
theorem wj_SL_find : Cond.instanceMethod ⟨"ScopeLines", "find", "(IIII)I"⟩ ∈ zGW := z_in3 (List.mem_of_getElem? (i := 219) rfl) rfl
theorem ws_SL_find : Cond.selects m_SL_find.1.cls m_SL_find.1 m_SL_find.1 ∈ zGW := z_in3 (List.mem_of_getElem? (i := 220) rfl) rfl
theorem cw_Lw_law_95 : zCw m_Lw_law m_SL_find 95 0 0 4 := ⟨Or.inl wm_Lw_95, wc_SL_find, wn_SL, ⟨by decide, by decide, by decide +kernel⟩, ⟨by decide, by decide⟩, (fun _ => ⟨wj_SL_find, ws_SL_find, by decide, T_SL, 10, rfl⟩), (fun q => by cases q), (fun q => by cases q)⟩
theorem wm_Lw_99 : Cond.methodLink "ScopeLinesLaw" 99 ⟨"ScopeLinesModel", "find", "(IIII)I"⟩ ∈ zGW := z_in5 (List.mem_of_getElem? (i := 108) rfl) rfl
theorem wj_Mo_find : Cond.instanceMethod ⟨"ScopeLinesModel", "find", "(IIII)I"⟩ ∈ zGW := z_in5 (List.mem_of_getElem? (i := 109) rfl) rfl
theorem ws_Mo_find : Cond.selects m_Mo_find.1.cls m_Mo_find.1 m_Mo_find.1 ∈ zGW := z_in5 (List.mem_of_getElem? (i := 110) rfl) rfl
theorem cw_Lw_law_99 : zCw m_Lw_law m_Mo_find 99 0 9 4 := ⟨Or.inl wm_Lw_99, wc_Mo_find, wn_Mo, ⟨by decide, by decide, by decide +kernel⟩, ⟨by decide, by decide⟩, (fun _ => ⟨wj_Mo_find, ws_Mo_find, by decide, T_Mo, 52, rfl⟩), (fun q => by cases q), (fun q => by cases q)⟩
theorem w_obj2 : Cond.code ⟨"java/lang/Object", "<init>", "()V"⟩ object_method_1_code 1 (Option.none : Option FieldType) ∈ zGW := z_in1 (List.mem_of_getElem? (i := 21) rfl) rfl
