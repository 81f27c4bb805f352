/-! words of the methods and of the links -/
theorem z_mA1 {w : Cond} (h : w ∈ tables_1_1) (hg : goodWord w = true) : w ∈ z_all := z_mem (List.mem_append_left _ h) hg
theorem z_mA2 {w : Cond} (h : w ∈ tables_1_2) (hg : goodWord w = true) : w ∈ z_all := z_mem (List.mem_append_right _ (List.mem_append_left _ h)) hg
theorem z_mA3 {w : Cond} (h : w ∈ tables_1_3) (hg : goodWord w = true) : w ∈ z_all := z_mem (List.mem_append_right _ (List.mem_append_right _ (List.mem_append_left _ h))) hg
theorem z_mA4 {w : Cond} (h : w ∈ tables_1_4) (hg : goodWord w = true) : w ∈ z_all := z_mem (List.mem_append_right _ (List.mem_append_right _ (List.mem_append_right _ (List.mem_append_left _ h)))) hg
theorem z_mA5 {w : Cond} (h : w ∈ tables_1_5) (hg : goodWord w = true) : w ∈ z_all := z_mem (List.mem_append_right _ (List.mem_append_right _ (List.mem_append_right _ (List.mem_append_right _ (List.mem_append_left _ h))))) hg
theorem z_mA6 {w : Cond} (h : w ∈ tables_1_6) (hg : goodWord w = true) : w ∈ z_all := z_mem (List.mem_append_right _ (List.mem_append_right _ (List.mem_append_right _ (List.mem_append_right _ (List.mem_append_right _ (List.mem_append_left _ h)))))) hg
theorem z_mA7 {w : Cond} (h : w ∈ tables_1_7) (hg : goodWord w = true) : w ∈ z_all := z_mem (List.mem_append_right _ (List.mem_append_right _ (List.mem_append_right _ (List.mem_append_right _ (List.mem_append_right _ (List.mem_append_right _ (List.mem_append_left _ h))))))) hg
theorem z_mA8 {w : Cond} (h : w ∈ tables_1_8) (hg : goodWord w = true) : w ∈ z_all := z_mem (List.mem_append_right _ (List.mem_append_right _ (List.mem_append_right _ (List.mem_append_right _ (List.mem_append_right _ (List.mem_append_right _ (List.mem_append_right _ (List.mem_append_left _ h)))))))) hg
theorem z_mA9 {w : Cond} (h : w ∈ tables_1_9) (hg : goodWord w = true) : w ∈ z_all := z_mem (List.mem_append_right _ (List.mem_append_right _ (List.mem_append_right _ (List.mem_append_right _ (List.mem_append_right _ (List.mem_append_right _ (List.mem_append_right _ (List.mem_append_right _ (List.mem_append_left _ h))))))))) hg
theorem z_mA10 {w : Cond} (h : w ∈ tables_1_10) (hg : goodWord w = true) : w ∈ z_all := z_mem (List.mem_append_right _ (List.mem_append_right _ (List.mem_append_right _ (List.mem_append_right _ (List.mem_append_right _ (List.mem_append_right _ (List.mem_append_right _ (List.mem_append_right _ (List.mem_append_right _ (h)))))))))) hg
theorem z_msel {q : MethodName × Nat} (h : q ∈ lw_privs) : Cond.selects q.1.cls q.1 q.1 ∈ z_all := List.mem_filter.mpr ⟨List.mem_append_left _ (List.mem_map.mpr ⟨q, h, rfl⟩), rfl⟩
theorem z_in_0 : Cond.initialized (z_own 0) ∈ z_all := z_mA1 (List.mem_of_getElem? (i := 2) rfl) rfl
theorem z_in_1 : Cond.initialized (z_own 1) ∈ z_all := z_mA1 (List.mem_of_getElem? (i := 13) rfl) rfl
theorem z_in_2 : Cond.initialized (z_own 2) ∈ z_all := z_mA1 (List.mem_of_getElem? (i := 7) rfl) rfl
theorem z_in_3 : Cond.initialized (z_own 3) ∈ z_all := z_mA1 (List.mem_of_getElem? (i := 16) rfl) rfl
theorem z_in_4 : Cond.initialized (z_own 4) ∈ z_all := z_mA1 (List.mem_of_getElem? (i := 5) rfl) rfl
theorem z_in_5 : Cond.initialized (z_own 5) ∈ z_all := z_mA1 (List.mem_of_getElem? (i := 6) rfl) rfl
theorem z_in_6 : Cond.initialized (z_own 6) ∈ z_all := z_mA1 (List.mem_of_getElem? (i := 3) rfl) rfl
theorem z_in_7 : Cond.initialized (z_own 7) ∈ z_all := z_mA1 (List.mem_of_getElem? (i := 15) rfl) rfl
theorem z_in_8 : Cond.initialized (z_own 8) ∈ z_all := z_mA1 (List.mem_of_getElem? (i := 9) rfl) rfl
theorem z_in_9 : Cond.initialized (z_own 9) ∈ z_all := z_mA1 (List.mem_of_getElem? (i := 14) rfl) rfl
theorem z_in_10 : Cond.initialized (z_own 10) ∈ z_all := z_mA1 (List.mem_of_getElem? (i := 4) rfl) rfl
theorem z_in_11 : Cond.initialized (z_own 11) ∈ z_all := z_mA1 (List.mem_of_getElem? (i := 1) rfl) rfl
theorem z_in_12 : Cond.initialized (z_own 12) ∈ z_all := z_mA1 (List.mem_of_getElem? (i := 8) rfl) rfl
theorem z_in_13 : Cond.initialized (z_own 13) ∈ z_all := z_mA1 (List.mem_of_getElem? (i := 10) rfl) rfl
theorem z_in_14 : Cond.initialized (z_own 14) ∈ z_all := z_mA1 (List.mem_of_getElem? (i := 11) rfl) rfl
theorem z_in_15 : Cond.initialized (z_own 15) ∈ z_all := z_mA1 (List.mem_of_getElem? (i := 0) rfl) rfl
theorem wd_X0_init : Cond.code yX0_init cX0_init 1 none ∈ z_all ∧ Cond.initialized yX0_init.cls ∈ z_all ∧ 1 ≤ 70 ∧ yX0_init.cls ≠ "java/lang/invoke/MethodHandle" ∧ yX0_init.cls ≠ "java/lang/invoke/VarHandle" := ⟨z_mA1 (List.mem_of_getElem? (i := 39) rfl) rfl, z_in_0, by decide, by decide, by decide⟩
theorem im_X0_init : Cond.instanceMethod yX0_init ∈ z_all := z_mA1 (List.mem_of_getElem? (i := 38) rfl) rfl
theorem wd_X11_outOf : Cond.code yX11_outOf cX11_outOf 3 (some .boolean) ∈ z_all ∧ Cond.initialized yX11_outOf.cls ∈ z_all ∧ 3 ≤ 70 ∧ yX11_outOf.cls ≠ "java/lang/invoke/MethodHandle" ∧ yX11_outOf.cls ≠ "java/lang/invoke/VarHandle" := ⟨z_mA2 (List.mem_of_getElem? (i := 107) rfl) rfl, z_in_11, by decide, by decide, by decide⟩
theorem st_X11_outOf : Cond.static yX11_outOf ∈ z_all := z_mA2 (List.mem_of_getElem? (i := 106) rfl) rfl
theorem wd_X0_isStep : Cond.code yX0_isStep cX0_isStep 5 (some .boolean) ∈ z_all ∧ Cond.initialized yX0_isStep.cls ∈ z_all ∧ 5 ≤ 70 ∧ yX0_isStep.cls ≠ "java/lang/invoke/MethodHandle" ∧ yX0_isStep.cls ≠ "java/lang/invoke/VarHandle" := ⟨z_mA4 (List.mem_of_getElem? (i := 114) rfl) rfl, z_in_0, by decide, by decide, by decide⟩
theorem st_X0_isStep : Cond.static yX0_isStep ∈ z_all := z_mA4 (List.mem_of_getElem? (i := 113) rfl) rfl
theorem wd_X0_stepAt : Cond.code yX0_stepAt cX0_stepAt 2 (some .int) ∈ z_all ∧ Cond.initialized yX0_stepAt.cls ∈ z_all ∧ 2 ≤ 70 ∧ yX0_stepAt.cls ≠ "java/lang/invoke/MethodHandle" ∧ yX0_stepAt.cls ≠ "java/lang/invoke/VarHandle" := ⟨z_mA4 (List.mem_of_getElem? (i := 123) rfl) rfl, z_in_0, by decide, by decide, by decide⟩
theorem st_X0_stepAt : Cond.static yX0_stepAt ∈ z_all := z_mA4 (List.mem_of_getElem? (i := 122) rfl) rfl
theorem wd_X0_keepStep : Cond.code yX0_keepStep cX0_keepStep 8 none ∈ z_all ∧ Cond.initialized yX0_keepStep.cls ∈ z_all ∧ 8 ≤ 70 ∧ yX0_keepStep.cls ≠ "java/lang/invoke/MethodHandle" ∧ yX0_keepStep.cls ≠ "java/lang/invoke/VarHandle" := ⟨z_mA4 (List.mem_of_getElem? (i := 120) rfl) rfl, z_in_0, by decide, by decide, by decide⟩
theorem im_X0_keepStep : Cond.instanceMethod yX0_keepStep ∈ z_all := z_mA4 (List.mem_of_getElem? (i := 118) rfl) rfl
theorem se_X0_keepStep : Cond.selects yX0_keepStep.cls yX0_keepStep yX0_keepStep ∈ z_all := z_mA4 (List.mem_of_getElem? (i := 119) rfl) rfl
theorem wd_X0_wayOf : Cond.code yX0_wayOf cX0_wayOf 2 (some .int) ∈ z_all ∧ Cond.initialized yX0_wayOf.cls ∈ z_all ∧ 2 ≤ 70 ∧ yX0_wayOf.cls ≠ "java/lang/invoke/MethodHandle" ∧ yX0_wayOf.cls ≠ "java/lang/invoke/VarHandle" := ⟨z_mA4 (List.mem_of_getElem? (i := 179) rfl) rfl, z_in_0, by decide, by decide, by decide⟩
theorem st_X0_wayOf : Cond.static yX0_wayOf ∈ z_all := z_mA4 (List.mem_of_getElem? (i := 178) rfl) rfl
theorem wd_X0_loadOf : Cond.code yX0_loadOf cX0_loadOf 2 (some .int) ∈ z_all ∧ Cond.initialized yX0_loadOf.cls ∈ z_all ∧ 2 ≤ 70 ∧ yX0_loadOf.cls ≠ "java/lang/invoke/MethodHandle" ∧ yX0_loadOf.cls ≠ "java/lang/invoke/VarHandle" := ⟨z_mA4 (List.mem_of_getElem? (i := 194) rfl) rfl, z_in_0, by decide, by decide, by decide⟩
theorem st_X0_loadOf : Cond.static yX0_loadOf ∈ z_all := z_mA4 (List.mem_of_getElem? (i := 193) rfl) rfl
theorem wd_X0_outcomeOf : Cond.code yX0_outcomeOf cX0_outcomeOf 2 (some .long) ∈ z_all ∧ Cond.initialized yX0_outcomeOf.cls ∈ z_all ∧ 2 ≤ 70 ∧ yX0_outcomeOf.cls ≠ "java/lang/invoke/MethodHandle" ∧ yX0_outcomeOf.cls ≠ "java/lang/invoke/VarHandle" := ⟨z_mA4 (List.mem_of_getElem? (i := 142) rfl) rfl, z_in_0, by decide, by decide, by decide⟩
theorem st_X0_outcomeOf : Cond.static yX0_outcomeOf ∈ z_all := z_mA4 (List.mem_of_getElem? (i := 141) rfl) rfl
theorem wd_X0_undoCells : Cond.code yX0_undoCells cX0_undoCells 3 none ∈ z_all ∧ Cond.initialized yX0_undoCells.cls ∈ z_all ∧ 3 ≤ 70 ∧ yX0_undoCells.cls ≠ "java/lang/invoke/MethodHandle" ∧ yX0_undoCells.cls ≠ "java/lang/invoke/VarHandle" := ⟨z_mA4 (List.mem_of_getElem? (i := 198) rfl) rfl, z_in_0, by decide, by decide, by decide⟩
theorem im_X0_undoCells : Cond.instanceMethod yX0_undoCells ∈ z_all := z_mA4 (List.mem_of_getElem? (i := 197) rfl) rfl
theorem se_X0_undoCells : Cond.selects yX0_undoCells.cls yX0_undoCells yX0_undoCells ∈ z_all := z_msel (q := (yX0_undoCells, _)) (List.mem_of_getElem? (i := 26) rfl)
theorem wd_X0_letGo : Cond.code yX0_letGo cX0_letGo 5 none ∈ z_all ∧ Cond.initialized yX0_letGo.cls ∈ z_all ∧ 5 ≤ 70 ∧ yX0_letGo.cls ≠ "java/lang/invoke/MethodHandle" ∧ yX0_letGo.cls ≠ "java/lang/invoke/VarHandle" := ⟨z_mA4 (List.mem_of_getElem? (i := 191) rfl) rfl, z_in_0, by decide, by decide, by decide⟩
theorem im_X0_letGo : Cond.instanceMethod yX0_letGo ∈ z_all := z_mA4 (List.mem_of_getElem? (i := 190) rfl) rfl
theorem se_X0_letGo : Cond.selects yX0_letGo.cls yX0_letGo yX0_letGo ∈ z_all := z_msel (q := (yX0_letGo, _)) (List.mem_of_getElem? (i := 25) rfl)
theorem wd_X11_bitsOf : Cond.code yX11_bitsOf cX11_bitsOf 12 (some .long) ∈ z_all ∧ Cond.initialized yX11_bitsOf.cls ∈ z_all ∧ 12 ≤ 70 ∧ yX11_bitsOf.cls ≠ "java/lang/invoke/MethodHandle" ∧ yX11_bitsOf.cls ≠ "java/lang/invoke/VarHandle" := ⟨z_mA2 (List.mem_of_getElem? (i := 169) rfl) rfl, z_in_11, by decide, by decide, by decide⟩
theorem st_X11_bitsOf : Cond.static yX11_bitsOf ∈ z_all := z_mA2 (List.mem_of_getElem? (i := 168) rfl) rfl
theorem wd_X8_cellOfWhole : Cond.code yX8_cellOfWhole cX8_cellOfWhole 3 (some .long) ∈ z_all ∧ Cond.initialized yX8_cellOfWhole.cls ∈ z_all ∧ 3 ≤ 70 ∧ yX8_cellOfWhole.cls ≠ "java/lang/invoke/MethodHandle" ∧ yX8_cellOfWhole.cls ≠ "java/lang/invoke/VarHandle" := ⟨z_mA2 (List.mem_of_getElem? (i := 166) rfl) rfl, z_in_8, by decide, by decide, by decide⟩
theorem st_X8_cellOfWhole : Cond.static yX8_cellOfWhole ∈ z_all := z_mA2 (List.mem_of_getElem? (i := 165) rfl) rfl
theorem wd_X8_hasCell : Cond.code yX8_hasCell cX8_hasCell 2 (some .boolean) ∈ z_all ∧ Cond.initialized yX8_hasCell.cls ∈ z_all ∧ 2 ≤ 70 ∧ yX8_hasCell.cls ≠ "java/lang/invoke/MethodHandle" ∧ yX8_hasCell.cls ≠ "java/lang/invoke/VarHandle" := ⟨z_mA2 (List.mem_of_getElem? (i := 159) rfl) rfl, z_in_8, by decide, by decide, by decide⟩
theorem im_X8_hasCell : Cond.instanceMethod yX8_hasCell ∈ z_all := z_mA2 (List.mem_of_getElem? (i := 157) rfl) rfl
theorem se_X8_hasCell : Cond.selects yX8_hasCell.cls yX8_hasCell yX8_hasCell ∈ z_all := z_mA2 (List.mem_of_getElem? (i := 158) rfl) rfl
theorem wd_X0_putCell : Cond.code yX0_putCell cX0_putCell 5 (some .long) ∈ z_all ∧ Cond.initialized yX0_putCell.cls ∈ z_all ∧ 5 ≤ 70 ∧ yX0_putCell.cls ≠ "java/lang/invoke/MethodHandle" ∧ yX0_putCell.cls ≠ "java/lang/invoke/VarHandle" := ⟨z_mA4 (List.mem_of_getElem? (i := 151) rfl) rfl, z_in_0, by decide, by decide, by decide⟩
theorem im_X0_putCell : Cond.instanceMethod yX0_putCell ∈ z_all := z_mA4 (List.mem_of_getElem? (i := 150) rfl) rfl
theorem se_X0_putCell : Cond.selects yX0_putCell.cls yX0_putCell yX0_putCell ∈ z_all := z_msel (q := (yX0_putCell, _)) (List.mem_of_getElem? (i := 19) rfl)
theorem wd_X0_takeLitres : Cond.code yX0_takeLitres cX0_takeLitres 2 (some .long) ∈ z_all ∧ Cond.initialized yX0_takeLitres.cls ∈ z_all ∧ 2 ≤ 70 ∧ yX0_takeLitres.cls ≠ "java/lang/invoke/MethodHandle" ∧ yX0_takeLitres.cls ≠ "java/lang/invoke/VarHandle" := ⟨z_mA4 (List.mem_of_getElem? (i := 157) rfl) rfl, z_in_0, by decide, by decide, by decide⟩
theorem im_X0_takeLitres : Cond.instanceMethod yX0_takeLitres ∈ z_all := z_mA4 (List.mem_of_getElem? (i := 156) rfl) rfl
theorem se_X0_takeLitres : Cond.selects yX0_takeLitres.cls yX0_takeLitres yX0_takeLitres ∈ z_all := z_msel (q := (yX0_takeLitres, _)) (List.mem_of_getElem? (i := 20) rfl)
theorem wd_J9_max_f86c9 : Cond.code yJ9_max_f86c9 cJ9_max_f86c9 4 (some .long) ∈ z_all ∧ Cond.initialized yJ9_max_f86c9.cls ∈ z_all ∧ 4 ≤ 70 ∧ yJ9_max_f86c9.cls ≠ "java/lang/invoke/MethodHandle" ∧ yJ9_max_f86c9.cls ≠ "java/lang/invoke/VarHandle" := ⟨z_mA4 (List.mem_of_getElem? (i := 168) rfl) rfl, z_in_14, by decide, by decide, by decide⟩
theorem st_J9_max_f86c9 : Cond.static yJ9_max_f86c9 ∈ z_all := z_mA4 (List.mem_of_getElem? (i := 167) rfl) rfl
theorem wd_J9_min_f86c9 : Cond.code yJ9_min_f86c9 cJ9_min_f86c9 4 (some .long) ∈ z_all ∧ Cond.initialized yJ9_min_f86c9.cls ∈ z_all ∧ 4 ≤ 70 ∧ yJ9_min_f86c9.cls ≠ "java/lang/invoke/MethodHandle" ∧ yJ9_min_f86c9.cls ≠ "java/lang/invoke/VarHandle" := ⟨z_mA4 (List.mem_of_getElem? (i := 165) rfl) rfl, z_in_14, by decide, by decide, by decide⟩
theorem st_J9_min_f86c9 : Cond.static yJ9_min_f86c9 ∈ z_all := z_mA4 (List.mem_of_getElem? (i := 164) rfl) rfl
theorem wd_X0_turnGate : Cond.code yX0_turnGate cX0_turnGate 3 (some .long) ∈ z_all ∧ Cond.initialized yX0_turnGate.cls ∈ z_all ∧ 3 ≤ 70 ∧ yX0_turnGate.cls ≠ "java/lang/invoke/MethodHandle" ∧ yX0_turnGate.cls ≠ "java/lang/invoke/VarHandle" := ⟨z_mA4 (List.mem_of_getElem? (i := 161) rfl) rfl, z_in_0, by decide, by decide, by decide⟩
theorem im_X0_turnGate : Cond.instanceMethod yX0_turnGate ∈ z_all := z_mA4 (List.mem_of_getElem? (i := 160) rfl) rfl
theorem se_X0_turnGate : Cond.selects yX0_turnGate.cls yX0_turnGate yX0_turnGate ∈ z_all := z_msel (q := (yX0_turnGate, _)) (List.mem_of_getElem? (i := 21) rfl)
theorem wd_X0_keepSignal : Cond.code yX0_keepSignal cX0_keepSignal 2 none ∈ z_all ∧ Cond.initialized yX0_keepSignal.cls ∈ z_all ∧ 2 ≤ 70 ∧ yX0_keepSignal.cls ≠ "java/lang/invoke/MethodHandle" ∧ yX0_keepSignal.cls ≠ "java/lang/invoke/VarHandle" := ⟨z_mA4 (List.mem_of_getElem? (i := 172) rfl) rfl, z_in_0, by decide, by decide, by decide⟩
theorem im_X0_keepSignal : Cond.instanceMethod yX0_keepSignal ∈ z_all := z_mA4 (List.mem_of_getElem? (i := 171) rfl) rfl
theorem se_X0_keepSignal : Cond.selects yX0_keepSignal.cls yX0_keepSignal yX0_keepSignal ∈ z_all := z_msel (q := (yX0_keepSignal, _)) (List.mem_of_getElem? (i := 22) rfl)
theorem wd_X0_sumInto : Cond.code yX0_sumInto cX0_sumInto 5 (some .long) ∈ z_all ∧ Cond.initialized yX0_sumInto.cls ∈ z_all ∧ 5 ≤ 70 ∧ yX0_sumInto.cls ≠ "java/lang/invoke/MethodHandle" ∧ yX0_sumInto.cls ≠ "java/lang/invoke/VarHandle" := ⟨z_mA4 (List.mem_of_getElem? (i := 186) rfl) rfl, z_in_0, by decide, by decide, by decide⟩
theorem im_X0_sumInto : Cond.instanceMethod yX0_sumInto ∈ z_all := z_mA4 (List.mem_of_getElem? (i := 185) rfl) rfl
theorem se_X0_sumInto : Cond.selects yX0_sumInto.cls yX0_sumInto yX0_sumInto ∈ z_all := z_msel (q := (yX0_sumInto, _)) (List.mem_of_getElem? (i := 24) rfl)
theorem wd_X0_isCaught : Cond.code yX0_isCaught cX0_isCaught 2 (some .boolean) ∈ z_all ∧ Cond.initialized yX0_isCaught.cls ∈ z_all ∧ 2 ≤ 70 ∧ yX0_isCaught.cls ≠ "java/lang/invoke/MethodHandle" ∧ yX0_isCaught.cls ≠ "java/lang/invoke/VarHandle" := ⟨z_mA4 (List.mem_of_getElem? (i := 182) rfl) rfl, z_in_0, by decide, by decide, by decide⟩
theorem st_X0_isCaught : Cond.static yX0_isCaught ∈ z_all := z_mA4 (List.mem_of_getElem? (i := 181) rfl) rfl
theorem wd_X1_init : Cond.code yX1_init cX1_init 3 none ∈ z_all ∧ Cond.initialized yX1_init.cls ∈ z_all ∧ 3 ≤ 70 ∧ yX1_init.cls ≠ "java/lang/invoke/MethodHandle" ∧ yX1_init.cls ≠ "java/lang/invoke/VarHandle" := ⟨z_mA3 (List.mem_of_getElem? (i := 49) rfl) rfl, z_in_1, by decide, by decide, by decide⟩
theorem im_X1_init : Cond.instanceMethod yX1_init ∈ z_all := z_mA3 (List.mem_of_getElem? (i := 48) rfl) rfl
theorem wd_X8_init : Cond.code yX8_init cX8_init 3 none ∈ z_all ∧ Cond.initialized yX8_init.cls ∈ z_all ∧ 3 ≤ 70 ∧ yX8_init.cls ≠ "java/lang/invoke/MethodHandle" ∧ yX8_init.cls ≠ "java/lang/invoke/VarHandle" := ⟨z_mA2 (List.mem_of_getElem? (i := 122) rfl) rfl, z_in_8, by decide, by decide, by decide⟩
theorem im_X8_init : Cond.instanceMethod yX8_init ∈ z_all := z_mA2 (List.mem_of_getElem? (i := 121) rfl) rfl
theorem wd_X1_fill : Cond.code yX1_fill cX1_fill 3 none ∈ z_all ∧ Cond.initialized yX1_fill.cls ∈ z_all ∧ 3 ≤ 70 ∧ yX1_fill.cls ≠ "java/lang/invoke/MethodHandle" ∧ yX1_fill.cls ≠ "java/lang/invoke/VarHandle" := ⟨z_mA3 (List.mem_of_getElem? (i := 64) rfl) rfl, z_in_1, by decide, by decide, by decide⟩
theorem im_X1_fill : Cond.instanceMethod yX1_fill ∈ z_all := z_mA3 (List.mem_of_getElem? (i := 62) rfl) rfl
theorem se_X1_fill : Cond.selects yX1_fill.cls yX1_fill yX1_fill ∈ z_all := z_mA3 (List.mem_of_getElem? (i := 63) rfl) rfl
theorem wd_X1_spotFailure : Cond.code yX1_spotFailure cX1_spotFailure 3 (some .int) ∈ z_all ∧ Cond.initialized yX1_spotFailure.cls ∈ z_all ∧ 3 ≤ 70 ∧ yX1_spotFailure.cls ≠ "java/lang/invoke/MethodHandle" ∧ yX1_spotFailure.cls ≠ "java/lang/invoke/VarHandle" := ⟨z_mA3 (List.mem_of_getElem? (i := 77) rfl) rfl, z_in_1, by decide, by decide, by decide⟩
theorem im_X1_spotFailure : Cond.instanceMethod yX1_spotFailure ∈ z_all := z_mA3 (List.mem_of_getElem? (i := 75) rfl) rfl
theorem se_X1_spotFailure : Cond.selects yX1_spotFailure.cls yX1_spotFailure yX1_spotFailure ∈ z_all := z_mA3 (List.mem_of_getElem? (i := 76) rfl) rfl
theorem wd_X1_bareStrip : Cond.code yX1_bareStrip cX1_bareStrip 4 (some .int) ∈ z_all ∧ Cond.initialized yX1_bareStrip.cls ∈ z_all ∧ 4 ≤ 70 ∧ yX1_bareStrip.cls ≠ "java/lang/invoke/MethodHandle" ∧ yX1_bareStrip.cls ≠ "java/lang/invoke/VarHandle" := ⟨z_mA3 (List.mem_of_getElem? (i := 90) rfl) rfl, z_in_1, by decide, by decide, by decide⟩
theorem im_X1_bareStrip : Cond.instanceMethod yX1_bareStrip ∈ z_all := z_mA3 (List.mem_of_getElem? (i := 88) rfl) rfl
theorem se_X1_bareStrip : Cond.selects yX1_bareStrip.cls yX1_bareStrip yX1_bareStrip ∈ z_all := z_mA3 (List.mem_of_getElem? (i := 89) rfl) rfl
theorem wd_X2_init : Cond.code yX2_init cX2_init 1 none ∈ z_all ∧ Cond.initialized yX2_init.cls ∈ z_all ∧ 1 ≤ 70 ∧ yX2_init.cls ≠ "java/lang/invoke/MethodHandle" ∧ yX2_init.cls ≠ "java/lang/invoke/VarHandle" := ⟨z_mA2 (List.mem_of_getElem? (i := 28) rfl) rfl, z_in_2, by decide, by decide, by decide⟩
theorem im_X2_init : Cond.instanceMethod yX2_init ∈ z_all := z_mA2 (List.mem_of_getElem? (i := 27) rfl) rfl
theorem wd_X2_byteAt : Cond.code yX2_byteAt cX2_byteAt 3 (some .int) ∈ z_all ∧ Cond.initialized yX2_byteAt.cls ∈ z_all ∧ 3 ≤ 70 ∧ yX2_byteAt.cls ≠ "java/lang/invoke/MethodHandle" ∧ yX2_byteAt.cls ≠ "java/lang/invoke/VarHandle" := ⟨z_mA6 (List.mem_of_getElem? (i := 70) rfl) rfl, z_in_2, by decide, by decide, by decide⟩
theorem im_X2_byteAt : Cond.instanceMethod yX2_byteAt ∈ z_all := z_mA6 (List.mem_of_getElem? (i := 68) rfl) rfl
theorem se_X2_byteAt : Cond.selects yX2_byteAt.cls yX2_byteAt yX2_byteAt ∈ z_all := z_mA6 (List.mem_of_getElem? (i := 69) rfl) rfl
theorem wd_X2_setByte : Cond.code yX2_setByte cX2_setByte 4 none ∈ z_all ∧ Cond.initialized yX2_setByte.cls ∈ z_all ∧ 4 ≤ 70 ∧ yX2_setByte.cls ≠ "java/lang/invoke/MethodHandle" ∧ yX2_setByte.cls ≠ "java/lang/invoke/VarHandle" := ⟨z_mA6 (List.mem_of_getElem? (i := 62) rfl) rfl, z_in_2, by decide, by decide, by decide⟩
theorem im_X2_setByte : Cond.instanceMethod yX2_setByte ∈ z_all := z_mA6 (List.mem_of_getElem? (i := 61) rfl) rfl
theorem se_X2_setByte : Cond.selects yX2_setByte.cls yX2_setByte yX2_setByte ∈ z_all := z_msel (q := (yX2_setByte, _)) (List.mem_of_getElem? (i := 45) rfl)
theorem wd_X2_sumOf : Cond.code yX2_sumOf cX2_sumOf 4 (some .int) ∈ z_all ∧ Cond.initialized yX2_sumOf.cls ∈ z_all ∧ 4 ≤ 70 ∧ yX2_sumOf.cls ≠ "java/lang/invoke/MethodHandle" ∧ yX2_sumOf.cls ≠ "java/lang/invoke/VarHandle" := ⟨z_mA6 (List.mem_of_getElem? (i := 74) rfl) rfl, z_in_2, by decide, by decide, by decide⟩
theorem im_X2_sumOf : Cond.instanceMethod yX2_sumOf ∈ z_all := z_mA6 (List.mem_of_getElem? (i := 73) rfl) rfl
theorem se_X2_sumOf : Cond.selects yX2_sumOf.cls yX2_sumOf yX2_sumOf ∈ z_all := z_msel (q := (yX2_sumOf, _)) (List.mem_of_getElem? (i := 47) rfl)
theorem wd_X2_writtenSum : Cond.code yX2_writtenSum cX2_writtenSum 4 (some .int) ∈ z_all ∧ Cond.initialized yX2_writtenSum.cls ∈ z_all ∧ 4 ≤ 70 ∧ yX2_writtenSum.cls ≠ "java/lang/invoke/MethodHandle" ∧ yX2_writtenSum.cls ≠ "java/lang/invoke/VarHandle" := ⟨z_mA6 (List.mem_of_getElem? (i := 79) rfl) rfl, z_in_2, by decide, by decide, by decide⟩
theorem im_X2_writtenSum : Cond.instanceMethod yX2_writtenSum ∈ z_all := z_mA6 (List.mem_of_getElem? (i := 78) rfl) rfl
theorem se_X2_writtenSum : Cond.selects yX2_writtenSum.cls yX2_writtenSum yX2_writtenSum ∈ z_all := z_msel (q := (yX2_writtenSum, _)) (List.mem_of_getElem? (i := 48) rfl)
theorem wd_X2_look : Cond.code yX2_look cX2_look 3 none ∈ z_all ∧ Cond.initialized yX2_look.cls ∈ z_all ∧ 3 ≤ 70 ∧ yX2_look.cls ≠ "java/lang/invoke/MethodHandle" ∧ yX2_look.cls ≠ "java/lang/invoke/VarHandle" := ⟨z_mA6 (List.mem_of_getElem? (i := 66) rfl) rfl, z_in_2, by decide, by decide, by decide⟩
theorem im_X2_look : Cond.instanceMethod yX2_look ∈ z_all := z_mA6 (List.mem_of_getElem? (i := 65) rfl) rfl
theorem se_X2_look : Cond.selects yX2_look.cls yX2_look yX2_look ∈ z_all := z_msel (q := (yX2_look, _)) (List.mem_of_getElem? (i := 46) rfl)
theorem wd_X2_clearFrom : Cond.code yX2_clearFrom cX2_clearFrom 4 none ∈ z_all ∧ Cond.initialized yX2_clearFrom.cls ∈ z_all ∧ 4 ≤ 70 ∧ yX2_clearFrom.cls ≠ "java/lang/invoke/MethodHandle" ∧ yX2_clearFrom.cls ≠ "java/lang/invoke/VarHandle" := ⟨z_mA6 (List.mem_of_getElem? (i := 58) rfl) rfl, z_in_2, by decide, by decide, by decide⟩
theorem im_X2_clearFrom : Cond.instanceMethod yX2_clearFrom ∈ z_all := z_mA6 (List.mem_of_getElem? (i := 56) rfl) rfl
theorem se_X2_clearFrom : Cond.selects yX2_clearFrom.cls yX2_clearFrom yX2_clearFrom ∈ z_all := z_mA6 (List.mem_of_getElem? (i := 57) rfl) rfl
theorem wd_X11_noNumber : Cond.code yX11_noNumber cX11_noNumber 2 (some .boolean) ∈ z_all ∧ Cond.initialized yX11_noNumber.cls ∈ z_all ∧ 2 ≤ 70 ∧ yX11_noNumber.cls ≠ "java/lang/invoke/MethodHandle" ∧ yX11_noNumber.cls ≠ "java/lang/invoke/VarHandle" := ⟨z_mA2 (List.mem_of_getElem? (i := 185) rfl) rfl, z_in_11, by decide, by decide, by decide⟩
theorem st_X11_noNumber : Cond.static yX11_noNumber ∈ z_all := z_mA2 (List.mem_of_getElem? (i := 184) rfl) rfl
theorem wd_X11_scaled : Cond.code yX11_scaled cX11_scaled 7 (some .double) ∈ z_all ∧ Cond.initialized yX11_scaled.cls ∈ z_all ∧ 7 ≤ 70 ∧ yX11_scaled.cls ≠ "java/lang/invoke/MethodHandle" ∧ yX11_scaled.cls ≠ "java/lang/invoke/VarHandle" := ⟨z_mA2 (List.mem_of_getElem? (i := 199) rfl) rfl, z_in_11, by decide, by decide, by decide⟩
theorem st_X11_scaled : Cond.static yX11_scaled ∈ z_all := z_mA2 (List.mem_of_getElem? (i := 198) rfl) rfl
theorem wd_J9_max_7cf53 : Cond.code yJ9_max_7cf53 cJ9_max_7cf53 2 (some .int) ∈ z_all ∧ Cond.initialized yJ9_max_7cf53.cls ∈ z_all ∧ 2 ≤ 70 ∧ yJ9_max_7cf53.cls ≠ "java/lang/invoke/MethodHandle" ∧ yJ9_max_7cf53.cls ≠ "java/lang/invoke/VarHandle" := ⟨z_mA2 (List.mem_of_getElem? (i := 196) rfl) rfl, z_in_14, by decide, by decide, by decide⟩
theorem st_J9_max_7cf53 : Cond.static yJ9_max_7cf53 ∈ z_all := z_mA2 (List.mem_of_getElem? (i := 195) rfl) rfl
theorem wd_X11_realOf : Cond.code yX11_realOf cX11_realOf 7 (some .double) ∈ z_all ∧ Cond.initialized yX11_realOf.cls ∈ z_all ∧ 7 ≤ 70 ∧ yX11_realOf.cls ≠ "java/lang/invoke/MethodHandle" ∧ yX11_realOf.cls ≠ "java/lang/invoke/VarHandle" := ⟨z_mA2 (List.mem_of_getElem? (i := 190) rfl) rfl, z_in_11, by decide, by decide, by decide⟩
theorem st_X11_realOf : Cond.static yX11_realOf ∈ z_all := z_mA2 (List.mem_of_getElem? (i := 189) rfl) rfl
theorem wd_X8_wholeOfCell : Cond.code yX8_wholeOfCell cX8_wholeOfCell 3 (some .long) ∈ z_all ∧ Cond.initialized yX8_wholeOfCell.cls ∈ z_all ∧ 3 ≤ 70 ∧ yX8_wholeOfCell.cls ≠ "java/lang/invoke/MethodHandle" ∧ yX8_wholeOfCell.cls ≠ "java/lang/invoke/VarHandle" := ⟨z_mA2 (List.mem_of_getElem? (i := 211) rfl) rfl, z_in_8, by decide, by decide, by decide⟩
theorem st_X8_wholeOfCell : Cond.static yX8_wholeOfCell ∈ z_all := z_mA2 (List.mem_of_getElem? (i := 210) rfl) rfl
theorem wd_X8_wholeAt : Cond.code yX8_wholeAt cX8_wholeAt 2 (some .long) ∈ z_all ∧ Cond.initialized yX8_wholeAt.cls ∈ z_all ∧ 2 ≤ 70 ∧ yX8_wholeAt.cls ≠ "java/lang/invoke/MethodHandle" ∧ yX8_wholeAt.cls ≠ "java/lang/invoke/VarHandle" := ⟨z_mA2 (List.mem_of_getElem? (i := 208) rfl) rfl, z_in_8, by decide, by decide, by decide⟩
theorem im_X8_wholeAt : Cond.instanceMethod yX8_wholeAt ∈ z_all := z_mA2 (List.mem_of_getElem? (i := 206) rfl) rfl
theorem se_X8_wholeAt : Cond.selects yX8_wholeAt.cls yX8_wholeAt yX8_wholeAt ∈ z_all := z_mA2 (List.mem_of_getElem? (i := 207) rfl) rfl
theorem wd_X2_write : Cond.code yX2_write cX2_write 5 none ∈ z_all ∧ Cond.initialized yX2_write.cls ∈ z_all ∧ 5 ≤ 70 ∧ yX2_write.cls ≠ "java/lang/invoke/MethodHandle" ∧ yX2_write.cls ≠ "java/lang/invoke/VarHandle" := ⟨z_mA6 (List.mem_of_getElem? (i := 54) rfl) rfl, z_in_2, by decide, by decide, by decide⟩
theorem im_X2_write : Cond.instanceMethod yX2_write ∈ z_all := z_mA6 (List.mem_of_getElem? (i := 52) rfl) rfl
theorem se_X2_write : Cond.selects yX2_write.cls yX2_write yX2_write ∈ z_all := z_mA6 (List.mem_of_getElem? (i := 53) rfl) rfl
theorem wd_X2_alter : Cond.code yX2_alter cX2_alter 4 none ∈ z_all ∧ Cond.initialized yX2_alter.cls ∈ z_all ∧ 4 ≤ 70 ∧ yX2_alter.cls ≠ "java/lang/invoke/MethodHandle" ∧ yX2_alter.cls ≠ "java/lang/invoke/VarHandle" := ⟨z_mA6 (List.mem_of_getElem? (i := 93) rfl) rfl, z_in_2, by decide, by decide, by decide⟩
theorem im_X2_alter : Cond.instanceMethod yX2_alter ∈ z_all := z_mA6 (List.mem_of_getElem? (i := 91) rfl) rfl
theorem se_X2_alter : Cond.selects yX2_alter.cls yX2_alter yX2_alter ∈ z_all := z_mA6 (List.mem_of_getElem? (i := 92) rfl) rfl
theorem wd_X2_copyPage : Cond.code yX2_copyPage cX2_copyPage 3 none ∈ z_all ∧ Cond.initialized yX2_copyPage.cls ∈ z_all ∧ 3 ≤ 70 ∧ yX2_copyPage.cls ≠ "java/lang/invoke/MethodHandle" ∧ yX2_copyPage.cls ≠ "java/lang/invoke/VarHandle" := ⟨z_mA6 (List.mem_of_getElem? (i := 106) rfl) rfl, z_in_2, by decide, by decide, by decide⟩
theorem im_X2_copyPage : Cond.instanceMethod yX2_copyPage ∈ z_all := z_mA6 (List.mem_of_getElem? (i := 104) rfl) rfl
theorem se_X2_copyPage : Cond.selects yX2_copyPage.cls yX2_copyPage yX2_copyPage ∈ z_all := z_mA6 (List.mem_of_getElem? (i := 105) rfl) rfl
theorem wd_X2_isEmpty : Cond.code yX2_isEmpty cX2_isEmpty 3 (some .boolean) ∈ z_all ∧ Cond.initialized yX2_isEmpty.cls ∈ z_all ∧ 3 ≤ 70 ∧ yX2_isEmpty.cls ≠ "java/lang/invoke/MethodHandle" ∧ yX2_isEmpty.cls ≠ "java/lang/invoke/VarHandle" := ⟨z_mA6 (List.mem_of_getElem? (i := 123) rfl) rfl, z_in_2, by decide, by decide, by decide⟩
theorem im_X2_isEmpty : Cond.instanceMethod yX2_isEmpty ∈ z_all := z_mA6 (List.mem_of_getElem? (i := 122) rfl) rfl
theorem se_X2_isEmpty : Cond.selects yX2_isEmpty.cls yX2_isEmpty yX2_isEmpty ∈ z_all := z_msel (q := (yX2_isEmpty, _)) (List.mem_of_getElem? (i := 50) rfl)
theorem wd_X2_isSame : Cond.code yX2_isSame cX2_isSame 4 (some .boolean) ∈ z_all ∧ Cond.initialized yX2_isSame.cls ∈ z_all ∧ 4 ≤ 70 ∧ yX2_isSame.cls ≠ "java/lang/invoke/MethodHandle" ∧ yX2_isSame.cls ≠ "java/lang/invoke/VarHandle" := ⟨z_mA6 (List.mem_of_getElem? (i := 131) rfl) rfl, z_in_2, by decide, by decide, by decide⟩
theorem im_X2_isSame : Cond.instanceMethod yX2_isSame ∈ z_all := z_mA6 (List.mem_of_getElem? (i := 130) rfl) rfl
theorem se_X2_isSame : Cond.selects yX2_isSame.cls yX2_isSame yX2_isSame ∈ z_all := z_msel (q := (yX2_isSame, _)) (List.mem_of_getElem? (i := 52) rfl)
theorem wd_X2_firstOf : Cond.code yX2_firstOf cX2_firstOf 3 (some .int) ∈ z_all ∧ Cond.initialized yX2_firstOf.cls ∈ z_all ∧ 3 ≤ 70 ∧ yX2_firstOf.cls ≠ "java/lang/invoke/MethodHandle" ∧ yX2_firstOf.cls ≠ "java/lang/invoke/VarHandle" := ⟨z_mA6 (List.mem_of_getElem? (i := 127) rfl) rfl, z_in_2, by decide, by decide, by decide⟩
theorem im_X2_firstOf : Cond.instanceMethod yX2_firstOf ∈ z_all := z_mA6 (List.mem_of_getElem? (i := 126) rfl) rfl
theorem se_X2_firstOf : Cond.selects yX2_firstOf.cls yX2_firstOf yX2_firstOf ∈ z_all := z_msel (q := (yX2_firstOf, _)) (List.mem_of_getElem? (i := 51) rfl)
theorem wd_X2_fateOf : Cond.code yX2_fateOf cX2_fateOf 3 (some .int) ∈ z_all ∧ Cond.initialized yX2_fateOf.cls ∈ z_all ∧ 3 ≤ 70 ∧ yX2_fateOf.cls ≠ "java/lang/invoke/MethodHandle" ∧ yX2_fateOf.cls ≠ "java/lang/invoke/VarHandle" := ⟨z_mA6 (List.mem_of_getElem? (i := 119) rfl) rfl, z_in_2, by decide, by decide, by decide⟩
theorem im_X2_fateOf : Cond.instanceMethod yX2_fateOf ∈ z_all := z_mA6 (List.mem_of_getElem? (i := 118) rfl) rfl
theorem se_X2_fateOf : Cond.selects yX2_fateOf.cls yX2_fateOf yX2_fateOf ∈ z_all := z_msel (q := (yX2_fateOf, _)) (List.mem_of_getElem? (i := 49) rfl)
theorem wd_X2_pagesOf : Cond.code yX2_pagesOf cX2_pagesOf 4 (some .int) ∈ z_all ∧ Cond.initialized yX2_pagesOf.cls ∈ z_all ∧ 4 ≤ 70 ∧ yX2_pagesOf.cls ≠ "java/lang/invoke/MethodHandle" ∧ yX2_pagesOf.cls ≠ "java/lang/invoke/VarHandle" := ⟨z_mA6 (List.mem_of_getElem? (i := 115) rfl) rfl, z_in_2, by decide, by decide, by decide⟩
theorem im_X2_pagesOf : Cond.instanceMethod yX2_pagesOf ∈ z_all := z_mA6 (List.mem_of_getElem? (i := 113) rfl) rfl
theorem se_X2_pagesOf : Cond.selects yX2_pagesOf.cls yX2_pagesOf yX2_pagesOf ∈ z_all := z_mA6 (List.mem_of_getElem? (i := 114) rfl) rfl
theorem wd_X2_pageOf : Cond.code yX2_pageOf cX2_pageOf 5 (some .int) ∈ z_all ∧ Cond.initialized yX2_pageOf.cls ∈ z_all ∧ 5 ≤ 70 ∧ yX2_pageOf.cls ≠ "java/lang/invoke/MethodHandle" ∧ yX2_pageOf.cls ≠ "java/lang/invoke/VarHandle" := ⟨z_mA6 (List.mem_of_getElem? (i := 151) rfl) rfl, z_in_2, by decide, by decide, by decide⟩
theorem im_X2_pageOf : Cond.instanceMethod yX2_pageOf ∈ z_all := z_mA6 (List.mem_of_getElem? (i := 149) rfl) rfl
theorem se_X2_pageOf : Cond.selects yX2_pageOf.cls yX2_pageOf yX2_pageOf ∈ z_all := z_mA6 (List.mem_of_getElem? (i := 150) rfl) rfl
theorem wd_X2_leastAbove : Cond.code yX2_leastAbove cX2_leastAbove 4 (some .int) ∈ z_all ∧ Cond.initialized yX2_leastAbove.cls ∈ z_all ∧ 4 ≤ 70 ∧ yX2_leastAbove.cls ≠ "java/lang/invoke/MethodHandle" ∧ yX2_leastAbove.cls ≠ "java/lang/invoke/VarHandle" := ⟨z_mA6 (List.mem_of_getElem? (i := 143) rfl) rfl, z_in_2, by decide, by decide, by decide⟩
theorem im_X2_leastAbove : Cond.instanceMethod yX2_leastAbove ∈ z_all := z_mA6 (List.mem_of_getElem? (i := 142) rfl) rfl
theorem se_X2_leastAbove : Cond.selects yX2_leastAbove.cls yX2_leastAbove yX2_leastAbove ∈ z_all := z_msel (q := (yX2_leastAbove, _)) (List.mem_of_getElem? (i := 53) rfl)
theorem wd_X2_pageOfRow : Cond.code yX2_pageOfRow cX2_pageOfRow 4 (some .int) ∈ z_all ∧ Cond.initialized yX2_pageOfRow.cls ∈ z_all ∧ 4 ≤ 70 ∧ yX2_pageOfRow.cls ≠ "java/lang/invoke/MethodHandle" ∧ yX2_pageOfRow.cls ≠ "java/lang/invoke/VarHandle" := ⟨z_mA6 (List.mem_of_getElem? (i := 139) rfl) rfl, z_in_2, by decide, by decide, by decide⟩
theorem im_X2_pageOfRow : Cond.instanceMethod yX2_pageOfRow ∈ z_all := z_mA6 (List.mem_of_getElem? (i := 137) rfl) rfl
theorem se_X2_pageOfRow : Cond.selects yX2_pageOfRow.cls yX2_pageOfRow yX2_pageOfRow ∈ z_all := z_mA6 (List.mem_of_getElem? (i := 138) rfl) rfl
theorem wd_X3_init : Cond.code yX3_init cX3_init 1 none ∈ z_all ∧ Cond.initialized yX3_init.cls ∈ z_all ∧ 1 ≤ 70 ∧ yX3_init.cls ≠ "java/lang/invoke/MethodHandle" ∧ yX3_init.cls ≠ "java/lang/invoke/VarHandle" := ⟨z_mA3 (List.mem_of_getElem? (i := 229) rfl) rfl, z_in_3, by decide, by decide, by decide⟩
theorem im_X3_init : Cond.instanceMethod yX3_init ∈ z_all := z_mA3 (List.mem_of_getElem? (i := 228) rfl) rfl
theorem wd_X3_wholeAt : Cond.code yX3_wholeAt cX3_wholeAt 2 (some .long) ∈ z_all ∧ Cond.initialized yX3_wholeAt.cls ∈ z_all ∧ 2 ≤ 70 ∧ yX3_wholeAt.cls ≠ "java/lang/invoke/MethodHandle" ∧ yX3_wholeAt.cls ≠ "java/lang/invoke/VarHandle" := ⟨z_mA4 (List.mem_of_getElem? (i := 23) rfl) rfl, z_in_3, by decide, by decide, by decide⟩
theorem im_X3_wholeAt : Cond.instanceMethod yX3_wholeAt ∈ z_all := z_mA4 (List.mem_of_getElem? (i := 21) rfl) rfl
theorem se_X3_wholeAt : Cond.selects yX3_wholeAt.cls yX3_wholeAt yX3_wholeAt ∈ z_all := z_mA4 (List.mem_of_getElem? (i := 22) rfl) rfl
theorem wd_X4_init : Cond.code yX4_init cX4_init 1 none ∈ z_all ∧ Cond.initialized yX4_init.cls ∈ z_all ∧ 1 ≤ 70 ∧ yX4_init.cls ≠ "java/lang/invoke/MethodHandle" ∧ yX4_init.cls ≠ "java/lang/invoke/VarHandle" := ⟨z_mA1 (List.mem_of_getElem? (i := 199) rfl) rfl, z_in_4, by decide, by decide, by decide⟩
theorem im_X4_init : Cond.instanceMethod yX4_init ∈ z_all := z_mA1 (List.mem_of_getElem? (i := 198) rfl) rfl
theorem wd_X4_keepRule : Cond.code yX4_keepRule cX4_keepRule 10 (some .int) ∈ z_all ∧ Cond.initialized yX4_keepRule.cls ∈ z_all ∧ 10 ≤ 70 ∧ yX4_keepRule.cls ≠ "java/lang/invoke/MethodHandle" ∧ yX4_keepRule.cls ≠ "java/lang/invoke/VarHandle" := ⟨z_mA5 (List.mem_of_getElem? (i := 155) rfl) rfl, z_in_4, by decide, by decide, by decide⟩
theorem im_X4_keepRule : Cond.instanceMethod yX4_keepRule ∈ z_all := z_mA5 (List.mem_of_getElem? (i := 153) rfl) rfl
theorem se_X4_keepRule : Cond.selects yX4_keepRule.cls yX4_keepRule yX4_keepRule ∈ z_all := z_mA5 (List.mem_of_getElem? (i := 154) rfl) rfl
theorem wd_X4_firstRule : Cond.code yX4_firstRule cX4_firstRule 7 (some .int) ∈ z_all ∧ Cond.initialized yX4_firstRule.cls ∈ z_all ∧ 7 ≤ 70 ∧ yX4_firstRule.cls ≠ "java/lang/invoke/MethodHandle" ∧ yX4_firstRule.cls ≠ "java/lang/invoke/VarHandle" := ⟨z_mA5 (List.mem_of_getElem? (i := 97) rfl) rfl, z_in_4, by decide, by decide, by decide⟩
theorem im_X4_firstRule : Cond.instanceMethod yX4_firstRule ∈ z_all := z_mA5 (List.mem_of_getElem? (i := 95) rfl) rfl
theorem se_X4_firstRule : Cond.selects yX4_firstRule.cls yX4_firstRule yX4_firstRule ∈ z_all := z_mA5 (List.mem_of_getElem? (i := 96) rfl) rfl
theorem wd_X4_wishAt : Cond.code yX4_wishAt cX4_wishAt 5 (some .double) ∈ z_all ∧ Cond.initialized yX4_wishAt.cls ∈ z_all ∧ 5 ≤ 70 ∧ yX4_wishAt.cls ≠ "java/lang/invoke/MethodHandle" ∧ yX4_wishAt.cls ≠ "java/lang/invoke/VarHandle" := ⟨z_mA5 (List.mem_of_getElem? (i := 93) rfl) rfl, z_in_4, by decide, by decide, by decide⟩
theorem im_X4_wishAt : Cond.instanceMethod yX4_wishAt ∈ z_all := z_mA5 (List.mem_of_getElem? (i := 91) rfl) rfl
theorem se_X4_wishAt : Cond.selects yX4_wishAt.cls yX4_wishAt yX4_wishAt ∈ z_all := z_mA5 (List.mem_of_getElem? (i := 92) rfl) rfl
theorem wd_X4_keepRight : Cond.code yX4_keepRight cX4_keepRight 5 (some .int) ∈ z_all ∧ Cond.initialized yX4_keepRight.cls ∈ z_all ∧ 5 ≤ 70 ∧ yX4_keepRight.cls ≠ "java/lang/invoke/MethodHandle" ∧ yX4_keepRight.cls ≠ "java/lang/invoke/VarHandle" := ⟨z_mA5 (List.mem_of_getElem? (i := 169) rfl) rfl, z_in_4, by decide, by decide, by decide⟩
theorem im_X4_keepRight : Cond.instanceMethod yX4_keepRight ∈ z_all := z_mA5 (List.mem_of_getElem? (i := 167) rfl) rfl
theorem se_X4_keepRight : Cond.selects yX4_keepRight.cls yX4_keepRight yX4_keepRight ∈ z_all := z_mA5 (List.mem_of_getElem? (i := 168) rfl) rfl
theorem wd_X4_nextRank : Cond.code yX4_nextRank cX4_nextRank 4 (some .int) ∈ z_all ∧ Cond.initialized yX4_nextRank.cls ∈ z_all ∧ 4 ≤ 70 ∧ yX4_nextRank.cls ≠ "java/lang/invoke/MethodHandle" ∧ yX4_nextRank.cls ≠ "java/lang/invoke/VarHandle" := ⟨z_mA5 (List.mem_of_getElem? (i := 181) rfl) rfl, z_in_4, by decide, by decide, by decide⟩
theorem im_X4_nextRank : Cond.instanceMethod yX4_nextRank ∈ z_all := z_mA5 (List.mem_of_getElem? (i := 180) rfl) rfl
theorem se_X4_nextRank : Cond.selects yX4_nextRank.cls yX4_nextRank yX4_nextRank ∈ z_all := z_msel (q := (yX4_nextRank, _)) (List.mem_of_getElem? (i := 40) rfl)
theorem wd_X4_give : Cond.code yX4_give cX4_give 6 (some .long) ∈ z_all ∧ Cond.initialized yX4_give.cls ∈ z_all ∧ 6 ≤ 70 ∧ yX4_give.cls ≠ "java/lang/invoke/MethodHandle" ∧ yX4_give.cls ≠ "java/lang/invoke/VarHandle" := ⟨z_mA5 (List.mem_of_getElem? (i := 189) rfl) rfl, z_in_4, by decide, by decide, by decide⟩
theorem im_X4_give : Cond.instanceMethod yX4_give ∈ z_all := z_mA5 (List.mem_of_getElem? (i := 188) rfl) rfl
theorem se_X4_give : Cond.selects yX4_give.cls yX4_give yX4_give ∈ z_all := z_msel (q := (yX4_give, _)) (List.mem_of_getElem? (i := 42) rfl)
theorem wd_X4_partRank : Cond.code yX4_partRank cX4_partRank 11 (some .long) ∈ z_all ∧ Cond.initialized yX4_partRank.cls ∈ z_all ∧ 11 ≤ 70 ∧ yX4_partRank.cls ≠ "java/lang/invoke/MethodHandle" ∧ yX4_partRank.cls ≠ "java/lang/invoke/VarHandle" := ⟨z_mA5 (List.mem_of_getElem? (i := 185) rfl) rfl, z_in_4, by decide, by decide, by decide⟩
theorem im_X4_partRank : Cond.instanceMethod yX4_partRank ∈ z_all := z_mA5 (List.mem_of_getElem? (i := 184) rfl) rfl
theorem se_X4_partRank : Cond.selects yX4_partRank.cls yX4_partRank yX4_partRank ∈ z_all := z_msel (q := (yX4_partRank, _)) (List.mem_of_getElem? (i := 41) rfl)
theorem wd_X4_leftOfParting : Cond.code yX4_leftOfParting cX4_leftOfParting 7 (some .long) ∈ z_all ∧ Cond.initialized yX4_leftOfParting.cls ∈ z_all ∧ 7 ≤ 70 ∧ yX4_leftOfParting.cls ≠ "java/lang/invoke/MethodHandle" ∧ yX4_leftOfParting.cls ≠ "java/lang/invoke/VarHandle" := ⟨z_mA5 (List.mem_of_getElem? (i := 177) rfl) rfl, z_in_4, by decide, by decide, by decide⟩
theorem im_X4_leftOfParting : Cond.instanceMethod yX4_leftOfParting ∈ z_all := z_mA5 (List.mem_of_getElem? (i := 175) rfl) rfl
theorem se_X4_leftOfParting : Cond.selects yX4_leftOfParting.cls yX4_leftOfParting yX4_leftOfParting ∈ z_all := z_mA5 (List.mem_of_getElem? (i := 176) rfl) rfl
theorem wd_X5_init : Cond.code yX5_init cX5_init 1 none ∈ z_all ∧ Cond.initialized yX5_init.cls ∈ z_all ∧ 1 ≤ 70 ∧ yX5_init.cls ≠ "java/lang/invoke/MethodHandle" ∧ yX5_init.cls ≠ "java/lang/invoke/VarHandle" := ⟨z_mA2 (List.mem_of_getElem? (i := 5) rfl) rfl, z_in_5, by decide, by decide, by decide⟩
theorem im_X5_init : Cond.instanceMethod yX5_init ∈ z_all := z_mA2 (List.mem_of_getElem? (i := 4) rfl) rfl
theorem wd_X5_tellInflow : Cond.code yX5_tellInflow cX5_tellInflow 5 none ∈ z_all ∧ Cond.initialized yX5_tellInflow.cls ∈ z_all ∧ 5 ≤ 70 ∧ yX5_tellInflow.cls ≠ "java/lang/invoke/MethodHandle" ∧ yX5_tellInflow.cls ≠ "java/lang/invoke/VarHandle" := ⟨z_mA5 (List.mem_of_getElem? (i := 210) rfl) rfl, z_in_5, by decide, by decide, by decide⟩
theorem im_X5_tellInflow : Cond.instanceMethod yX5_tellInflow ∈ z_all := z_mA5 (List.mem_of_getElem? (i := 208) rfl) rfl
theorem se_X5_tellInflow : Cond.selects yX5_tellInflow.cls yX5_tellInflow yX5_tellInflow ∈ z_all := z_mA5 (List.mem_of_getElem? (i := 209) rfl) rfl
theorem wd_X5_tellRelease : Cond.code yX5_tellRelease cX5_tellRelease 4 none ∈ z_all ∧ Cond.initialized yX5_tellRelease.cls ∈ z_all ∧ 4 ≤ 70 ∧ yX5_tellRelease.cls ≠ "java/lang/invoke/MethodHandle" ∧ yX5_tellRelease.cls ≠ "java/lang/invoke/VarHandle" := ⟨z_mA5 (List.mem_of_getElem? (i := 220) rfl) rfl, z_in_5, by decide, by decide, by decide⟩
theorem im_X5_tellRelease : Cond.instanceMethod yX5_tellRelease ∈ z_all := z_mA5 (List.mem_of_getElem? (i := 218) rfl) rfl
theorem se_X5_tellRelease : Cond.selects yX5_tellRelease.cls yX5_tellRelease yX5_tellRelease ∈ z_all := z_mA5 (List.mem_of_getElem? (i := 219) rfl) rfl
theorem wd_X5_hasRelease : Cond.code yX5_hasRelease cX5_hasRelease 2 (some .boolean) ∈ z_all ∧ Cond.initialized yX5_hasRelease.cls ∈ z_all ∧ 2 ≤ 70 ∧ yX5_hasRelease.cls ≠ "java/lang/invoke/MethodHandle" ∧ yX5_hasRelease.cls ≠ "java/lang/invoke/VarHandle" := ⟨z_mA5 (List.mem_of_getElem? (i := 228) rfl) rfl, z_in_5, by decide, by decide, by decide⟩
theorem im_X5_hasRelease : Cond.instanceMethod yX5_hasRelease ∈ z_all := z_mA5 (List.mem_of_getElem? (i := 226) rfl) rfl
theorem se_X5_hasRelease : Cond.selects yX5_hasRelease.cls yX5_hasRelease yX5_hasRelease ∈ z_all := z_mA5 (List.mem_of_getElem? (i := 227) rfl) rfl
theorem wd_X5_lacks : Cond.code yX5_lacks cX5_lacks 3 (some .boolean) ∈ z_all ∧ Cond.initialized yX5_lacks.cls ∈ z_all ∧ 3 ≤ 70 ∧ yX5_lacks.cls ≠ "java/lang/invoke/MethodHandle" ∧ yX5_lacks.cls ≠ "java/lang/invoke/VarHandle" := ⟨z_mA5 (List.mem_of_getElem? (i := 232) rfl) rfl, z_in_5, by decide, by decide, by decide⟩
theorem im_X5_lacks : Cond.instanceMethod yX5_lacks ∈ z_all := z_mA5 (List.mem_of_getElem? (i := 230) rfl) rfl
theorem se_X5_lacks : Cond.selects yX5_lacks.cls yX5_lacks yX5_lacks ∈ z_all := z_mA5 (List.mem_of_getElem? (i := 231) rfl) rfl
theorem wd_X5_nextVolume : Cond.code yX5_nextVolume cX5_nextVolume 8 (some .double) ∈ z_all ∧ Cond.initialized yX5_nextVolume.cls ∈ z_all ∧ 8 ≤ 70 ∧ yX5_nextVolume.cls ≠ "java/lang/invoke/MethodHandle" ∧ yX5_nextVolume.cls ≠ "java/lang/invoke/VarHandle" := ⟨z_mA6 (List.mem_of_getElem? (i := 0) rfl) rfl, z_in_5, by decide, by decide, by decide⟩
theorem im_X5_nextVolume : Cond.instanceMethod yX5_nextVolume ∈ z_all := z_mA5 (List.mem_of_getElem? (i := 239) rfl) rfl
theorem se_X5_nextVolume : Cond.selects yX5_nextVolume.cls yX5_nextVolume yX5_nextVolume ∈ z_all := z_msel (q := (yX5_nextVolume, _)) (List.mem_of_getElem? (i := 43) rfl)
theorem wd_X5_volumeBehind : Cond.code yX5_volumeBehind cX5_volumeBehind 9 (some .double) ∈ z_all ∧ Cond.initialized yX5_volumeBehind.cls ∈ z_all ∧ 9 ≤ 70 ∧ yX5_volumeBehind.cls ≠ "java/lang/invoke/MethodHandle" ∧ yX5_volumeBehind.cls ≠ "java/lang/invoke/VarHandle" := ⟨z_mA5 (List.mem_of_getElem? (i := 236) rfl) rfl, z_in_5, by decide, by decide, by decide⟩
theorem im_X5_volumeBehind : Cond.instanceMethod yX5_volumeBehind ∈ z_all := z_mA5 (List.mem_of_getElem? (i := 234) rfl) rfl
theorem se_X5_volumeBehind : Cond.selects yX5_volumeBehind.cls yX5_volumeBehind yX5_volumeBehind ∈ z_all := z_mA5 (List.mem_of_getElem? (i := 235) rfl) rfl
theorem wd_X6_unitsAt : Cond.code yX6_unitsAt cX6_unitsAt 1 (some .int) ∈ z_all ∧ Cond.initialized yX6_unitsAt.cls ∈ z_all ∧ 1 ≤ 70 ∧ yX6_unitsAt.cls ≠ "java/lang/invoke/MethodHandle" ∧ yX6_unitsAt.cls ≠ "java/lang/invoke/VarHandle" := ⟨z_mA4 (List.mem_of_getElem? (i := 224) rfl) rfl, z_in_6, by decide, by decide, by decide⟩
theorem st_X6_unitsAt : Cond.static yX6_unitsAt ∈ z_all := z_mA4 (List.mem_of_getElem? (i := 223) rfl) rfl
theorem wd_X5_lossOf : Cond.code yX5_lossOf cX5_lossOf 14 (some .double) ∈ z_all ∧ Cond.initialized yX5_lossOf.cls ∈ z_all ∧ 14 ≤ 70 ∧ yX5_lossOf.cls ≠ "java/lang/invoke/MethodHandle" ∧ yX5_lossOf.cls ≠ "java/lang/invoke/VarHandle" := ⟨z_mA6 (List.mem_of_getElem? (i := 13) rfl) rfl, z_in_5, by decide, by decide, by decide⟩
theorem im_X5_lossOf : Cond.instanceMethod yX5_lossOf ∈ z_all := z_mA6 (List.mem_of_getElem? (i := 12) rfl) rfl
theorem se_X5_lossOf : Cond.selects yX5_lossOf.cls yX5_lossOf yX5_lossOf ∈ z_all := z_msel (q := (yX5_lossOf, _)) (List.mem_of_getElem? (i := 44) rfl)
theorem wd_X5_regretOf : Cond.code yX5_regretOf cX5_regretOf 9 (some .double) ∈ z_all ∧ Cond.initialized yX5_regretOf.cls ∈ z_all ∧ 9 ≤ 70 ∧ yX5_regretOf.cls ≠ "java/lang/invoke/MethodHandle" ∧ yX5_regretOf.cls ≠ "java/lang/invoke/VarHandle" := ⟨z_mA6 (List.mem_of_getElem? (i := 8) rfl) rfl, z_in_5, by decide, by decide, by decide⟩
theorem im_X5_regretOf : Cond.instanceMethod yX5_regretOf ∈ z_all := z_mA6 (List.mem_of_getElem? (i := 6) rfl) rfl
theorem se_X5_regretOf : Cond.selects yX5_regretOf.cls yX5_regretOf yX5_regretOf ∈ z_all := z_mA6 (List.mem_of_getElem? (i := 7) rfl) rfl
theorem wd_X5_leastRegret : Cond.code yX5_leastRegret cX5_leastRegret 9 (some .int) ∈ z_all ∧ Cond.initialized yX5_leastRegret.cls ∈ z_all ∧ 9 ≤ 70 ∧ yX5_leastRegret.cls ≠ "java/lang/invoke/MethodHandle" ∧ yX5_leastRegret.cls ≠ "java/lang/invoke/VarHandle" := ⟨z_mA6 (List.mem_of_getElem? (i := 23) rfl) rfl, z_in_5, by decide, by decide, by decide⟩
theorem im_X5_leastRegret : Cond.instanceMethod yX5_leastRegret ∈ z_all := z_mA6 (List.mem_of_getElem? (i := 21) rfl) rfl
theorem se_X5_leastRegret : Cond.selects yX5_leastRegret.cls yX5_leastRegret yX5_leastRegret ∈ z_all := z_mA6 (List.mem_of_getElem? (i := 22) rfl) rfl
theorem wd_X5_peakHour : Cond.code yX5_peakHour cX5_peakHour 4 (some .int) ∈ z_all ∧ Cond.initialized yX5_peakHour.cls ∈ z_all ∧ 4 ≤ 70 ∧ yX5_peakHour.cls ≠ "java/lang/invoke/MethodHandle" ∧ yX5_peakHour.cls ≠ "java/lang/invoke/VarHandle" := ⟨z_mA6 (List.mem_of_getElem? (i := 32) rfl) rfl, z_in_5, by decide, by decide, by decide⟩
theorem im_X5_peakHour : Cond.instanceMethod yX5_peakHour ∈ z_all := z_mA6 (List.mem_of_getElem? (i := 30) rfl) rfl
theorem se_X5_peakHour : Cond.selects yX5_peakHour.cls yX5_peakHour yX5_peakHour ∈ z_all := z_mA6 (List.mem_of_getElem? (i := 31) rfl) rfl
theorem wd_X5_runsThatLackNot : Cond.code yX5_runsThatLackNot cX5_runsThatLackNot 3 (some .int) ∈ z_all ∧ Cond.initialized yX5_runsThatLackNot.cls ∈ z_all ∧ 3 ≤ 70 ∧ yX5_runsThatLackNot.cls ≠ "java/lang/invoke/MethodHandle" ∧ yX5_runsThatLackNot.cls ≠ "java/lang/invoke/VarHandle" := ⟨z_mA6 (List.mem_of_getElem? (i := 45) rfl) rfl, z_in_5, by decide, by decide, by decide⟩
theorem im_X5_runsThatLackNot : Cond.instanceMethod yX5_runsThatLackNot ∈ z_all := z_mA6 (List.mem_of_getElem? (i := 43) rfl) rfl
theorem se_X5_runsThatLackNot : Cond.selects yX5_runsThatLackNot.cls yX5_runsThatLackNot yX5_runsThatLackNot ∈ z_all := z_mA6 (List.mem_of_getElem? (i := 44) rfl) rfl
theorem wd_X5_runsAbove : Cond.code yX5_runsAbove cX5_runsAbove 6 (some .int) ∈ z_all ∧ Cond.initialized yX5_runsAbove.cls ∈ z_all ∧ 6 ≤ 70 ∧ yX5_runsAbove.cls ≠ "java/lang/invoke/MethodHandle" ∧ yX5_runsAbove.cls ≠ "java/lang/invoke/VarHandle" := ⟨z_mA6 (List.mem_of_getElem? (i := 40) rfl) rfl, z_in_5, by decide, by decide, by decide⟩
theorem im_X5_runsAbove : Cond.instanceMethod yX5_runsAbove ∈ z_all := z_mA6 (List.mem_of_getElem? (i := 38) rfl) rfl
theorem se_X5_runsAbove : Cond.selects yX5_runsAbove.cls yX5_runsAbove yX5_runsAbove ∈ z_all := z_mA6 (List.mem_of_getElem? (i := 39) rfl) rfl
theorem wd_X10_init : Cond.code yX10_init cX10_init 2 none ∈ z_all ∧ Cond.initialized yX10_init.cls ∈ z_all ∧ 2 ≤ 70 ∧ yX10_init.cls ≠ "java/lang/invoke/MethodHandle" ∧ yX10_init.cls ≠ "java/lang/invoke/VarHandle" := ⟨z_mA1 (List.mem_of_getElem? (i := 107) rfl) rfl, z_in_10, by decide, by decide, by decide⟩
theorem im_X10_init : Cond.instanceMethod yX10_init ∈ z_all := z_mA1 (List.mem_of_getElem? (i := 106) rfl) rfl
theorem wd_X6_init : Cond.code yX6_init cX6_init 2 none ∈ z_all ∧ Cond.initialized yX6_init.cls ∈ z_all ∧ 2 ≤ 70 ∧ yX6_init.cls ≠ "java/lang/invoke/MethodHandle" ∧ yX6_init.cls ≠ "java/lang/invoke/VarHandle" := ⟨z_mA1 (List.mem_of_getElem? (i := 99) rfl) rfl, z_in_6, by decide, by decide, by decide⟩
theorem im_X6_init : Cond.instanceMethod yX6_init ∈ z_all := z_mA1 (List.mem_of_getElem? (i := 98) rfl) rfl
theorem wd_X6_levelOf : Cond.code yX6_levelOf cX6_levelOf 7 (some .double) ∈ z_all ∧ Cond.initialized yX6_levelOf.cls ∈ z_all ∧ 7 ≤ 70 ∧ yX6_levelOf.cls ≠ "java/lang/invoke/MethodHandle" ∧ yX6_levelOf.cls ≠ "java/lang/invoke/VarHandle" := ⟨z_mA4 (List.mem_of_getElem? (i := 235) rfl) rfl, z_in_6, by decide, by decide, by decide⟩
theorem st_X6_levelOf : Cond.static yX6_levelOf ∈ z_all := z_mA4 (List.mem_of_getElem? (i := 234) rfl) rfl
theorem wd_X6_fall : Cond.code yX6_fall cX6_fall 7 none ∈ z_all ∧ Cond.initialized yX6_fall.cls ∈ z_all ∧ 7 ≤ 70 ∧ yX6_fall.cls ≠ "java/lang/invoke/MethodHandle" ∧ yX6_fall.cls ≠ "java/lang/invoke/VarHandle" := ⟨z_mA5 (List.mem_of_getElem? (i := 41) rfl) rfl, z_in_6, by decide, by decide, by decide⟩
theorem im_X6_fall : Cond.instanceMethod yX6_fall ∈ z_all := z_mA5 (List.mem_of_getElem? (i := 40) rfl) rfl
theorem se_X6_fall : Cond.selects yX6_fall.cls yX6_fall yX6_fall ∈ z_all := z_msel (q := (yX6_fall, _)) (List.mem_of_getElem? (i := 27) rfl)
theorem wd_X10_takeIn : Cond.code yX10_takeIn cX10_takeIn 3 none ∈ z_all ∧ Cond.initialized yX10_takeIn.cls ∈ z_all ∧ 3 ≤ 70 ∧ yX10_takeIn.cls ≠ "java/lang/invoke/MethodHandle" ∧ yX10_takeIn.cls ≠ "java/lang/invoke/VarHandle" := ⟨z_mA5 (List.mem_of_getElem? (i := 56) rfl) rfl, z_in_10, by decide, by decide, by decide⟩
theorem im_X10_takeIn : Cond.instanceMethod yX10_takeIn ∈ z_all := z_mA5 (List.mem_of_getElem? (i := 55) rfl) rfl
theorem se_X10_takeIn : Cond.selects yX10_takeIn.cls yX10_takeIn yX10_takeIn ∈ z_all := z_msel (q := (yX10_takeIn, _)) (List.mem_of_getElem? (i := 29) rfl)
theorem wd_X10_isFar : Cond.code yX10_isFar cX10_isFar 6 (some .boolean) ∈ z_all ∧ Cond.initialized yX10_isFar.cls ∈ z_all ∧ 6 ≤ 70 ∧ yX10_isFar.cls ≠ "java/lang/invoke/MethodHandle" ∧ yX10_isFar.cls ≠ "java/lang/invoke/VarHandle" := ⟨z_mA5 (List.mem_of_getElem? (i := 59) rfl) rfl, z_in_10, by decide, by decide, by decide⟩
theorem st_X10_isFar : Cond.static yX10_isFar ∈ z_all := z_mA5 (List.mem_of_getElem? (i := 58) rfl) rfl
theorem wd_X10_isStill : Cond.code yX10_isStill cX10_isStill 5 (some .boolean) ∈ z_all ∧ Cond.initialized yX10_isStill.cls ∈ z_all ∧ 5 ≤ 70 ∧ yX10_isStill.cls ≠ "java/lang/invoke/MethodHandle" ∧ yX10_isStill.cls ≠ "java/lang/invoke/VarHandle" := ⟨z_mA5 (List.mem_of_getElem? (i := 70) rfl) rfl, z_in_10, by decide, by decide, by decide⟩
theorem im_X10_isStill : Cond.instanceMethod yX10_isStill ∈ z_all := z_mA5 (List.mem_of_getElem? (i := 69) rfl) rfl
theorem se_X10_isStill : Cond.selects yX10_isStill.cls yX10_isStill yX10_isStill ∈ z_all := z_msel (q := (yX10_isStill, _)) (List.mem_of_getElem? (i := 31) rfl)
theorem wd_X10_stirs : Cond.code yX10_stirs cX10_stirs 7 (some .boolean) ∈ z_all ∧ Cond.initialized yX10_stirs.cls ∈ z_all ∧ 7 ≤ 70 ∧ yX10_stirs.cls ≠ "java/lang/invoke/MethodHandle" ∧ yX10_stirs.cls ≠ "java/lang/invoke/VarHandle" := ⟨z_mA5 (List.mem_of_getElem? (i := 78) rfl) rfl, z_in_10, by decide, by decide, by decide⟩
theorem im_X10_stirs : Cond.instanceMethod yX10_stirs ∈ z_all := z_mA5 (List.mem_of_getElem? (i := 77) rfl) rfl
theorem se_X10_stirs : Cond.selects yX10_stirs.cls yX10_stirs yX10_stirs ∈ z_all := z_msel (q := (yX10_stirs, _)) (List.mem_of_getElem? (i := 33) rfl)
theorem wd_X10_othersStir : Cond.code yX10_othersStir cX10_othersStir 3 (some .boolean) ∈ z_all ∧ Cond.initialized yX10_othersStir.cls ∈ z_all ∧ 3 ≤ 70 ∧ yX10_othersStir.cls ≠ "java/lang/invoke/MethodHandle" ∧ yX10_othersStir.cls ≠ "java/lang/invoke/VarHandle" := ⟨z_mA5 (List.mem_of_getElem? (i := 74) rfl) rfl, z_in_10, by decide, by decide, by decide⟩
theorem im_X10_othersStir : Cond.instanceMethod yX10_othersStir ∈ z_all := z_mA5 (List.mem_of_getElem? (i := 73) rfl) rfl
theorem se_X10_othersStir : Cond.selects yX10_othersStir.cls yX10_othersStir yX10_othersStir ∈ z_all := z_msel (q := (yX10_othersStir, _)) (List.mem_of_getElem? (i := 32) rfl)
theorem wd_X10_fateOf : Cond.code yX10_fateOf cX10_fateOf 5 (some .int) ∈ z_all ∧ Cond.initialized yX10_fateOf.cls ∈ z_all ∧ 5 ≤ 70 ∧ yX10_fateOf.cls ≠ "java/lang/invoke/MethodHandle" ∧ yX10_fateOf.cls ≠ "java/lang/invoke/VarHandle" := ⟨z_mA5 (List.mem_of_getElem? (i := 66) rfl) rfl, z_in_10, by decide, by decide, by decide⟩
theorem im_X10_fateOf : Cond.instanceMethod yX10_fateOf ∈ z_all := z_mA5 (List.mem_of_getElem? (i := 65) rfl) rfl
theorem se_X10_fateOf : Cond.selects yX10_fateOf.cls yX10_fateOf yX10_fateOf ∈ z_all := z_msel (q := (yX10_fateOf, _)) (List.mem_of_getElem? (i := 30) rfl)
theorem wd_X11_rankOf : Cond.code yX11_rankOf cX11_rankOf 2 (some .long) ∈ z_all ∧ Cond.initialized yX11_rankOf.cls ∈ z_all ∧ 2 ≤ 70 ∧ yX11_rankOf.cls ≠ "java/lang/invoke/MethodHandle" ∧ yX11_rankOf.cls ≠ "java/lang/invoke/VarHandle" := ⟨z_mA4 (List.mem_of_getElem? (i := 85) rfl) rfl, z_in_11, by decide, by decide, by decide⟩
theorem st_X11_rankOf : Cond.static yX11_rankOf ∈ z_all := z_mA4 (List.mem_of_getElem? (i := 84) rfl) rfl
theorem wd_X10_insert : Cond.code yX10_insert cX10_insert 5 none ∈ z_all ∧ Cond.initialized yX10_insert.cls ∈ z_all ∧ 5 ≤ 70 ∧ yX10_insert.cls ≠ "java/lang/invoke/MethodHandle" ∧ yX10_insert.cls ≠ "java/lang/invoke/VarHandle" := ⟨z_mA5 (List.mem_of_getElem? (i := 82) rfl) rfl, z_in_10, by decide, by decide, by decide⟩
theorem im_X10_insert : Cond.instanceMethod yX10_insert ∈ z_all := z_mA5 (List.mem_of_getElem? (i := 81) rfl) rfl
theorem se_X10_insert : Cond.selects yX10_insert.cls yX10_insert yX10_insert ∈ z_all := z_msel (q := (yX10_insert, _)) (List.mem_of_getElem? (i := 34) rfl)
theorem wd_X10_hear : Cond.code yX10_hear cX10_hear 10 (some .long) ∈ z_all ∧ Cond.initialized yX10_hear.cls ∈ z_all ∧ 10 ≤ 70 ∧ yX10_hear.cls ≠ "java/lang/invoke/MethodHandle" ∧ yX10_hear.cls ≠ "java/lang/invoke/VarHandle" := ⟨z_mA5 (List.mem_of_getElem? (i := 52) rfl) rfl, z_in_10, by decide, by decide, by decide⟩
theorem im_X10_hear : Cond.instanceMethod yX10_hear ∈ z_all := z_mA5 (List.mem_of_getElem? (i := 50) rfl) rfl
theorem se_X10_hear : Cond.selects yX10_hear.cls yX10_hear yX10_hear ∈ z_all := z_mA5 (List.mem_of_getElem? (i := 51) rfl) rfl
theorem wd_X6_listen : Cond.code yX6_listen cX6_listen 6 none ∈ z_all ∧ Cond.initialized yX6_listen.cls ∈ z_all ∧ 6 ≤ 70 ∧ yX6_listen.cls ≠ "java/lang/invoke/MethodHandle" ∧ yX6_listen.cls ≠ "java/lang/invoke/VarHandle" := ⟨z_mA5 (List.mem_of_getElem? (i := 48) rfl) rfl, z_in_6, by decide, by decide, by decide⟩
theorem im_X6_listen : Cond.instanceMethod yX6_listen ∈ z_all := z_mA5 (List.mem_of_getElem? (i := 47) rfl) rfl
theorem se_X6_listen : Cond.selects yX6_listen.cls yX6_listen yX6_listen ∈ z_all := z_msel (q := (yX6_listen, _)) (List.mem_of_getElem? (i := 28) rfl)
theorem wd_X6_orderGates : Cond.code yX6_orderGates cX6_orderGates 3 none ∈ z_all ∧ Cond.initialized yX6_orderGates.cls ∈ z_all ∧ 3 ≤ 70 ∧ yX6_orderGates.cls ≠ "java/lang/invoke/MethodHandle" ∧ yX6_orderGates.cls ≠ "java/lang/invoke/VarHandle" := ⟨z_mA5 (List.mem_of_getElem? (i := 89) rfl) rfl, z_in_6, by decide, by decide, by decide⟩
theorem im_X6_orderGates : Cond.instanceMethod yX6_orderGates ∈ z_all := z_mA5 (List.mem_of_getElem? (i := 88) rfl) rfl
theorem se_X6_orderGates : Cond.selects yX6_orderGates.cls yX6_orderGates yX6_orderGates ∈ z_all := z_msel (q := (yX6_orderGates, _)) (List.mem_of_getElem? (i := 35) rfl)
theorem wd_X6_targetFor : Cond.code yX6_targetFor cX6_targetFor 7 (some .double) ∈ z_all ∧ Cond.initialized yX6_targetFor.cls ∈ z_all ∧ 7 ≤ 70 ∧ yX6_targetFor.cls ≠ "java/lang/invoke/MethodHandle" ∧ yX6_targetFor.cls ≠ "java/lang/invoke/VarHandle" := ⟨z_mA5 (List.mem_of_getElem? (i := 119) rfl) rfl, z_in_6, by decide, by decide, by decide⟩
theorem im_X6_targetFor : Cond.instanceMethod yX6_targetFor ∈ z_all := z_mA5 (List.mem_of_getElem? (i := 118) rfl) rfl
theorem se_X6_targetFor : Cond.selects yX6_targetFor.cls yX6_targetFor yX6_targetFor ∈ z_all := z_msel (q := (yX6_targetFor, _)) (List.mem_of_getElem? (i := 38) rfl)
theorem wd_X6_steered : Cond.code yX6_steered cX6_steered 9 (some .double) ∈ z_all ∧ Cond.initialized yX6_steered.cls ∈ z_all ∧ 9 ≤ 70 ∧ yX6_steered.cls ≠ "java/lang/invoke/MethodHandle" ∧ yX6_steered.cls ≠ "java/lang/invoke/VarHandle" := ⟨z_mA5 (List.mem_of_getElem? (i := 115) rfl) rfl, z_in_6, by decide, by decide, by decide⟩
theorem im_X6_steered : Cond.instanceMethod yX6_steered ∈ z_all := z_mA5 (List.mem_of_getElem? (i := 114) rfl) rfl
theorem se_X6_steered : Cond.selects yX6_steered.cls yX6_steered yX6_steered ∈ z_all := z_msel (q := (yX6_steered, _)) (List.mem_of_getElem? (i := 37) rfl)
theorem wd_X11_rootDigits : Cond.code yX11_rootDigits cX11_rootDigits 13 (some .long) ∈ z_all ∧ Cond.initialized yX11_rootDigits.cls ∈ z_all ∧ 13 ≤ 70 ∧ yX11_rootDigits.cls ≠ "java/lang/invoke/MethodHandle" ∧ yX11_rootDigits.cls ≠ "java/lang/invoke/VarHandle" := ⟨z_mA5 (List.mem_of_getElem? (i := 110) rfl) rfl, z_in_11, by decide, by decide, by decide⟩
theorem st_X11_rootDigits : Cond.static yX11_rootDigits ∈ z_all := z_mA5 (List.mem_of_getElem? (i := 109) rfl) rfl
theorem wd_X11_root : Cond.code yX11_root cX11_root 12 (some .double) ∈ z_all ∧ Cond.initialized yX11_root.cls ∈ z_all ∧ 12 ≤ 70 ∧ yX11_root.cls ≠ "java/lang/invoke/MethodHandle" ∧ yX11_root.cls ≠ "java/lang/invoke/VarHandle" := ⟨z_mA5 (List.mem_of_getElem? (i := 105) rfl) rfl, z_in_11, by decide, by decide, by decide⟩
theorem st_X11_root : Cond.static yX11_root ∈ z_all := z_mA5 (List.mem_of_getElem? (i := 104) rfl) rfl
theorem wd_X6_steer : Cond.code yX6_steer cX6_steer 11 none ∈ z_all ∧ Cond.initialized yX6_steer.cls ∈ z_all ∧ 11 ≤ 70 ∧ yX6_steer.cls ≠ "java/lang/invoke/MethodHandle" ∧ yX6_steer.cls ≠ "java/lang/invoke/VarHandle" := ⟨z_mA5 (List.mem_of_getElem? (i := 101) rfl) rfl, z_in_6, by decide, by decide, by decide⟩
theorem im_X6_steer : Cond.instanceMethod yX6_steer ∈ z_all := z_mA5 (List.mem_of_getElem? (i := 100) rfl) rfl
theorem se_X6_steer : Cond.selects yX6_steer.cls yX6_steer yX6_steer ∈ z_all := z_msel (q := (yX6_steer, _)) (List.mem_of_getElem? (i := 36) rfl)
theorem wd_X6_letOut : Cond.code yX6_letOut cX6_letOut 9 none ∈ z_all ∧ Cond.initialized yX6_letOut.cls ∈ z_all ∧ 9 ≤ 70 ∧ yX6_letOut.cls ≠ "java/lang/invoke/MethodHandle" ∧ yX6_letOut.cls ≠ "java/lang/invoke/VarHandle" := ⟨z_mA5 (List.mem_of_getElem? (i := 125) rfl) rfl, z_in_6, by decide, by decide, by decide⟩
theorem im_X6_letOut : Cond.instanceMethod yX6_letOut ∈ z_all := z_mA5 (List.mem_of_getElem? (i := 124) rfl) rfl
theorem se_X6_letOut : Cond.selects yX6_letOut.cls yX6_letOut yX6_letOut ∈ z_all := z_msel (q := (yX6_letOut, _)) (List.mem_of_getElem? (i := 39) rfl)
theorem wd_X6_takeStep : Cond.code yX6_takeStep cX6_takeStep 8 none ∈ z_all ∧ Cond.initialized yX6_takeStep.cls ∈ z_all ∧ 8 ≤ 70 ∧ yX6_takeStep.cls ≠ "java/lang/invoke/MethodHandle" ∧ yX6_takeStep.cls ≠ "java/lang/invoke/VarHandle" := ⟨z_mA5 (List.mem_of_getElem? (i := 37) rfl) rfl, z_in_6, by decide, by decide, by decide⟩
theorem im_X6_takeStep : Cond.instanceMethod yX6_takeStep ∈ z_all := z_mA5 (List.mem_of_getElem? (i := 35) rfl) rfl
theorem se_X6_takeStep : Cond.selects yX6_takeStep.cls yX6_takeStep yX6_takeStep ∈ z_all := z_mA5 (List.mem_of_getElem? (i := 36) rfl) rfl
theorem wd_X6_bitsAbout : Cond.code yX6_bitsAbout cX6_bitsAbout 2 (some .long) ∈ z_all ∧ Cond.initialized yX6_bitsAbout.cls ∈ z_all ∧ 2 ≤ 70 ∧ yX6_bitsAbout.cls ≠ "java/lang/invoke/MethodHandle" ∧ yX6_bitsAbout.cls ≠ "java/lang/invoke/VarHandle" := ⟨z_mA5 (List.mem_of_getElem? (i := 135) rfl) rfl, z_in_6, by decide, by decide, by decide⟩
theorem im_X6_bitsAbout : Cond.instanceMethod yX6_bitsAbout ∈ z_all := z_mA5 (List.mem_of_getElem? (i := 133) rfl) rfl
theorem se_X6_bitsAbout : Cond.selects yX6_bitsAbout.cls yX6_bitsAbout yX6_bitsAbout ∈ z_all := z_mA5 (List.mem_of_getElem? (i := 134) rfl) rfl
theorem wd_X7_init : Cond.code yX7_init cX7_init 4 none ∈ z_all ∧ Cond.initialized yX7_init.cls ∈ z_all ∧ 4 ≤ 70 ∧ yX7_init.cls ≠ "java/lang/invoke/MethodHandle" ∧ yX7_init.cls ≠ "java/lang/invoke/VarHandle" := ⟨z_mA3 (List.mem_of_getElem? (i := 144) rfl) rfl, z_in_7, by decide, by decide, by decide⟩
theorem im_X7_init : Cond.instanceMethod yX7_init ∈ z_all := z_mA3 (List.mem_of_getElem? (i := 143) rfl) rfl
theorem wd_X7_isForFloat : Cond.code yX7_isForFloat cX7_isForFloat 1 (some .boolean) ∈ z_all ∧ Cond.initialized yX7_isForFloat.cls ∈ z_all ∧ 1 ≤ 70 ∧ yX7_isForFloat.cls ≠ "java/lang/invoke/MethodHandle" ∧ yX7_isForFloat.cls ≠ "java/lang/invoke/VarHandle" := ⟨z_mA3 (List.mem_of_getElem? (i := 207) rfl) rfl, z_in_7, by decide, by decide, by decide⟩
theorem im_X7_isForFloat : Cond.instanceMethod yX7_isForFloat ∈ z_all := z_mA3 (List.mem_of_getElem? (i := 205) rfl) rfl
theorem se_X7_isForFloat : Cond.selects yX7_isForFloat.cls yX7_isForFloat yX7_isForFloat ∈ z_all := z_mA3 (List.mem_of_getElem? (i := 206) rfl) rfl
theorem wd_X7_isForReads : Cond.code yX7_isForReads cX7_isForReads 1 (some .boolean) ∈ z_all ∧ Cond.initialized yX7_isForReads.cls ∈ z_all ∧ 1 ≤ 70 ∧ yX7_isForReads.cls ≠ "java/lang/invoke/MethodHandle" ∧ yX7_isForReads.cls ≠ "java/lang/invoke/VarHandle" := ⟨z_mA3 (List.mem_of_getElem? (i := 203) rfl) rfl, z_in_7, by decide, by decide, by decide⟩
theorem im_X7_isForReads : Cond.instanceMethod yX7_isForReads ∈ z_all := z_mA3 (List.mem_of_getElem? (i := 201) rfl) rfl
theorem se_X7_isForReads : Cond.selects yX7_isForReads.cls yX7_isForReads yX7_isForReads ∈ z_all := z_mA3 (List.mem_of_getElem? (i := 202) rfl) rfl
theorem wd_X8_cellOfReal : Cond.code yX8_cellOfReal cX8_cellOfReal 5 (some .long) ∈ z_all ∧ Cond.initialized yX8_cellOfReal.cls ∈ z_all ∧ 5 ≤ 70 ∧ yX8_cellOfReal.cls ≠ "java/lang/invoke/MethodHandle" ∧ yX8_cellOfReal.cls ≠ "java/lang/invoke/VarHandle" := ⟨z_mA2 (List.mem_of_getElem? (i := 182) rfl) rfl, z_in_8, by decide, by decide, by decide⟩
theorem st_X8_cellOfReal : Cond.static yX8_cellOfReal ∈ z_all := z_mA2 (List.mem_of_getElem? (i := 181) rfl) rfl
theorem wd_X8_cellMore : Cond.code yX8_cellMore cX8_cellMore 5 (some .long) ∈ z_all ∧ Cond.initialized yX8_cellMore.cls ∈ z_all ∧ 5 ≤ 70 ∧ yX8_cellMore.cls ≠ "java/lang/invoke/MethodHandle" ∧ yX8_cellMore.cls ≠ "java/lang/invoke/VarHandle" := ⟨z_mA2 (List.mem_of_getElem? (i := 234) rfl) rfl, z_in_8, by decide, by decide, by decide⟩
theorem st_X8_cellMore : Cond.static yX8_cellMore ∈ z_all := z_mA2 (List.mem_of_getElem? (i := 233) rfl) rfl
theorem wd_X8_isOfReals : Cond.code yX8_isOfReals cX8_isOfReals 1 (some .boolean) ∈ z_all ∧ Cond.initialized yX8_isOfReals.cls ∈ z_all ∧ 1 ≤ 70 ∧ yX8_isOfReals.cls ≠ "java/lang/invoke/MethodHandle" ∧ yX8_isOfReals.cls ≠ "java/lang/invoke/VarHandle" := ⟨z_mA2 (List.mem_of_getElem? (i := 227) rfl) rfl, z_in_8, by decide, by decide, by decide⟩
theorem im_X8_isOfReals : Cond.instanceMethod yX8_isOfReals ∈ z_all := z_mA2 (List.mem_of_getElem? (i := 225) rfl) rfl
theorem se_X8_isOfReals : Cond.selects yX8_isOfReals.cls yX8_isOfReals yX8_isOfReals ∈ z_all := z_mA2 (List.mem_of_getElem? (i := 226) rfl) rfl
theorem wd_X8_setWhole : Cond.code yX8_setWhole cX8_setWhole 4 none ∈ z_all ∧ Cond.initialized yX8_setWhole.cls ∈ z_all ∧ 4 ≤ 70 ∧ yX8_setWhole.cls ≠ "java/lang/invoke/MethodHandle" ∧ yX8_setWhole.cls ≠ "java/lang/invoke/VarHandle" := ⟨z_mA2 (List.mem_of_getElem? (i := 163) rfl) rfl, z_in_8, by decide, by decide, by decide⟩
theorem im_X8_setWhole : Cond.instanceMethod yX8_setWhole ∈ z_all := z_mA2 (List.mem_of_getElem? (i := 161) rfl) rfl
theorem se_X8_setWhole : Cond.selects yX8_setWhole.cls yX8_setWhole yX8_setWhole ∈ z_all := z_mA2 (List.mem_of_getElem? (i := 162) rfl) rfl
theorem wd_X8_realAt : Cond.code yX8_realAt cX8_realAt 2 (some .long) ∈ z_all ∧ Cond.initialized yX8_realAt.cls ∈ z_all ∧ 2 ≤ 70 ∧ yX8_realAt.cls ≠ "java/lang/invoke/MethodHandle" ∧ yX8_realAt.cls ≠ "java/lang/invoke/VarHandle" := ⟨z_mA2 (List.mem_of_getElem? (i := 223) rfl) rfl, z_in_8, by decide, by decide, by decide⟩
theorem im_X8_realAt : Cond.instanceMethod yX8_realAt ∈ z_all := z_mA2 (List.mem_of_getElem? (i := 221) rfl) rfl
theorem se_X8_realAt : Cond.selects yX8_realAt.cls yX8_realAt yX8_realAt ∈ z_all := z_mA2 (List.mem_of_getElem? (i := 222) rfl) rfl
theorem wd_X8_isLike : Cond.code yX8_isLike cX8_isLike 3 (some .boolean) ∈ z_all ∧ Cond.initialized yX8_isLike.cls ∈ z_all ∧ 3 ≤ 70 ∧ yX8_isLike.cls ≠ "java/lang/invoke/MethodHandle" ∧ yX8_isLike.cls ≠ "java/lang/invoke/VarHandle" := ⟨z_mA3 (List.mem_of_getElem? (i := 16) rfl) rfl, z_in_8, by decide, by decide, by decide⟩
theorem im_X8_isLike : Cond.instanceMethod yX8_isLike ∈ z_all := z_mA3 (List.mem_of_getElem? (i := 14) rfl) rfl
theorem se_X8_isLike : Cond.selects yX8_isLike.cls yX8_isLike yX8_isLike ∈ z_all := z_mA3 (List.mem_of_getElem? (i := 15) rfl) rfl
theorem wd_X8_notZero : Cond.code yX8_notZero cX8_notZero 3 (some .int) ∈ z_all ∧ Cond.initialized yX8_notZero.cls ∈ z_all ∧ 3 ≤ 70 ∧ yX8_notZero.cls ≠ "java/lang/invoke/MethodHandle" ∧ yX8_notZero.cls ≠ "java/lang/invoke/VarHandle" := ⟨z_mA3 (List.mem_of_getElem? (i := 24) rfl) rfl, z_in_8, by decide, by decide, by decide⟩
theorem im_X8_notZero : Cond.instanceMethod yX8_notZero ∈ z_all := z_mA3 (List.mem_of_getElem? (i := 22) rfl) rfl
theorem se_X8_notZero : Cond.selects yX8_notZero.cls yX8_notZero yX8_notZero ∈ z_all := z_mA3 (List.mem_of_getElem? (i := 23) rfl) rfl
theorem wd_X8_lastOf : Cond.code yX8_lastOf cX8_lastOf 4 (some .int) ∈ z_all ∧ Cond.initialized yX8_lastOf.cls ∈ z_all ∧ 4 ≤ 70 ∧ yX8_lastOf.cls ≠ "java/lang/invoke/MethodHandle" ∧ yX8_lastOf.cls ≠ "java/lang/invoke/VarHandle" := ⟨z_mA3 (List.mem_of_getElem? (i := 33) rfl) rfl, z_in_8, by decide, by decide, by decide⟩
theorem im_X8_lastOf : Cond.instanceMethod yX8_lastOf ∈ z_all := z_mA3 (List.mem_of_getElem? (i := 31) rfl) rfl
theorem se_X8_lastOf : Cond.selects yX8_lastOf.cls yX8_lastOf yX8_lastOf ∈ z_all := z_mA3 (List.mem_of_getElem? (i := 32) rfl) rfl
theorem wd_X8_wholesTogether : Cond.code yX8_wholesTogether cX8_wholesTogether 4 (some .long) ∈ z_all ∧ Cond.initialized yX8_wholesTogether.cls ∈ z_all ∧ 4 ≤ 70 ∧ yX8_wholesTogether.cls ≠ "java/lang/invoke/MethodHandle" ∧ yX8_wholesTogether.cls ≠ "java/lang/invoke/VarHandle" := ⟨z_mA3 (List.mem_of_getElem? (i := 41) rfl) rfl, z_in_8, by decide, by decide, by decide⟩
theorem im_X8_wholesTogether : Cond.instanceMethod yX8_wholesTogether ∈ z_all := z_mA3 (List.mem_of_getElem? (i := 39) rfl) rfl
theorem se_X8_wholesTogether : Cond.selects yX8_wholesTogether.cls yX8_wholesTogether yX8_wholesTogether ∈ z_all := z_mA3 (List.mem_of_getElem? (i := 40) rfl) rfl
theorem wd_X8_numberCount : Cond.code yX8_numberCount cX8_numberCount 3 (some .int) ∈ z_all ∧ Cond.initialized yX8_numberCount.cls ∈ z_all ∧ 3 ≤ 70 ∧ yX8_numberCount.cls ≠ "java/lang/invoke/MethodHandle" ∧ yX8_numberCount.cls ≠ "java/lang/invoke/VarHandle" := ⟨z_mA4 (List.mem_of_getElem? (i := 63) rfl) rfl, z_in_8, by decide, by decide, by decide⟩
theorem im_X8_numberCount : Cond.instanceMethod yX8_numberCount ∈ z_all := z_mA4 (List.mem_of_getElem? (i := 62) rfl) rfl
theorem se_X8_numberCount : Cond.selects yX8_numberCount.cls yX8_numberCount yX8_numberCount ∈ z_all := z_msel (q := (yX8_numberCount, _)) (List.mem_of_getElem? (i := 13) rfl)
theorem wd_X8_outermost : Cond.code yX8_outermost cX8_outermost 6 (some .long) ∈ z_all ∧ Cond.initialized yX8_outermost.cls ∈ z_all ∧ 6 ≤ 70 ∧ yX8_outermost.cls ≠ "java/lang/invoke/MethodHandle" ∧ yX8_outermost.cls ≠ "java/lang/invoke/VarHandle" := ⟨z_mA4 (List.mem_of_getElem? (i := 82) rfl) rfl, z_in_8, by decide, by decide, by decide⟩
theorem im_X8_outermost : Cond.instanceMethod yX8_outermost ∈ z_all := z_mA4 (List.mem_of_getElem? (i := 81) rfl) rfl
theorem se_X8_outermost : Cond.selects yX8_outermost.cls yX8_outermost yX8_outermost ∈ z_all := z_msel (q := (yX8_outermost, _)) (List.mem_of_getElem? (i := 16) rfl)
theorem wd_X8_meanOfNumbers : Cond.code yX8_meanOfNumbers cX8_meanOfNumbers 5 (some .long) ∈ z_all ∧ Cond.initialized yX8_meanOfNumbers.cls ∈ z_all ∧ 5 ≤ 70 ∧ yX8_meanOfNumbers.cls ≠ "java/lang/invoke/MethodHandle" ∧ yX8_meanOfNumbers.cls ≠ "java/lang/invoke/VarHandle" := ⟨z_mA4 (List.mem_of_getElem? (i := 67) rfl) rfl, z_in_8, by decide, by decide, by decide⟩
theorem im_X8_meanOfNumbers : Cond.instanceMethod yX8_meanOfNumbers ∈ z_all := z_mA4 (List.mem_of_getElem? (i := 66) rfl) rfl
theorem se_X8_meanOfNumbers : Cond.selects yX8_meanOfNumbers.cls yX8_meanOfNumbers yX8_meanOfNumbers ∈ z_all := z_msel (q := (yX8_meanOfNumbers, _)) (List.mem_of_getElem? (i := 14) rfl)
theorem wd_X8_strictRank : Cond.code yX8_strictRank cX8_strictRank 2 (some .long) ∈ z_all ∧ Cond.initialized yX8_strictRank.cls ∈ z_all ∧ 2 ≤ 70 ∧ yX8_strictRank.cls ≠ "java/lang/invoke/MethodHandle" ∧ yX8_strictRank.cls ≠ "java/lang/invoke/VarHandle" := ⟨z_mA4 (List.mem_of_getElem? (i := 77) rfl) rfl, z_in_8, by decide, by decide, by decide⟩
theorem st_X8_strictRank : Cond.static yX8_strictRank ∈ z_all := z_mA4 (List.mem_of_getElem? (i := 76) rfl) rfl
theorem wd_X8_middleOfNumbers : Cond.code yX8_middleOfNumbers cX8_middleOfNumbers 6 (some .long) ∈ z_all ∧ Cond.initialized yX8_middleOfNumbers.cls ∈ z_all ∧ 6 ≤ 70 ∧ yX8_middleOfNumbers.cls ≠ "java/lang/invoke/MethodHandle" ∧ yX8_middleOfNumbers.cls ≠ "java/lang/invoke/VarHandle" := ⟨z_mA4 (List.mem_of_getElem? (i := 74) rfl) rfl, z_in_8, by decide, by decide, by decide⟩
theorem im_X8_middleOfNumbers : Cond.instanceMethod yX8_middleOfNumbers ∈ z_all := z_mA4 (List.mem_of_getElem? (i := 73) rfl) rfl
theorem se_X8_middleOfNumbers : Cond.selects yX8_middleOfNumbers.cls yX8_middleOfNumbers yX8_middleOfNumbers ∈ z_all := z_msel (q := (yX8_middleOfNumbers, _)) (List.mem_of_getElem? (i := 15) rfl)
theorem wd_X8_flowOf : Cond.code yX8_flowOf cX8_flowOf 3 (some .long) ∈ z_all ∧ Cond.initialized yX8_flowOf.cls ∈ z_all ∧ 3 ≤ 70 ∧ yX8_flowOf.cls ≠ "java/lang/invoke/MethodHandle" ∧ yX8_flowOf.cls ≠ "java/lang/invoke/VarHandle" := ⟨z_mA4 (List.mem_of_getElem? (i := 59) rfl) rfl, z_in_8, by decide, by decide, by decide⟩
theorem im_X8_flowOf : Cond.instanceMethod yX8_flowOf ∈ z_all := z_mA4 (List.mem_of_getElem? (i := 57) rfl) rfl
theorem se_X8_flowOf : Cond.selects yX8_flowOf.cls yX8_flowOf yX8_flowOf ∈ z_all := z_mA4 (List.mem_of_getElem? (i := 58) rfl) rfl
theorem wd_X9_init : Cond.code yX9_init cX9_init 3 none ∈ z_all ∧ Cond.initialized yX9_init.cls ∈ z_all ∧ 3 ≤ 70 ∧ yX9_init.cls ≠ "java/lang/invoke/MethodHandle" ∧ yX9_init.cls ≠ "java/lang/invoke/VarHandle" := ⟨z_mA3 (List.mem_of_getElem? (i := 98) rfl) rfl, z_in_9, by decide, by decide, by decide⟩
theorem im_X9_init : Cond.instanceMethod yX9_init ∈ z_all := z_mA3 (List.mem_of_getElem? (i := 97) rfl) rfl
theorem wd_X9_isFor : Cond.code yX9_isFor cX9_isFor 2 (some .boolean) ∈ z_all ∧ Cond.initialized yX9_isFor.cls ∈ z_all ∧ 2 ≤ 70 ∧ yX9_isFor.cls ≠ "java/lang/invoke/MethodHandle" ∧ yX9_isFor.cls ≠ "java/lang/invoke/VarHandle" := ⟨z_mA3 (List.mem_of_getElem? (i := 122) rfl) rfl, z_in_9, by decide, by decide, by decide⟩
theorem im_X9_isFor : Cond.instanceMethod yX9_isFor ∈ z_all := z_mA3 (List.mem_of_getElem? (i := 120) rfl) rfl
theorem se_X9_isFor : Cond.selects yX9_isFor.cls yX9_isFor yX9_isFor ∈ z_all := z_mA3 (List.mem_of_getElem? (i := 121) rfl) rfl
theorem wd_X9_canTell : Cond.code yX9_canTell cX9_canTell 2 (some .boolean) ∈ z_all ∧ Cond.initialized yX9_canTell.cls ∈ z_all ∧ 2 ≤ 70 ∧ yX9_canTell.cls ≠ "java/lang/invoke/MethodHandle" ∧ yX9_canTell.cls ≠ "java/lang/invoke/VarHandle" := ⟨z_mA3 (List.mem_of_getElem? (i := 118) rfl) rfl, z_in_9, by decide, by decide, by decide⟩
theorem im_X9_canTell : Cond.instanceMethod yX9_canTell ∈ z_all := z_mA3 (List.mem_of_getElem? (i := 116) rfl) rfl
theorem se_X9_canTell : Cond.selects yX9_canTell.cls yX9_canTell yX9_canTell ∈ z_all := z_mA3 (List.mem_of_getElem? (i := 117) rfl) rfl
theorem wd_X9_sign : Cond.code yX9_sign cX9_sign 1 (some .int) ∈ z_all ∧ Cond.initialized yX9_sign.cls ∈ z_all ∧ 1 ≤ 70 ∧ yX9_sign.cls ≠ "java/lang/invoke/MethodHandle" ∧ yX9_sign.cls ≠ "java/lang/invoke/VarHandle" := ⟨z_mA3 (List.mem_of_getElem? (i := 130) rfl) rfl, z_in_9, by decide, by decide, by decide⟩
theorem im_X9_sign : Cond.instanceMethod yX9_sign ∈ z_all := z_mA3 (List.mem_of_getElem? (i := 128) rfl) rfl
theorem se_X9_sign : Cond.selects yX9_sign.cls yX9_sign yX9_sign ∈ z_all := z_mA3 (List.mem_of_getElem? (i := 129) rfl) rfl
theorem wd_X9_weight : Cond.code yX9_weight cX9_weight 1 (some .int) ∈ z_all ∧ Cond.initialized yX9_weight.cls ∈ z_all ∧ 1 ≤ 70 ∧ yX9_weight.cls ≠ "java/lang/invoke/MethodHandle" ∧ yX9_weight.cls ≠ "java/lang/invoke/VarHandle" := ⟨z_mA3 (List.mem_of_getElem? (i := 136) rfl) rfl, z_in_9, by decide, by decide, by decide⟩
theorem im_X9_weight : Cond.instanceMethod yX9_weight ∈ z_all := z_mA3 (List.mem_of_getElem? (i := 134) rfl) rfl
theorem se_X9_weight : Cond.selects yX9_weight.cls yX9_weight yX9_weight ∈ z_all := z_mA3 (List.mem_of_getElem? (i := 135) rfl) rfl
theorem wd_X9_tell : Cond.code yX9_tell cX9_tell 2 (some .int) ∈ z_all ∧ Cond.initialized yX9_tell.cls ∈ z_all ∧ 2 ≤ 70 ∧ yX9_tell.cls ≠ "java/lang/invoke/MethodHandle" ∧ yX9_tell.cls ≠ "java/lang/invoke/VarHandle" := ⟨z_mA3 (List.mem_of_getElem? (i := 126) rfl) rfl, z_in_9, by decide, by decide, by decide⟩
theorem im_X9_tell : Cond.instanceMethod yX9_tell ∈ z_all := z_mA3 (List.mem_of_getElem? (i := 124) rfl) rfl
theorem se_X9_tell : Cond.selects yX9_tell.cls yX9_tell yX9_tell ∈ z_all := z_mA3 (List.mem_of_getElem? (i := 125) rfl) rfl
theorem wd_X11_init : Cond.code yX11_init cX11_init 1 none ∈ z_all ∧ Cond.initialized yX11_init.cls ∈ z_all ∧ 1 ≤ 70 ∧ yX11_init.cls ≠ "java/lang/invoke/MethodHandle" ∧ yX11_init.cls ≠ "java/lang/invoke/VarHandle" := ⟨z_mA1 (List.mem_of_getElem? (i := 21) rfl) rfl, z_in_11, by decide, by decide, by decide⟩
theorem im_X11_init : Cond.instanceMethod yX11_init ∈ z_all := z_mA1 (List.mem_of_getElem? (i := 20) rfl) rfl
theorem wd_X11_failsWith : Cond.code yX11_failsWith cX11_failsWith 3 (some .int) ∈ z_all ∧ Cond.initialized yX11_failsWith.cls ∈ z_all ∧ 3 ≤ 70 ∧ yX11_failsWith.cls ≠ "java/lang/invoke/MethodHandle" ∧ yX11_failsWith.cls ≠ "java/lang/invoke/VarHandle" := ⟨z_mA2 (List.mem_of_getElem? (i := 117) rfl) rfl, z_in_11, by decide, by decide, by decide⟩
theorem im_X11_failsWith : Cond.instanceMethod yX11_failsWith ∈ z_all := z_mA2 (List.mem_of_getElem? (i := 116) rfl) rfl
theorem se_X11_failsWith : Cond.selects yX11_failsWith.cls yX11_failsWith yX11_failsWith ∈ z_all := z_msel (q := (yX11_failsWith, _)) (List.mem_of_getElem? (i := 1) rfl)
theorem wd_X11_fails : Cond.code yX11_fails cX11_fails 2 (some .int) ∈ z_all ∧ Cond.initialized yX11_fails.cls ∈ z_all ∧ 2 ≤ 70 ∧ yX11_fails.cls ≠ "java/lang/invoke/MethodHandle" ∧ yX11_fails.cls ≠ "java/lang/invoke/VarHandle" := ⟨z_mA2 (List.mem_of_getElem? (i := 113) rfl) rfl, z_in_11, by decide, by decide, by decide⟩
theorem im_X11_fails : Cond.instanceMethod yX11_fails ∈ z_all := z_mA2 (List.mem_of_getElem? (i := 112) rfl) rfl
theorem se_X11_fails : Cond.selects yX11_fails.cls yX11_fails yX11_fails ∈ z_all := z_msel (q := (yX11_fails, _)) (List.mem_of_getElem? (i := 0) rfl)
theorem wd_X11_passes : Cond.code yX11_passes cX11_passes 2 (some .int) ∈ z_all ∧ Cond.initialized yX11_passes.cls ∈ z_all ∧ 2 ≤ 70 ∧ yX11_passes.cls ≠ "java/lang/invoke/MethodHandle" ∧ yX11_passes.cls ≠ "java/lang/invoke/VarHandle" := ⟨z_mA2 (List.mem_of_getElem? (i := 143) rfl) rfl, z_in_11, by decide, by decide, by decide⟩
theorem im_X11_passes : Cond.instanceMethod yX11_passes ∈ z_all := z_mA2 (List.mem_of_getElem? (i := 142) rfl) rfl
theorem se_X11_passes : Cond.selects yX11_passes.cls yX11_passes yX11_passes ∈ z_all := z_msel (q := (yX11_passes, _)) (List.mem_of_getElem? (i := 3) rfl)
theorem wd_X11_keepRow : Cond.code yX11_keepRow cX11_keepRow 2 (some .int) ∈ z_all ∧ Cond.initialized yX11_keepRow.cls ∈ z_all ∧ 2 ≤ 70 ∧ yX11_keepRow.cls ≠ "java/lang/invoke/MethodHandle" ∧ yX11_keepRow.cls ≠ "java/lang/invoke/VarHandle" := ⟨z_mA2 (List.mem_of_getElem? (i := 139) rfl) rfl, z_in_11, by decide, by decide, by decide⟩
theorem im_X11_keepRow : Cond.instanceMethod yX11_keepRow ∈ z_all := z_mA2 (List.mem_of_getElem? (i := 138) rfl) rfl
theorem se_X11_keepRow : Cond.selects yX11_keepRow.cls yX11_keepRow yX11_keepRow ∈ z_all := z_msel (q := (yX11_keepRow, _)) (List.mem_of_getElem? (i := 2) rfl)
theorem wd_X11_row : Cond.code yX11_row cX11_row 3 (some .int) ∈ z_all ∧ Cond.initialized yX11_row.cls ∈ z_all ∧ 3 ≤ 70 ∧ yX11_row.cls ≠ "java/lang/invoke/MethodHandle" ∧ yX11_row.cls ≠ "java/lang/invoke/VarHandle" := ⟨z_mA2 (List.mem_of_getElem? (i := 104) rfl) rfl, z_in_11, by decide, by decide, by decide⟩
theorem im_X11_row : Cond.instanceMethod yX11_row ∈ z_all := z_mA2 (List.mem_of_getElem? (i := 102) rfl) rfl
theorem se_X11_row : Cond.selects yX11_row.cls yX11_row yX11_row ∈ z_all := z_mA2 (List.mem_of_getElem? (i := 103) rfl) rfl
theorem wd_X11_nameless : Cond.code yX11_nameless cX11_nameless 2 (some .boolean) ∈ z_all ∧ Cond.initialized yX11_nameless.cls ∈ z_all ∧ 2 ≤ 70 ∧ yX11_nameless.cls ≠ "java/lang/invoke/MethodHandle" ∧ yX11_nameless.cls ≠ "java/lang/invoke/VarHandle" := ⟨z_mA2 (List.mem_of_getElem? (i := 150) rfl) rfl, z_in_11, by decide, by decide, by decide⟩
theorem st_X11_nameless : Cond.static yX11_nameless ∈ z_all := z_mA2 (List.mem_of_getElem? (i := 149) rfl) rfl
theorem wd_X11_cellFailure : Cond.code yX11_cellFailure cX11_cellFailure 3 (some .int) ∈ z_all ∧ Cond.initialized yX11_cellFailure.cls ∈ z_all ∧ 3 ≤ 70 ∧ yX11_cellFailure.cls ≠ "java/lang/invoke/MethodHandle" ∧ yX11_cellFailure.cls ≠ "java/lang/invoke/VarHandle" := ⟨z_mA2 (List.mem_of_getElem? (i := 155) rfl) rfl, z_in_11, by decide, by decide, by decide⟩
theorem im_X11_cellFailure : Cond.instanceMethod yX11_cellFailure ∈ z_all := z_mA2 (List.mem_of_getElem? (i := 154) rfl) rfl
theorem se_X11_cellFailure : Cond.selects yX11_cellFailure.cls yX11_cellFailure yX11_cellFailure ∈ z_all := z_msel (q := (yX11_cellFailure, _)) (List.mem_of_getElem? (i := 4) rfl)
theorem wd_X11_put : Cond.code yX11_put cX11_put 6 (some .int) ∈ z_all ∧ Cond.initialized yX11_put.cls ∈ z_all ∧ 6 ≤ 70 ∧ yX11_put.cls ≠ "java/lang/invoke/MethodHandle" ∧ yX11_put.cls ≠ "java/lang/invoke/VarHandle" := ⟨z_mA2 (List.mem_of_getElem? (i := 147) rfl) rfl, z_in_11, by decide, by decide, by decide⟩
theorem im_X11_put : Cond.instanceMethod yX11_put ∈ z_all := z_mA2 (List.mem_of_getElem? (i := 145) rfl) rfl
theorem se_X11_put : Cond.selects yX11_put.cls yX11_put yX11_put ∈ z_all := z_mA2 (List.mem_of_getElem? (i := 146) rfl) rfl
theorem wd_X11_putReal : Cond.code yX11_putReal cX11_putReal 7 (some .int) ∈ z_all ∧ Cond.initialized yX11_putReal.cls ∈ z_all ∧ 7 ≤ 70 ∧ yX11_putReal.cls ≠ "java/lang/invoke/MethodHandle" ∧ yX11_putReal.cls ≠ "java/lang/invoke/VarHandle" := ⟨z_mA2 (List.mem_of_getElem? (i := 179) rfl) rfl, z_in_11, by decide, by decide, by decide⟩
theorem im_X11_putReal : Cond.instanceMethod yX11_putReal ∈ z_all := z_mA2 (List.mem_of_getElem? (i := 177) rfl) rfl
theorem se_X11_putReal : Cond.selects yX11_putReal.cls yX11_putReal yX11_putReal ∈ z_all := z_mA2 (List.mem_of_getElem? (i := 178) rfl) rfl
theorem wd_X11_passesLong : Cond.code yX11_passesLong cX11_passesLong 3 (some .long) ∈ z_all ∧ Cond.initialized yX11_passesLong.cls ∈ z_all ∧ 3 ≤ 70 ∧ yX11_passesLong.cls ≠ "java/lang/invoke/MethodHandle" ∧ yX11_passesLong.cls ≠ "java/lang/invoke/VarHandle" := ⟨z_mA2 (List.mem_of_getElem? (i := 215) rfl) rfl, z_in_11, by decide, by decide, by decide⟩
theorem im_X11_passesLong : Cond.instanceMethod yX11_passesLong ∈ z_all := z_mA2 (List.mem_of_getElem? (i := 214) rfl) rfl
theorem se_X11_passesLong : Cond.selects yX11_passesLong.cls yX11_passesLong yX11_passesLong ∈ z_all := z_msel (q := (yX11_passesLong, _)) (List.mem_of_getElem? (i := 5) rfl)
theorem wd_X11_get : Cond.code yX11_get cX11_get 4 (some .long) ∈ z_all ∧ Cond.initialized yX11_get.cls ∈ z_all ∧ 4 ≤ 70 ∧ yX11_get.cls ≠ "java/lang/invoke/MethodHandle" ∧ yX11_get.cls ≠ "java/lang/invoke/VarHandle" := ⟨z_mA2 (List.mem_of_getElem? (i := 203) rfl) rfl, z_in_11, by decide, by decide, by decide⟩
theorem im_X11_get : Cond.instanceMethod yX11_get ∈ z_all := z_mA2 (List.mem_of_getElem? (i := 201) rfl) rfl
theorem se_X11_get : Cond.selects yX11_get.cls yX11_get yX11_get ∈ z_all := z_mA2 (List.mem_of_getElem? (i := 202) rfl) rfl
theorem wd_X11_getReal : Cond.code yX11_getReal cX11_getReal 4 (some .long) ∈ z_all ∧ Cond.initialized yX11_getReal.cls ∈ z_all ∧ 4 ≤ 70 ∧ yX11_getReal.cls ≠ "java/lang/invoke/MethodHandle" ∧ yX11_getReal.cls ≠ "java/lang/invoke/VarHandle" := ⟨z_mA2 (List.mem_of_getElem? (i := 219) rfl) rfl, z_in_11, by decide, by decide, by decide⟩
theorem im_X11_getReal : Cond.instanceMethod yX11_getReal ∈ z_all := z_mA2 (List.mem_of_getElem? (i := 217) rfl) rfl
theorem se_X11_getReal : Cond.selects yX11_getReal.cls yX11_getReal yX11_getReal ∈ z_all := z_mA2 (List.mem_of_getElem? (i := 218) rfl) rfl
theorem wd_X11_raise : Cond.code yX11_raise cX11_raise 10 (some .long) ∈ z_all ∧ Cond.initialized yX11_raise.cls ∈ z_all ∧ 10 ≤ 70 ∧ yX11_raise.cls ≠ "java/lang/invoke/MethodHandle" ∧ yX11_raise.cls ≠ "java/lang/invoke/VarHandle" := ⟨z_mA2 (List.mem_of_getElem? (i := 231) rfl) rfl, z_in_11, by decide, by decide, by decide⟩
theorem im_X11_raise : Cond.instanceMethod yX11_raise ∈ z_all := z_mA2 (List.mem_of_getElem? (i := 229) rfl) rfl
theorem se_X11_raise : Cond.selects yX11_raise.cls yX11_raise yX11_raise ∈ z_all := z_mA2 (List.mem_of_getElem? (i := 230) rfl) rfl
theorem wd_X11_join : Cond.code yX11_join cX11_join 7 (some .int) ∈ z_all ∧ Cond.initialized yX11_join.cls ∈ z_all ∧ 7 ≤ 70 ∧ yX11_join.cls ≠ "java/lang/invoke/MethodHandle" ∧ yX11_join.cls ≠ "java/lang/invoke/VarHandle" := ⟨z_mA2 (List.mem_of_getElem? (i := 238) rfl) rfl, z_in_11, by decide, by decide, by decide⟩
theorem im_X11_join : Cond.instanceMethod yX11_join ∈ z_all := z_mA2 (List.mem_of_getElem? (i := 236) rfl) rfl
theorem se_X11_join : Cond.selects yX11_join.cls yX11_join yX11_join ∈ z_all := z_mA2 (List.mem_of_getElem? (i := 237) rfl) rfl
theorem wd_X11_fits : Cond.code yX11_fits cX11_fits 3 (some .boolean) ∈ z_all ∧ Cond.initialized yX11_fits.cls ∈ z_all ∧ 3 ≤ 70 ∧ yX11_fits.cls ≠ "java/lang/invoke/MethodHandle" ∧ yX11_fits.cls ≠ "java/lang/invoke/VarHandle" := ⟨z_mA3 (List.mem_of_getElem? (i := 8) rfl) rfl, z_in_11, by decide, by decide, by decide⟩
theorem st_X11_fits : Cond.static yX11_fits ∈ z_all := z_mA3 (List.mem_of_getElem? (i := 7) rfl) rfl
theorem wd_X11_shift : Cond.code yX11_shift cX11_shift 8 (some .int) ∈ z_all ∧ Cond.initialized yX11_shift.cls ∈ z_all ∧ 8 ≤ 70 ∧ yX11_shift.cls ≠ "java/lang/invoke/MethodHandle" ∧ yX11_shift.cls ≠ "java/lang/invoke/VarHandle" := ⟨z_mA3 (List.mem_of_getElem? (i := 5) rfl) rfl, z_in_11, by decide, by decide, by decide⟩
theorem im_X11_shift : Cond.instanceMethod yX11_shift ∈ z_all := z_mA3 (List.mem_of_getElem? (i := 3) rfl) rfl
theorem se_X11_shift : Cond.selects yX11_shift.cls yX11_shift yX11_shift ∈ z_all := z_mA3 (List.mem_of_getElem? (i := 4) rfl) rfl
theorem wd_X11_like : Cond.code yX11_like cX11_like 3 (some .int) ∈ z_all ∧ Cond.initialized yX11_like.cls ∈ z_all ∧ 3 ≤ 70 ∧ yX11_like.cls ≠ "java/lang/invoke/MethodHandle" ∧ yX11_like.cls ≠ "java/lang/invoke/VarHandle" := ⟨z_mA3 (List.mem_of_getElem? (i := 12) rfl) rfl, z_in_11, by decide, by decide, by decide⟩
theorem im_X11_like : Cond.instanceMethod yX11_like ∈ z_all := z_mA3 (List.mem_of_getElem? (i := 10) rfl) rfl
theorem se_X11_like : Cond.selects yX11_like.cls yX11_like yX11_like ∈ z_all := z_mA3 (List.mem_of_getElem? (i := 11) rfl) rfl
theorem wd_X11_count : Cond.code yX11_count cX11_count 4 (some .int) ∈ z_all ∧ Cond.initialized yX11_count.cls ∈ z_all ∧ 4 ≤ 70 ∧ yX11_count.cls ≠ "java/lang/invoke/MethodHandle" ∧ yX11_count.cls ≠ "java/lang/invoke/VarHandle" := ⟨z_mA3 (List.mem_of_getElem? (i := 20) rfl) rfl, z_in_11, by decide, by decide, by decide⟩
theorem im_X11_count : Cond.instanceMethod yX11_count ∈ z_all := z_mA3 (List.mem_of_getElem? (i := 18) rfl) rfl
theorem se_X11_count : Cond.selects yX11_count.cls yX11_count yX11_count ∈ z_all := z_mA3 (List.mem_of_getElem? (i := 19) rfl) rfl
theorem wd_X11_find : Cond.code yX11_find cX11_find 4 (some .int) ∈ z_all ∧ Cond.initialized yX11_find.cls ∈ z_all ∧ 4 ≤ 70 ∧ yX11_find.cls ≠ "java/lang/invoke/MethodHandle" ∧ yX11_find.cls ≠ "java/lang/invoke/VarHandle" := ⟨z_mA3 (List.mem_of_getElem? (i := 29) rfl) rfl, z_in_11, by decide, by decide, by decide⟩
theorem im_X11_find : Cond.instanceMethod yX11_find ∈ z_all := z_mA3 (List.mem_of_getElem? (i := 27) rfl) rfl
theorem se_X11_find : Cond.selects yX11_find.cls yX11_find yX11_find ∈ z_all := z_mA3 (List.mem_of_getElem? (i := 28) rfl) rfl
theorem wd_X11_mean : Cond.code yX11_mean cX11_mean 3 (some .long) ∈ z_all ∧ Cond.initialized yX11_mean.cls ∈ z_all ∧ 3 ≤ 70 ∧ yX11_mean.cls ≠ "java/lang/invoke/MethodHandle" ∧ yX11_mean.cls ≠ "java/lang/invoke/VarHandle" := ⟨z_mA3 (List.mem_of_getElem? (i := 37) rfl) rfl, z_in_11, by decide, by decide, by decide⟩
theorem im_X11_mean : Cond.instanceMethod yX11_mean ∈ z_all := z_mA3 (List.mem_of_getElem? (i := 35) rfl) rfl
theorem se_X11_mean : Cond.selects yX11_mean.cls yX11_mean yX11_mean ∈ z_all := z_mA3 (List.mem_of_getElem? (i := 36) rfl) rfl
theorem wd_X11_bed : Cond.code yX11_bed cX11_bed 4 (some .int) ∈ z_all ∧ Cond.initialized yX11_bed.cls ∈ z_all ∧ 4 ≤ 70 ∧ yX11_bed.cls ≠ "java/lang/invoke/MethodHandle" ∧ yX11_bed.cls ≠ "java/lang/invoke/VarHandle" := ⟨z_mA3 (List.mem_of_getElem? (i := 45) rfl) rfl, z_in_11, by decide, by decide, by decide⟩
theorem im_X11_bed : Cond.instanceMethod yX11_bed ∈ z_all := z_mA3 (List.mem_of_getElem? (i := 43) rfl) rfl
theorem se_X11_bed : Cond.selects yX11_bed.cls yX11_bed yX11_bed ∈ z_all := z_mA3 (List.mem_of_getElem? (i := 44) rfl) rfl
theorem wd_X11_lay : Cond.code yX11_lay cX11_lay 5 (some .int) ∈ z_all ∧ Cond.initialized yX11_lay.cls ∈ z_all ∧ 5 ≤ 70 ∧ yX11_lay.cls ≠ "java/lang/invoke/MethodHandle" ∧ yX11_lay.cls ≠ "java/lang/invoke/VarHandle" := ⟨z_mA3 (List.mem_of_getElem? (i := 69) rfl) rfl, z_in_11, by decide, by decide, by decide⟩
theorem im_X11_lay : Cond.instanceMethod yX11_lay ∈ z_all := z_mA3 (List.mem_of_getElem? (i := 67) rfl) rfl
theorem se_X11_lay : Cond.selects yX11_lay.cls yX11_lay yX11_lay ∈ z_all := z_mA3 (List.mem_of_getElem? (i := 68) rfl) rfl
theorem wd_X11_spot : Cond.code yX11_spot cX11_spot 5 (some .long) ∈ z_all ∧ Cond.initialized yX11_spot.cls ∈ z_all ∧ 5 ≤ 70 ∧ yX11_spot.cls ≠ "java/lang/invoke/MethodHandle" ∧ yX11_spot.cls ≠ "java/lang/invoke/VarHandle" := ⟨z_mA3 (List.mem_of_getElem? (i := 73) rfl) rfl, z_in_11, by decide, by decide, by decide⟩
theorem im_X11_spot : Cond.instanceMethod yX11_spot ∈ z_all := z_mA3 (List.mem_of_getElem? (i := 71) rfl) rfl
theorem se_X11_spot : Cond.selects yX11_spot.cls yX11_spot yX11_spot ∈ z_all := z_mA3 (List.mem_of_getElem? (i := 72) rfl) rfl
theorem wd_X11_setSpot : Cond.code yX11_setSpot cX11_setSpot 7 (some .int) ∈ z_all ∧ Cond.initialized yX11_setSpot.cls ∈ z_all ∧ 7 ≤ 70 ∧ yX11_setSpot.cls ≠ "java/lang/invoke/MethodHandle" ∧ yX11_setSpot.cls ≠ "java/lang/invoke/VarHandle" := ⟨z_mA3 (List.mem_of_getElem? (i := 82) rfl) rfl, z_in_11, by decide, by decide, by decide⟩
theorem im_X11_setSpot : Cond.instanceMethod yX11_setSpot ∈ z_all := z_mA3 (List.mem_of_getElem? (i := 80) rfl) rfl
theorem se_X11_setSpot : Cond.selects yX11_setSpot.cls yX11_setSpot yX11_setSpot ∈ z_all := z_mA3 (List.mem_of_getElem? (i := 81) rfl) rfl
theorem wd_X11_bare : Cond.code yX11_bare cX11_bare 3 (some .int) ∈ z_all ∧ Cond.initialized yX11_bare.cls ∈ z_all ∧ 3 ≤ 70 ∧ yX11_bare.cls ≠ "java/lang/invoke/MethodHandle" ∧ yX11_bare.cls ≠ "java/lang/invoke/VarHandle" := ⟨z_mA3 (List.mem_of_getElem? (i := 86) rfl) rfl, z_in_11, by decide, by decide, by decide⟩
theorem im_X11_bare : Cond.instanceMethod yX11_bare ∈ z_all := z_mA3 (List.mem_of_getElem? (i := 84) rfl) rfl
theorem se_X11_bare : Cond.selects yX11_bare.cls yX11_bare yX11_bare ∈ z_all := z_mA3 (List.mem_of_getElem? (i := 85) rfl) rfl
theorem wd_X11_thing : Cond.code yX11_thing cX11_thing 3 (some .int) ∈ z_all ∧ Cond.initialized yX11_thing.cls ∈ z_all ∧ 3 ≤ 70 ∧ yX11_thing.cls ≠ "java/lang/invoke/MethodHandle" ∧ yX11_thing.cls ≠ "java/lang/invoke/VarHandle" := ⟨z_mA3 (List.mem_of_getElem? (i := 94) rfl) rfl, z_in_11, by decide, by decide, by decide⟩
theorem im_X11_thing : Cond.instanceMethod yX11_thing ∈ z_all := z_mA3 (List.mem_of_getElem? (i := 92) rfl) rfl
theorem se_X11_thing : Cond.selects yX11_thing.cls yX11_thing yX11_thing ∈ z_all := z_mA3 (List.mem_of_getElem? (i := 93) rfl) rfl
theorem wd_X11_told : Cond.code yX11_told cX11_told 3 (some .int) ∈ z_all ∧ Cond.initialized yX11_told.cls ∈ z_all ∧ 3 ≤ 70 ∧ yX11_told.cls ≠ "java/lang/invoke/MethodHandle" ∧ yX11_told.cls ≠ "java/lang/invoke/VarHandle" := ⟨z_mA3 (List.mem_of_getElem? (i := 114) rfl) rfl, z_in_11, by decide, by decide, by decide⟩
theorem im_X11_told : Cond.instanceMethod yX11_told ∈ z_all := z_mA3 (List.mem_of_getElem? (i := 113) rfl) rfl
theorem se_X11_told : Cond.selects yX11_told.cls yX11_told yX11_told ∈ z_all := z_msel (q := (yX11_told, _)) (List.mem_of_getElem? (i := 6) rfl)
theorem wd_X11_says : Cond.code yX11_says cX11_says 3 (some .int) ∈ z_all ∧ Cond.initialized yX11_says.cls ∈ z_all ∧ 3 ≤ 70 ∧ yX11_says.cls ≠ "java/lang/invoke/MethodHandle" ∧ yX11_says.cls ≠ "java/lang/invoke/VarHandle" := ⟨z_mA3 (List.mem_of_getElem? (i := 110) rfl) rfl, z_in_11, by decide, by decide, by decide⟩
theorem im_X11_says : Cond.instanceMethod yX11_says ∈ z_all := z_mA3 (List.mem_of_getElem? (i := 108) rfl) rfl
theorem se_X11_says : Cond.selects yX11_says.cls yX11_says yX11_says ∈ z_all := z_mA3 (List.mem_of_getElem? (i := 109) rfl) rfl
theorem wd_X11_rack : Cond.code yX11_rack cX11_rack 3 (some .int) ∈ z_all ∧ Cond.initialized yX11_rack.cls ∈ z_all ∧ 3 ≤ 70 ∧ yX11_rack.cls ≠ "java/lang/invoke/MethodHandle" ∧ yX11_rack.cls ≠ "java/lang/invoke/VarHandle" := ⟨z_mA3 (List.mem_of_getElem? (i := 140) rfl) rfl, z_in_11, by decide, by decide, by decide⟩
theorem im_X11_rack : Cond.instanceMethod yX11_rack ∈ z_all := z_mA3 (List.mem_of_getElem? (i := 138) rfl) rfl
theorem se_X11_rack : Cond.selects yX11_rack.cls yX11_rack yX11_rack ∈ z_all := z_mA3 (List.mem_of_getElem? (i := 139) rfl) rfl
theorem wd_X11_placeFailure : Cond.code yX11_placeFailure cX11_placeFailure 3 (some .int) ∈ z_all ∧ Cond.initialized yX11_placeFailure.cls ∈ z_all ∧ 3 ≤ 70 ∧ yX11_placeFailure.cls ≠ "java/lang/invoke/MethodHandle" ∧ yX11_placeFailure.cls ≠ "java/lang/invoke/VarHandle" := ⟨z_mA3 (List.mem_of_getElem? (i := 162) rfl) rfl, z_in_11, by decide, by decide, by decide⟩
theorem im_X11_placeFailure : Cond.instanceMethod yX11_placeFailure ∈ z_all := z_mA3 (List.mem_of_getElem? (i := 161) rfl) rfl
theorem se_X11_placeFailure : Cond.selects yX11_placeFailure.cls yX11_placeFailure yX11_placeFailure ∈ z_all := z_msel (q := (yX11_placeFailure, _)) (List.mem_of_getElem? (i := 7) rfl)
theorem wd_X11_mayHang : Cond.code yX11_mayHang cX11_mayHang 3 (some .boolean) ∈ z_all ∧ Cond.initialized yX11_mayHang.cls ∈ z_all ∧ 3 ≤ 70 ∧ yX11_mayHang.cls ≠ "java/lang/invoke/MethodHandle" ∧ yX11_mayHang.cls ≠ "java/lang/invoke/VarHandle" := ⟨z_mA3 (List.mem_of_getElem? (i := 166) rfl) rfl, z_in_11, by decide, by decide, by decide⟩
theorem im_X11_mayHang : Cond.instanceMethod yX11_mayHang ∈ z_all := z_mA3 (List.mem_of_getElem? (i := 165) rfl) rfl
theorem se_X11_mayHang : Cond.selects yX11_mayHang.cls yX11_mayHang yX11_mayHang ∈ z_all := z_msel (q := (yX11_mayHang, _)) (List.mem_of_getElem? (i := 8) rfl)
theorem wd_X11_hang : Cond.code yX11_hang cX11_hang 5 (some .int) ∈ z_all ∧ Cond.initialized yX11_hang.cls ∈ z_all ∧ 5 ≤ 70 ∧ yX11_hang.cls ≠ "java/lang/invoke/MethodHandle" ∧ yX11_hang.cls ≠ "java/lang/invoke/VarHandle" := ⟨z_mA3 (List.mem_of_getElem? (i := 158) rfl) rfl, z_in_11, by decide, by decide, by decide⟩
theorem im_X11_hang : Cond.instanceMethod yX11_hang ∈ z_all := z_mA3 (List.mem_of_getElem? (i := 156) rfl) rfl
theorem se_X11_hang : Cond.selects yX11_hang.cls yX11_hang yX11_hang ∈ z_all := z_mA3 (List.mem_of_getElem? (i := 157) rfl) rfl
theorem wd_X11_down : Cond.code yX11_down cX11_down 6 (some .int) ∈ z_all ∧ Cond.initialized yX11_down.cls ∈ z_all ∧ 6 ≤ 70 ∧ yX11_down.cls ≠ "java/lang/invoke/MethodHandle" ∧ yX11_down.cls ≠ "java/lang/invoke/VarHandle" := ⟨z_mA3 (List.mem_of_getElem? (i := 171) rfl) rfl, z_in_11, by decide, by decide, by decide⟩
theorem im_X11_down : Cond.instanceMethod yX11_down ∈ z_all := z_mA3 (List.mem_of_getElem? (i := 169) rfl) rfl
theorem se_X11_down : Cond.selects yX11_down.cls yX11_down yX11_down ∈ z_all := z_mA3 (List.mem_of_getElem? (i := 170) rfl) rfl
theorem wd_X11_hung : Cond.code yX11_hung cX11_hung 4 (some .int) ∈ z_all ∧ Cond.initialized yX11_hung.cls ∈ z_all ∧ 4 ≤ 70 ∧ yX11_hung.cls ≠ "java/lang/invoke/MethodHandle" ∧ yX11_hung.cls ≠ "java/lang/invoke/VarHandle" := ⟨z_mA3 (List.mem_of_getElem? (i := 175) rfl) rfl, z_in_11, by decide, by decide, by decide⟩
theorem im_X11_hung : Cond.instanceMethod yX11_hung ∈ z_all := z_mA3 (List.mem_of_getElem? (i := 173) rfl) rfl
theorem se_X11_hung : Cond.selects yX11_hung.cls yX11_hung yX11_hung ∈ z_all := z_mA3 (List.mem_of_getElem? (i := 174) rfl) rfl
theorem wd_X11_asked : Cond.code yX11_asked cX11_asked 5 (some .int) ∈ z_all ∧ Cond.initialized yX11_asked.cls ∈ z_all ∧ 5 ≤ 70 ∧ yX11_asked.cls ≠ "java/lang/invoke/MethodHandle" ∧ yX11_asked.cls ≠ "java/lang/invoke/VarHandle" := ⟨z_mA3 (List.mem_of_getElem? (i := 179) rfl) rfl, z_in_11, by decide, by decide, by decide⟩
theorem im_X11_asked : Cond.instanceMethod yX11_asked ∈ z_all := z_mA3 (List.mem_of_getElem? (i := 177) rfl) rfl
theorem se_X11_asked : Cond.selects yX11_asked.cls yX11_asked yX11_asked ∈ z_all := z_mA3 (List.mem_of_getElem? (i := 178) rfl) rfl
theorem wd_X11_haul : Cond.code yX11_haul cX11_haul 9 (some .int) ∈ z_all ∧ Cond.initialized yX11_haul.cls ∈ z_all ∧ 9 ≤ 70 ∧ yX11_haul.cls ≠ "java/lang/invoke/MethodHandle" ∧ yX11_haul.cls ≠ "java/lang/invoke/VarHandle" := ⟨z_mA3 (List.mem_of_getElem? (i := 183) rfl) rfl, z_in_11, by decide, by decide, by decide⟩
theorem im_X11_haul : Cond.instanceMethod yX11_haul ∈ z_all := z_mA3 (List.mem_of_getElem? (i := 181) rfl) rfl
theorem se_X11_haul : Cond.selects yX11_haul.cls yX11_haul yX11_haul ∈ z_all := z_mA3 (List.mem_of_getElem? (i := 182) rfl) rfl
theorem wd_X11_boxable : Cond.code yX11_boxable cX11_boxable 2 (some .int) ∈ z_all ∧ Cond.initialized yX11_boxable.cls ∈ z_all ∧ 2 ≤ 70 ∧ yX11_boxable.cls ≠ "java/lang/invoke/MethodHandle" ∧ yX11_boxable.cls ≠ "java/lang/invoke/VarHandle" := ⟨z_mA3 (List.mem_of_getElem? (i := 191) rfl) rfl, z_in_11, by decide, by decide, by decide⟩
theorem im_X11_boxable : Cond.instanceMethod yX11_boxable ∈ z_all := z_mA3 (List.mem_of_getElem? (i := 190) rfl) rfl
theorem se_X11_boxable : Cond.selects yX11_boxable.cls yX11_boxable yX11_boxable ∈ z_all := z_msel (q := (yX11_boxable, _)) (List.mem_of_getElem? (i := 9) rfl)
theorem wd_X11_box : Cond.code yX11_box cX11_box 4 (some .int) ∈ z_all ∧ Cond.initialized yX11_box.cls ∈ z_all ∧ 4 ≤ 70 ∧ yX11_box.cls ≠ "java/lang/invoke/MethodHandle" ∧ yX11_box.cls ≠ "java/lang/invoke/VarHandle" := ⟨z_mA3 (List.mem_of_getElem? (i := 187) rfl) rfl, z_in_11, by decide, by decide, by decide⟩
theorem im_X11_box : Cond.instanceMethod yX11_box ∈ z_all := z_mA3 (List.mem_of_getElem? (i := 185) rfl) rfl
theorem se_X11_box : Cond.selects yX11_box.cls yX11_box yX11_box ∈ z_all := z_mA3 (List.mem_of_getElem? (i := 186) rfl) rfl
theorem wd_X11_boxIs : Cond.code yX11_boxIs cX11_boxIs 4 (some .boolean) ∈ z_all ∧ Cond.initialized yX11_boxIs.cls ∈ z_all ∧ 4 ≤ 70 ∧ yX11_boxIs.cls ≠ "java/lang/invoke/MethodHandle" ∧ yX11_boxIs.cls ≠ "java/lang/invoke/VarHandle" := ⟨z_mA3 (List.mem_of_getElem? (i := 199) rfl) rfl, z_in_11, by decide, by decide, by decide⟩
theorem im_X11_boxIs : Cond.instanceMethod yX11_boxIs ∈ z_all := z_mA3 (List.mem_of_getElem? (i := 198) rfl) rfl
theorem se_X11_boxIs : Cond.selects yX11_boxIs.cls yX11_boxIs yX11_boxIs ∈ z_all := z_msel (q := (yX11_boxIs, _)) (List.mem_of_getElem? (i := 10) rfl)
theorem wd_X11_isA : Cond.code yX11_isA cX11_isA 3 (some .int) ∈ z_all ∧ Cond.initialized yX11_isA.cls ∈ z_all ∧ 3 ≤ 70 ∧ yX11_isA.cls ≠ "java/lang/invoke/MethodHandle" ∧ yX11_isA.cls ≠ "java/lang/invoke/VarHandle" := ⟨z_mA3 (List.mem_of_getElem? (i := 195) rfl) rfl, z_in_11, by decide, by decide, by decide⟩
theorem im_X11_isA : Cond.instanceMethod yX11_isA ∈ z_all := z_mA3 (List.mem_of_getElem? (i := 193) rfl) rfl
theorem se_X11_isA : Cond.selects yX11_isA.cls yX11_isA yX11_isA ∈ z_all := z_mA3 (List.mem_of_getElem? (i := 194) rfl) rfl
theorem wd_X11_boxLength : Cond.code yX11_boxLength cX11_boxLength 3 (some .int) ∈ z_all ∧ Cond.initialized yX11_boxLength.cls ∈ z_all ∧ 3 ≤ 70 ∧ yX11_boxLength.cls ≠ "java/lang/invoke/MethodHandle" ∧ yX11_boxLength.cls ≠ "java/lang/invoke/VarHandle" := ⟨z_mA3 (List.mem_of_getElem? (i := 216) rfl) rfl, z_in_11, by decide, by decide, by decide⟩
theorem im_X11_boxLength : Cond.instanceMethod yX11_boxLength ∈ z_all := z_mA3 (List.mem_of_getElem? (i := 215) rfl) rfl
theorem se_X11_boxLength : Cond.selects yX11_boxLength.cls yX11_boxLength yX11_boxLength ∈ z_all := z_msel (q := (yX11_boxLength, _)) (List.mem_of_getElem? (i := 11) rfl)
theorem wd_X11_taken : Cond.code yX11_taken cX11_taken 3 (some .int) ∈ z_all ∧ Cond.initialized yX11_taken.cls ∈ z_all ∧ 3 ≤ 70 ∧ yX11_taken.cls ≠ "java/lang/invoke/MethodHandle" ∧ yX11_taken.cls ≠ "java/lang/invoke/VarHandle" := ⟨z_mA3 (List.mem_of_getElem? (i := 212) rfl) rfl, z_in_11, by decide, by decide, by decide⟩
theorem im_X11_taken : Cond.instanceMethod yX11_taken ∈ z_all := z_mA3 (List.mem_of_getElem? (i := 210) rfl) rfl
theorem se_X11_taken : Cond.selects yX11_taken.cls yX11_taken yX11_taken ∈ z_all := z_mA3 (List.mem_of_getElem? (i := 211) rfl) rfl
theorem wd_X11_used : Cond.code yX11_used cX11_used 2 (some .int) ∈ z_all ∧ Cond.initialized yX11_used.cls ∈ z_all ∧ 2 ≤ 70 ∧ yX11_used.cls ≠ "java/lang/invoke/MethodHandle" ∧ yX11_used.cls ≠ "java/lang/invoke/VarHandle" := ⟨z_mA3 (List.mem_of_getElem? (i := 220) rfl) rfl, z_in_11, by decide, by decide, by decide⟩
theorem im_X11_used : Cond.instanceMethod yX11_used ∈ z_all := z_mA3 (List.mem_of_getElem? (i := 218) rfl) rfl
theorem se_X11_used : Cond.selects yX11_used.cls yX11_used yX11_used ∈ z_all := z_mA3 (List.mem_of_getElem? (i := 219) rfl) rfl
theorem wd_X11_keepCard : Cond.code yX11_keepCard cX11_keepCard 2 (some .int) ∈ z_all ∧ Cond.initialized yX11_keepCard.cls ∈ z_all ∧ 2 ≤ 70 ∧ yX11_keepCard.cls ≠ "java/lang/invoke/MethodHandle" ∧ yX11_keepCard.cls ≠ "java/lang/invoke/VarHandle" := ⟨z_mA4 (List.mem_of_getElem? (i := 7) rfl) rfl, z_in_11, by decide, by decide, by decide⟩
theorem im_X11_keepCard : Cond.instanceMethod yX11_keepCard ∈ z_all := z_mA4 (List.mem_of_getElem? (i := 6) rfl) rfl
theorem se_X11_keepCard : Cond.selects yX11_keepCard.cls yX11_keepCard yX11_keepCard ∈ z_all := z_msel (q := (yX11_keepCard, _)) (List.mem_of_getElem? (i := 12) rfl)
theorem wd_X11_card : Cond.code yX11_card cX11_card 1 (some .int) ∈ z_all ∧ Cond.initialized yX11_card.cls ∈ z_all ∧ 1 ≤ 70 ∧ yX11_card.cls ≠ "java/lang/invoke/MethodHandle" ∧ yX11_card.cls ≠ "java/lang/invoke/VarHandle" := ⟨z_mA3 (List.mem_of_getElem? (i := 225) rfl) rfl, z_in_11, by decide, by decide, by decide⟩
theorem im_X11_card : Cond.instanceMethod yX11_card ∈ z_all := z_mA3 (List.mem_of_getElem? (i := 223) rfl) rfl
theorem se_X11_card : Cond.selects yX11_card.cls yX11_card yX11_card ∈ z_all := z_mA3 (List.mem_of_getElem? (i := 224) rfl) rfl
theorem wd_X11_field : Cond.code yX11_field cX11_field 5 (some .int) ∈ z_all ∧ Cond.initialized yX11_field.cls ∈ z_all ∧ 5 ≤ 70 ∧ yX11_field.cls ≠ "java/lang/invoke/MethodHandle" ∧ yX11_field.cls ≠ "java/lang/invoke/VarHandle" := ⟨z_mA4 (List.mem_of_getElem? (i := 11) rfl) rfl, z_in_11, by decide, by decide, by decide⟩
theorem im_X11_field : Cond.instanceMethod yX11_field ∈ z_all := z_mA4 (List.mem_of_getElem? (i := 9) rfl) rfl
theorem se_X11_field : Cond.selects yX11_field.cls yX11_field yX11_field ∈ z_all := z_mA4 (List.mem_of_getElem? (i := 10) rfl) rfl
theorem wd_X11_fieldOf : Cond.code yX11_fieldOf cX11_fieldOf 3 (some .long) ∈ z_all ∧ Cond.initialized yX11_fieldOf.cls ∈ z_all ∧ 3 ≤ 70 ∧ yX11_fieldOf.cls ≠ "java/lang/invoke/MethodHandle" ∧ yX11_fieldOf.cls ≠ "java/lang/invoke/VarHandle" := ⟨z_mA4 (List.mem_of_getElem? (i := 18) rfl) rfl, z_in_11, by decide, by decide, by decide⟩
theorem im_X11_fieldOf : Cond.instanceMethod yX11_fieldOf ∈ z_all := z_mA4 (List.mem_of_getElem? (i := 16) rfl) rfl
theorem se_X11_fieldOf : Cond.selects yX11_fieldOf.cls yX11_fieldOf yX11_fieldOf ∈ z_all := z_mA4 (List.mem_of_getElem? (i := 17) rfl) rfl
theorem wd_X11_raiseField : Cond.code yX11_raiseField cX11_raiseField 9 (some .long) ∈ z_all ∧ Cond.initialized yX11_raiseField.cls ∈ z_all ∧ 9 ≤ 70 ∧ yX11_raiseField.cls ≠ "java/lang/invoke/MethodHandle" ∧ yX11_raiseField.cls ≠ "java/lang/invoke/VarHandle" := ⟨z_mA4 (List.mem_of_getElem? (i := 29) rfl) rfl, z_in_11, by decide, by decide, by decide⟩
theorem im_X11_raiseField : Cond.instanceMethod yX11_raiseField ∈ z_all := z_mA4 (List.mem_of_getElem? (i := 27) rfl) rfl
theorem se_X11_raiseField : Cond.selects yX11_raiseField.cls yX11_raiseField yX11_raiseField ∈ z_all := z_mA4 (List.mem_of_getElem? (i := 28) rfl) rfl
theorem wd_X11_link : Cond.code yX11_link cX11_link 4 (some .int) ∈ z_all ∧ Cond.initialized yX11_link.cls ∈ z_all ∧ 4 ≤ 70 ∧ yX11_link.cls ≠ "java/lang/invoke/MethodHandle" ∧ yX11_link.cls ≠ "java/lang/invoke/VarHandle" := ⟨z_mA4 (List.mem_of_getElem? (i := 33) rfl) rfl, z_in_11, by decide, by decide, by decide⟩
theorem im_X11_link : Cond.instanceMethod yX11_link ∈ z_all := z_mA4 (List.mem_of_getElem? (i := 31) rfl) rfl
theorem se_X11_link : Cond.selects yX11_link.cls yX11_link yX11_link ∈ z_all := z_mA4 (List.mem_of_getElem? (i := 32) rfl) rfl
theorem wd_X11_along : Cond.code yX11_along cX11_along 5 (some .int) ∈ z_all ∧ Cond.initialized yX11_along.cls ∈ z_all ∧ 5 ≤ 70 ∧ yX11_along.cls ≠ "java/lang/invoke/MethodHandle" ∧ yX11_along.cls ≠ "java/lang/invoke/VarHandle" := ⟨z_mA4 (List.mem_of_getElem? (i := 37) rfl) rfl, z_in_11, by decide, by decide, by decide⟩
theorem im_X11_along : Cond.instanceMethod yX11_along ∈ z_all := z_mA4 (List.mem_of_getElem? (i := 35) rfl) rfl
theorem se_X11_along : Cond.selects yX11_along.cls yX11_along yX11_along ∈ z_all := z_mA4 (List.mem_of_getElem? (i := 36) rfl) rfl
theorem wd_X11_ring : Cond.code yX11_ring cX11_ring 5 (some .int) ∈ z_all ∧ Cond.initialized yX11_ring.cls ∈ z_all ∧ 5 ≤ 70 ∧ yX11_ring.cls ≠ "java/lang/invoke/MethodHandle" ∧ yX11_ring.cls ≠ "java/lang/invoke/VarHandle" := ⟨z_mA4 (List.mem_of_getElem? (i := 41) rfl) rfl, z_in_11, by decide, by decide, by decide⟩
theorem im_X11_ring : Cond.instanceMethod yX11_ring ∈ z_all := z_mA4 (List.mem_of_getElem? (i := 39) rfl) rfl
theorem se_X11_ring : Cond.selects yX11_ring.cls yX11_ring yX11_ring ∈ z_all := z_mA4 (List.mem_of_getElem? (i := 40) rfl) rfl
theorem wd_X11_cardAsk : Cond.code yX11_cardAsk cX11_cardAsk 3 (some .int) ∈ z_all ∧ Cond.initialized yX11_cardAsk.cls ∈ z_all ∧ 3 ≤ 70 ∧ yX11_cardAsk.cls ≠ "java/lang/invoke/MethodHandle" ∧ yX11_cardAsk.cls ≠ "java/lang/invoke/VarHandle" := ⟨z_mA4 (List.mem_of_getElem? (i := 45) rfl) rfl, z_in_11, by decide, by decide, by decide⟩
theorem im_X11_cardAsk : Cond.instanceMethod yX11_cardAsk ∈ z_all := z_mA4 (List.mem_of_getElem? (i := 43) rfl) rfl
theorem se_X11_cardAsk : Cond.selects yX11_cardAsk.cls yX11_cardAsk yX11_cardAsk ∈ z_all := z_mA4 (List.mem_of_getElem? (i := 44) rfl) rfl
theorem wd_X11_copy : Cond.code yX11_copy cX11_copy 3 (some .int) ∈ z_all ∧ Cond.initialized yX11_copy.cls ∈ z_all ∧ 3 ≤ 70 ∧ yX11_copy.cls ≠ "java/lang/invoke/MethodHandle" ∧ yX11_copy.cls ≠ "java/lang/invoke/VarHandle" := ⟨z_mA4 (List.mem_of_getElem? (i := 49) rfl) rfl, z_in_11, by decide, by decide, by decide⟩
theorem im_X11_copy : Cond.instanceMethod yX11_copy ∈ z_all := z_mA4 (List.mem_of_getElem? (i := 47) rfl) rfl
theorem se_X11_copy : Cond.selects yX11_copy.cls yX11_copy yX11_copy ∈ z_all := z_mA4 (List.mem_of_getElem? (i := 48) rfl) rfl
theorem wd_X11_flow : Cond.code yX11_flow cX11_flow 4 (some .long) ∈ z_all ∧ Cond.initialized yX11_flow.cls ∈ z_all ∧ 4 ≤ 70 ∧ yX11_flow.cls ≠ "java/lang/invoke/MethodHandle" ∧ yX11_flow.cls ≠ "java/lang/invoke/VarHandle" := ⟨z_mA4 (List.mem_of_getElem? (i := 53) rfl) rfl, z_in_11, by decide, by decide, by decide⟩
theorem im_X11_flow : Cond.instanceMethod yX11_flow ∈ z_all := z_mA4 (List.mem_of_getElem? (i := 51) rfl) rfl
theorem se_X11_flow : Cond.selects yX11_flow.cls yX11_flow yX11_flow ∈ z_all := z_mA4 (List.mem_of_getElem? (i := 52) rfl) rfl
theorem wd_X11_holds : Cond.code yX11_holds cX11_holds 9 (some .boolean) ∈ z_all ∧ Cond.initialized yX11_holds.cls ∈ z_all ∧ 9 ≤ 70 ∧ yX11_holds.cls ≠ "java/lang/invoke/MethodHandle" ∧ yX11_holds.cls ≠ "java/lang/invoke/VarHandle" := ⟨z_mA4 (List.mem_of_getElem? (i := 93) rfl) rfl, z_in_11, by decide, by decide, by decide⟩
theorem st_X11_holds : Cond.static yX11_holds ∈ z_all := z_mA4 (List.mem_of_getElem? (i := 92) rfl) rfl
theorem wd_X11_test : Cond.code yX11_test cX11_test 7 (some .int) ∈ z_all ∧ Cond.initialized yX11_test.cls ∈ z_all ∧ 7 ≤ 70 ∧ yX11_test.cls ≠ "java/lang/invoke/MethodHandle" ∧ yX11_test.cls ≠ "java/lang/invoke/VarHandle" := ⟨z_mA4 (List.mem_of_getElem? (i := 89) rfl) rfl, z_in_11, by decide, by decide, by decide⟩
theorem im_X11_test : Cond.instanceMethod yX11_test ∈ z_all := z_mA4 (List.mem_of_getElem? (i := 87) rfl) rfl
theorem se_X11_test : Cond.selects yX11_test.cls yX11_test yX11_test ∈ z_all := z_mA4 (List.mem_of_getElem? (i := 88) rfl) rfl
theorem wd_X11_boundBy : Cond.code yX11_boundBy cX11_boundBy 2 (some .long) ∈ z_all ∧ Cond.initialized yX11_boundBy.cls ∈ z_all ∧ 2 ≤ 70 ∧ yX11_boundBy.cls ≠ "java/lang/invoke/MethodHandle" ∧ yX11_boundBy.cls ≠ "java/lang/invoke/VarHandle" := ⟨z_mA4 (List.mem_of_getElem? (i := 104) rfl) rfl, z_in_11, by decide, by decide, by decide⟩
theorem st_X11_boundBy : Cond.static yX11_boundBy ∈ z_all := z_mA4 (List.mem_of_getElem? (i := 103) rfl) rfl
theorem wd_X11_sumHeld : Cond.code yX11_sumHeld cX11_sumHeld 7 (some .long) ∈ z_all ∧ Cond.initialized yX11_sumHeld.cls ∈ z_all ∧ 7 ≤ 70 ∧ yX11_sumHeld.cls ≠ "java/lang/invoke/MethodHandle" ∧ yX11_sumHeld.cls ≠ "java/lang/invoke/VarHandle" := ⟨z_mA4 (List.mem_of_getElem? (i := 101) rfl) rfl, z_in_11, by decide, by decide, by decide⟩
theorem st_X11_sumHeld : Cond.static yX11_sumHeld ∈ z_all := z_mA4 (List.mem_of_getElem? (i := 100) rfl) rfl
theorem wd_X11_differenceHeld : Cond.code yX11_differenceHeld cX11_differenceHeld 7 (some .long) ∈ z_all ∧ Cond.initialized yX11_differenceHeld.cls ∈ z_all ∧ 7 ≤ 70 ∧ yX11_differenceHeld.cls ≠ "java/lang/invoke/MethodHandle" ∧ yX11_differenceHeld.cls ≠ "java/lang/invoke/VarHandle" := ⟨z_mA4 (List.mem_of_getElem? (i := 107) rfl) rfl, z_in_11, by decide, by decide, by decide⟩
theorem st_X11_differenceHeld : Cond.static yX11_differenceHeld ∈ z_all := z_mA4 (List.mem_of_getElem? (i := 106) rfl) rfl
theorem wd_X11_quotient : Cond.code yX11_quotient cX11_quotient 13 (some .long) ∈ z_all ∧ Cond.initialized yX11_quotient.cls ∈ z_all ∧ 13 ≤ 70 ∧ yX11_quotient.cls ≠ "java/lang/invoke/MethodHandle" ∧ yX11_quotient.cls ≠ "java/lang/invoke/VarHandle" := ⟨z_mA4 (List.mem_of_getElem? (i := 98) rfl) rfl, z_in_11, by decide, by decide, by decide⟩
theorem im_X11_quotient : Cond.instanceMethod yX11_quotient ∈ z_all := z_mA4 (List.mem_of_getElem? (i := 96) rfl) rfl
theorem se_X11_quotient : Cond.selects yX11_quotient.cls yX11_quotient yX11_quotient ∈ z_all := z_mA4 (List.mem_of_getElem? (i := 97) rfl) rfl
theorem wd_X11_step : Cond.code yX11_step cX11_step 7 (some .int) ∈ z_all ∧ Cond.initialized yX11_step.cls ∈ z_all ∧ 7 ≤ 70 ∧ yX11_step.cls ≠ "java/lang/invoke/MethodHandle" ∧ yX11_step.cls ≠ "java/lang/invoke/VarHandle" := ⟨z_mA4 (List.mem_of_getElem? (i := 111) rfl) rfl, z_in_11, by decide, by decide, by decide⟩
theorem im_X11_step : Cond.instanceMethod yX11_step ∈ z_all := z_mA4 (List.mem_of_getElem? (i := 109) rfl) rfl
theorem se_X11_step : Cond.selects yX11_step.cls yX11_step yX11_step ∈ z_all := z_mA4 (List.mem_of_getElem? (i := 110) rfl) rfl
theorem wd_X11_wipe : Cond.code yX11_wipe cX11_wipe 3 (some .int) ∈ z_all ∧ Cond.initialized yX11_wipe.cls ∈ z_all ∧ 3 ≤ 70 ∧ yX11_wipe.cls ≠ "java/lang/invoke/MethodHandle" ∧ yX11_wipe.cls ≠ "java/lang/invoke/VarHandle" := ⟨z_mA4 (List.mem_of_getElem? (i := 127) rfl) rfl, z_in_11, by decide, by decide, by decide⟩
theorem im_X11_wipe : Cond.instanceMethod yX11_wipe ∈ z_all := z_mA4 (List.mem_of_getElem? (i := 125) rfl) rfl
theorem se_X11_wipe : Cond.selects yX11_wipe.cls yX11_wipe yX11_wipe ∈ z_all := z_mA4 (List.mem_of_getElem? (i := 126) rfl) rfl
theorem wd_X11_raised : Cond.code yX11_raised cX11_raised 2 (some .int) ∈ z_all ∧ Cond.initialized yX11_raised.cls ∈ z_all ∧ 2 ≤ 70 ∧ yX11_raised.cls ≠ "java/lang/invoke/MethodHandle" ∧ yX11_raised.cls ≠ "java/lang/invoke/VarHandle" := ⟨z_mA4 (List.mem_of_getElem? (i := 204) rfl) rfl, z_in_11, by decide, by decide, by decide⟩
theorem im_X11_raised : Cond.instanceMethod yX11_raised ∈ z_all := z_mA4 (List.mem_of_getElem? (i := 202) rfl) rfl
theorem se_X11_raised : Cond.selects yX11_raised.cls yX11_raised yX11_raised ∈ z_all := z_mA4 (List.mem_of_getElem? (i := 203) rfl) rfl
theorem wd_X11_stock : Cond.code yX11_stock cX11_stock 5 (some .long) ∈ z_all ∧ Cond.initialized yX11_stock.cls ∈ z_all ∧ 5 ≤ 70 ∧ yX11_stock.cls ≠ "java/lang/invoke/MethodHandle" ∧ yX11_stock.cls ≠ "java/lang/invoke/VarHandle" := ⟨z_mA4 (List.mem_of_getElem? (i := 208) rfl) rfl, z_in_11, by decide, by decide, by decide⟩
theorem im_X11_stock : Cond.instanceMethod yX11_stock ∈ z_all := z_mA4 (List.mem_of_getElem? (i := 206) rfl) rfl
theorem se_X11_stock : Cond.selects yX11_stock.cls yX11_stock yX11_stock ∈ z_all := z_mA4 (List.mem_of_getElem? (i := 207) rfl) rfl
theorem wd_X11_gate : Cond.code yX11_gate cX11_gate 3 (some .int) ∈ z_all ∧ Cond.initialized yX11_gate.cls ∈ z_all ∧ 3 ≤ 70 ∧ yX11_gate.cls ≠ "java/lang/invoke/MethodHandle" ∧ yX11_gate.cls ≠ "java/lang/invoke/VarHandle" := ⟨z_mA4 (List.mem_of_getElem? (i := 213) rfl) rfl, z_in_11, by decide, by decide, by decide⟩
theorem im_X11_gate : Cond.instanceMethod yX11_gate ∈ z_all := z_mA4 (List.mem_of_getElem? (i := 211) rfl) rfl
theorem se_X11_gate : Cond.selects yX11_gate.cls yX11_gate yX11_gate ∈ z_all := z_mA4 (List.mem_of_getElem? (i := 212) rfl) rfl
theorem wd_X11_signal : Cond.code yX11_signal cX11_signal 2 (some .int) ∈ z_all ∧ Cond.initialized yX11_signal.cls ∈ z_all ∧ 2 ≤ 70 ∧ yX11_signal.cls ≠ "java/lang/invoke/MethodHandle" ∧ yX11_signal.cls ≠ "java/lang/invoke/VarHandle" := ⟨z_mA4 (List.mem_of_getElem? (i := 217) rfl) rfl, z_in_11, by decide, by decide, by decide⟩
theorem im_X11_signal : Cond.instanceMethod yX11_signal ∈ z_all := z_mA4 (List.mem_of_getElem? (i := 215) rfl) rfl
theorem se_X11_signal : Cond.selects yX11_signal.cls yX11_signal yX11_signal ∈ z_all := z_mA4 (List.mem_of_getElem? (i := 216) rfl) rfl
theorem wd_X11_table : Cond.code yX11_table cX11_table 2 (some .long) ∈ z_all ∧ Cond.initialized yX11_table.cls ∈ z_all ∧ 2 ≤ 70 ∧ yX11_table.cls ≠ "java/lang/invoke/MethodHandle" ∧ yX11_table.cls ≠ "java/lang/invoke/VarHandle" := ⟨z_mA4 (List.mem_of_getElem? (i := 221) rfl) rfl, z_in_11, by decide, by decide, by decide⟩
theorem im_X11_table : Cond.instanceMethod yX11_table ∈ z_all := z_mA4 (List.mem_of_getElem? (i := 219) rfl) rfl
theorem se_X11_table : Cond.selects yX11_table.cls yX11_table yX11_table ∈ z_all := z_mA4 (List.mem_of_getElem? (i := 220) rfl) rfl
theorem wd_X11_within : Cond.code yX11_within cX11_within 8 (some .boolean) ∈ z_all ∧ Cond.initialized yX11_within.cls ∈ z_all ∧ 8 ≤ 70 ∧ yX11_within.cls ≠ "java/lang/invoke/MethodHandle" ∧ yX11_within.cls ≠ "java/lang/invoke/VarHandle" := ⟨z_mA4 (List.mem_of_getElem? (i := 231) rfl) rfl, z_in_11, by decide, by decide, by decide⟩
theorem st_X11_within : Cond.static yX11_within ∈ z_all := z_mA4 (List.mem_of_getElem? (i := 230) rfl) rfl
theorem wd_X11_turned : Cond.code yX11_turned cX11_turned 3 (some .long) ∈ z_all ∧ Cond.initialized yX11_turned.cls ∈ z_all ∧ 3 ≤ 70 ∧ yX11_turned.cls ≠ "java/lang/invoke/MethodHandle" ∧ yX11_turned.cls ≠ "java/lang/invoke/VarHandle" := ⟨z_mA4 (List.mem_of_getElem? (i := 228) rfl) rfl, z_in_11, by decide, by decide, by decide⟩
theorem im_X11_turned : Cond.instanceMethod yX11_turned ∈ z_all := z_mA4 (List.mem_of_getElem? (i := 226) rfl) rfl
theorem se_X11_turned : Cond.selects yX11_turned.cls yX11_turned yX11_turned ∈ z_all := z_mA4 (List.mem_of_getElem? (i := 227) rfl) rfl
theorem wd_X11_oneNoNumber : Cond.code yX11_oneNoNumber cX11_oneNoNumber 2 (some .long) ∈ z_all ∧ Cond.initialized yX11_oneNoNumber.cls ∈ z_all ∧ 2 ≤ 70 ∧ yX11_oneNoNumber.cls ≠ "java/lang/invoke/MethodHandle" ∧ yX11_oneNoNumber.cls ≠ "java/lang/invoke/VarHandle" := ⟨z_mA5 (List.mem_of_getElem? (i := 9) rfl) rfl, z_in_11, by decide, by decide, by decide⟩
theorem st_X11_oneNoNumber : Cond.static yX11_oneNoNumber ∈ z_all := z_mA5 (List.mem_of_getElem? (i := 8) rfl) rfl
theorem wd_X11_noneOrWithin : Cond.code yX11_noneOrWithin cX11_noneOrWithin 6 (some .boolean) ∈ z_all ∧ Cond.initialized yX11_noneOrWithin.cls ∈ z_all ∧ 6 ≤ 70 ∧ yX11_noneOrWithin.cls ≠ "java/lang/invoke/MethodHandle" ∧ yX11_noneOrWithin.cls ≠ "java/lang/invoke/VarHandle" := ⟨z_mA5 (List.mem_of_getElem? (i := 6) rfl) rfl, z_in_11, by decide, by decide, by decide⟩
theorem st_X11_noneOrWithin : Cond.static yX11_noneOrWithin ∈ z_all := z_mA5 (List.mem_of_getElem? (i := 5) rfl) rfl
theorem wd_X11_reading : Cond.code yX11_reading cX11_reading 4 (some .int) ∈ z_all ∧ Cond.initialized yX11_reading.cls ∈ z_all ∧ 4 ≤ 70 ∧ yX11_reading.cls ≠ "java/lang/invoke/MethodHandle" ∧ yX11_reading.cls ≠ "java/lang/invoke/VarHandle" := ⟨z_mA5 (List.mem_of_getElem? (i := 1) rfl) rfl, z_in_11, by decide, by decide, by decide⟩
theorem im_X11_reading : Cond.instanceMethod yX11_reading ∈ z_all := z_mA4 (List.mem_of_getElem? (i := 239) rfl) rfl
theorem se_X11_reading : Cond.selects yX11_reading.cls yX11_reading yX11_reading ∈ z_all := z_mA5 (List.mem_of_getElem? (i := 0) rfl) rfl
theorem wd_X11_word : Cond.code yX11_word cX11_word 3 (some .int) ∈ z_all ∧ Cond.initialized yX11_word.cls ∈ z_all ∧ 3 ≤ 70 ∧ yX11_word.cls ≠ "java/lang/invoke/MethodHandle" ∧ yX11_word.cls ≠ "java/lang/invoke/VarHandle" := ⟨z_mA5 (List.mem_of_getElem? (i := 14) rfl) rfl, z_in_11, by decide, by decide, by decide⟩
theorem im_X11_word : Cond.instanceMethod yX11_word ∈ z_all := z_mA5 (List.mem_of_getElem? (i := 12) rfl) rfl
theorem se_X11_word : Cond.selects yX11_word.cls yX11_word yX11_word ∈ z_all := z_mA5 (List.mem_of_getElem? (i := 13) rfl) rfl
theorem wd_X11_stuck : Cond.code yX11_stuck cX11_stuck 4 (some .int) ∈ z_all ∧ Cond.initialized yX11_stuck.cls ∈ z_all ∧ 4 ≤ 70 ∧ yX11_stuck.cls ≠ "java/lang/invoke/MethodHandle" ∧ yX11_stuck.cls ≠ "java/lang/invoke/VarHandle" := ⟨z_mA5 (List.mem_of_getElem? (i := 19) rfl) rfl, z_in_11, by decide, by decide, by decide⟩
theorem im_X11_stuck : Cond.instanceMethod yX11_stuck ∈ z_all := z_mA5 (List.mem_of_getElem? (i := 17) rfl) rfl
theorem se_X11_stuck : Cond.selects yX11_stuck.cls yX11_stuck yX11_stuck ∈ z_all := z_mA5 (List.mem_of_getElem? (i := 18) rfl) rfl
theorem wd_X11_hand : Cond.code yX11_hand cX11_hand 4 (some .int) ∈ z_all ∧ Cond.initialized yX11_hand.cls ∈ z_all ∧ 4 ≤ 70 ∧ yX11_hand.cls ≠ "java/lang/invoke/MethodHandle" ∧ yX11_hand.cls ≠ "java/lang/invoke/VarHandle" := ⟨z_mA5 (List.mem_of_getElem? (i := 23) rfl) rfl, z_in_11, by decide, by decide, by decide⟩
theorem im_X11_hand : Cond.instanceMethod yX11_hand ∈ z_all := z_mA5 (List.mem_of_getElem? (i := 21) rfl) rfl
theorem se_X11_hand : Cond.selects yX11_hand.cls yX11_hand yX11_hand ∈ z_all := z_mA5 (List.mem_of_getElem? (i := 22) rfl) rfl
theorem wd_X11_rate : Cond.code yX11_rate cX11_rate 3 (some .int) ∈ z_all ∧ Cond.initialized yX11_rate.cls ∈ z_all ∧ 3 ≤ 70 ∧ yX11_rate.cls ≠ "java/lang/invoke/MethodHandle" ∧ yX11_rate.cls ≠ "java/lang/invoke/VarHandle" := ⟨z_mA5 (List.mem_of_getElem? (i := 27) rfl) rfl, z_in_11, by decide, by decide, by decide⟩
theorem im_X11_rate : Cond.instanceMethod yX11_rate ∈ z_all := z_mA5 (List.mem_of_getElem? (i := 25) rfl) rfl
theorem se_X11_rate : Cond.selects yX11_rate.cls yX11_rate yX11_rate ∈ z_all := z_mA5 (List.mem_of_getElem? (i := 26) rfl) rfl
theorem wd_X11_run : Cond.code yX11_run cX11_run 5 (some .int) ∈ z_all ∧ Cond.initialized yX11_run.cls ∈ z_all ∧ 5 ≤ 70 ∧ yX11_run.cls ≠ "java/lang/invoke/MethodHandle" ∧ yX11_run.cls ≠ "java/lang/invoke/VarHandle" := ⟨z_mA5 (List.mem_of_getElem? (i := 31) rfl) rfl, z_in_11, by decide, by decide, by decide⟩
theorem im_X11_run : Cond.instanceMethod yX11_run ∈ z_all := z_mA5 (List.mem_of_getElem? (i := 29) rfl) rfl
theorem se_X11_run : Cond.selects yX11_run.cls yX11_run yX11_run ∈ z_all := z_mA5 (List.mem_of_getElem? (i := 30) rfl) rfl
theorem wd_X11_lake : Cond.code yX11_lake cX11_lake 2 (some .long) ∈ z_all ∧ Cond.initialized yX11_lake.cls ∈ z_all ∧ 2 ≤ 70 ∧ yX11_lake.cls ≠ "java/lang/invoke/MethodHandle" ∧ yX11_lake.cls ≠ "java/lang/invoke/VarHandle" := ⟨z_mA5 (List.mem_of_getElem? (i := 131) rfl) rfl, z_in_11, by decide, by decide, by decide⟩
theorem im_X11_lake : Cond.instanceMethod yX11_lake ∈ z_all := z_mA5 (List.mem_of_getElem? (i := 129) rfl) rfl
theorem se_X11_lake : Cond.selects yX11_lake.cls yX11_lake yX11_lake ∈ z_all := z_mA5 (List.mem_of_getElem? (i := 130) rfl) rfl
theorem wd_X11_heard : Cond.code yX11_heard cX11_heard 2 (some .int) ∈ z_all ∧ Cond.initialized yX11_heard.cls ∈ z_all ∧ 2 ≤ 70 ∧ yX11_heard.cls ≠ "java/lang/invoke/MethodHandle" ∧ yX11_heard.cls ≠ "java/lang/invoke/VarHandle" := ⟨z_mA5 (List.mem_of_getElem? (i := 139) rfl) rfl, z_in_11, by decide, by decide, by decide⟩
theorem im_X11_heard : Cond.instanceMethod yX11_heard ∈ z_all := z_mA5 (List.mem_of_getElem? (i := 137) rfl) rfl
theorem se_X11_heard : Cond.selects yX11_heard.cls yX11_heard yX11_heard ∈ z_all := z_mA5 (List.mem_of_getElem? (i := 138) rfl) rfl
theorem wd_X11_moved : Cond.code yX11_moved cX11_moved 3 (some .int) ∈ z_all ∧ Cond.initialized yX11_moved.cls ∈ z_all ∧ 3 ≤ 70 ∧ yX11_moved.cls ≠ "java/lang/invoke/MethodHandle" ∧ yX11_moved.cls ≠ "java/lang/invoke/VarHandle" := ⟨z_mA5 (List.mem_of_getElem? (i := 143) rfl) rfl, z_in_11, by decide, by decide, by decide⟩
theorem im_X11_moved : Cond.instanceMethod yX11_moved ∈ z_all := z_mA5 (List.mem_of_getElem? (i := 141) rfl) rfl
theorem se_X11_moved : Cond.selects yX11_moved.cls yX11_moved yX11_moved ∈ z_all := z_mA5 (List.mem_of_getElem? (i := 142) rfl) rfl
theorem wd_X11_about : Cond.code yX11_about cX11_about 2 (some .int) ∈ z_all ∧ Cond.initialized yX11_about.cls ∈ z_all ∧ 2 ≤ 70 ∧ yX11_about.cls ≠ "java/lang/invoke/MethodHandle" ∧ yX11_about.cls ≠ "java/lang/invoke/VarHandle" := ⟨z_mA5 (List.mem_of_getElem? (i := 147) rfl) rfl, z_in_11, by decide, by decide, by decide⟩
theorem im_X11_about : Cond.instanceMethod yX11_about ∈ z_all := z_mA5 (List.mem_of_getElem? (i := 145) rfl) rfl
theorem se_X11_about : Cond.selects yX11_about.cls yX11_about yX11_about ∈ z_all := z_mA5 (List.mem_of_getElem? (i := 146) rfl) rfl
theorem wd_X11_rule : Cond.code yX11_rule cX11_rule 10 (some .int) ∈ z_all ∧ Cond.initialized yX11_rule.cls ∈ z_all ∧ 10 ≤ 70 ∧ yX11_rule.cls ≠ "java/lang/invoke/MethodHandle" ∧ yX11_rule.cls ≠ "java/lang/invoke/VarHandle" := ⟨z_mA5 (List.mem_of_getElem? (i := 151) rfl) rfl, z_in_11, by decide, by decide, by decide⟩
theorem im_X11_rule : Cond.instanceMethod yX11_rule ∈ z_all := z_mA5 (List.mem_of_getElem? (i := 149) rfl) rfl
theorem se_X11_rule : Cond.selects yX11_rule.cls yX11_rule yX11_rule ∈ z_all := z_mA5 (List.mem_of_getElem? (i := 150) rfl) rfl
theorem wd_X11_ruleAt : Cond.code yX11_ruleAt cX11_ruleAt 4 (some .int) ∈ z_all ∧ Cond.initialized yX11_ruleAt.cls ∈ z_all ∧ 4 ≤ 70 ∧ yX11_ruleAt.cls ≠ "java/lang/invoke/MethodHandle" ∧ yX11_ruleAt.cls ≠ "java/lang/invoke/VarHandle" := ⟨z_mA5 (List.mem_of_getElem? (i := 159) rfl) rfl, z_in_11, by decide, by decide, by decide⟩
theorem im_X11_ruleAt : Cond.instanceMethod yX11_ruleAt ∈ z_all := z_mA5 (List.mem_of_getElem? (i := 157) rfl) rfl
theorem se_X11_ruleAt : Cond.selects yX11_ruleAt.cls yX11_ruleAt yX11_ruleAt ∈ z_all := z_mA5 (List.mem_of_getElem? (i := 158) rfl) rfl
theorem wd_X11_right : Cond.code yX11_right cX11_right 5 (some .int) ∈ z_all ∧ Cond.initialized yX11_right.cls ∈ z_all ∧ 5 ≤ 70 ∧ yX11_right.cls ≠ "java/lang/invoke/MethodHandle" ∧ yX11_right.cls ≠ "java/lang/invoke/VarHandle" := ⟨z_mA5 (List.mem_of_getElem? (i := 164) rfl) rfl, z_in_11, by decide, by decide, by decide⟩
theorem im_X11_right : Cond.instanceMethod yX11_right ∈ z_all := z_mA5 (List.mem_of_getElem? (i := 162) rfl) rfl
theorem se_X11_right : Cond.selects yX11_right.cls yX11_right yX11_right ∈ z_all := z_mA5 (List.mem_of_getElem? (i := 163) rfl) rfl
theorem wd_X11_part : Cond.code yX11_part cX11_part 3 (some .long) ∈ z_all ∧ Cond.initialized yX11_part.cls ∈ z_all ∧ 3 ≤ 70 ∧ yX11_part.cls ≠ "java/lang/invoke/MethodHandle" ∧ yX11_part.cls ≠ "java/lang/invoke/VarHandle" := ⟨z_mA5 (List.mem_of_getElem? (i := 173) rfl) rfl, z_in_11, by decide, by decide, by decide⟩
theorem im_X11_part : Cond.instanceMethod yX11_part ∈ z_all := z_mA5 (List.mem_of_getElem? (i := 171) rfl) rfl
theorem se_X11_part : Cond.selects yX11_part.cls yX11_part yX11_part ∈ z_all := z_mA5 (List.mem_of_getElem? (i := 172) rfl) rfl
theorem wd_X11_has : Cond.code yX11_has cX11_has 2 (some .long) ∈ z_all ∧ Cond.initialized yX11_has.cls ∈ z_all ∧ 2 ≤ 70 ∧ yX11_has.cls ≠ "java/lang/invoke/MethodHandle" ∧ yX11_has.cls ≠ "java/lang/invoke/VarHandle" := ⟨z_mA5 (List.mem_of_getElem? (i := 194) rfl) rfl, z_in_11, by decide, by decide, by decide⟩
theorem im_X11_has : Cond.instanceMethod yX11_has ∈ z_all := z_mA5 (List.mem_of_getElem? (i := 192) rfl) rfl
theorem se_X11_has : Cond.selects yX11_has.cls yX11_has yX11_has ∈ z_all := z_mA5 (List.mem_of_getElem? (i := 193) rfl) rfl
theorem wd_X11_close : Cond.code yX11_close cX11_close 4 (some .long) ∈ z_all ∧ Cond.initialized yX11_close.cls ∈ z_all ∧ 4 ≤ 70 ∧ yX11_close.cls ≠ "java/lang/invoke/MethodHandle" ∧ yX11_close.cls ≠ "java/lang/invoke/VarHandle" := ⟨z_mA5 (List.mem_of_getElem? (i := 198) rfl) rfl, z_in_11, by decide, by decide, by decide⟩
theorem im_X11_close : Cond.instanceMethod yX11_close ∈ z_all := z_mA5 (List.mem_of_getElem? (i := 196) rfl) rfl
theorem se_X11_close : Cond.selects yX11_close.cls yX11_close yX11_close ∈ z_all := z_mA5 (List.mem_of_getElem? (i := 197) rfl) rfl
theorem wd_X11_hours : Cond.code yX11_hours cX11_hours 3 (some .int) ∈ z_all ∧ Cond.initialized yX11_hours.cls ∈ z_all ∧ 3 ≤ 70 ∧ yX11_hours.cls ≠ "java/lang/invoke/MethodHandle" ∧ yX11_hours.cls ≠ "java/lang/invoke/VarHandle" := ⟨z_mA5 (List.mem_of_getElem? (i := 202) rfl) rfl, z_in_11, by decide, by decide, by decide⟩
theorem im_X11_hours : Cond.instanceMethod yX11_hours ∈ z_all := z_mA5 (List.mem_of_getElem? (i := 200) rfl) rfl
theorem se_X11_hours : Cond.selects yX11_hours.cls yX11_hours yX11_hours ∈ z_all := z_mA5 (List.mem_of_getElem? (i := 201) rfl) rfl
theorem wd_X11_ahead : Cond.code yX11_ahead cX11_ahead 5 (some .int) ∈ z_all ∧ Cond.initialized yX11_ahead.cls ∈ z_all ∧ 5 ≤ 70 ∧ yX11_ahead.cls ≠ "java/lang/invoke/MethodHandle" ∧ yX11_ahead.cls ≠ "java/lang/invoke/VarHandle" := ⟨z_mA5 (List.mem_of_getElem? (i := 206) rfl) rfl, z_in_11, by decide, by decide, by decide⟩
theorem im_X11_ahead : Cond.instanceMethod yX11_ahead ∈ z_all := z_mA5 (List.mem_of_getElem? (i := 204) rfl) rfl
theorem se_X11_ahead : Cond.selects yX11_ahead.cls yX11_ahead yX11_ahead ∈ z_all := z_mA5 (List.mem_of_getElem? (i := 205) rfl) rfl
theorem wd_X11_release : Cond.code yX11_release cX11_release 4 (some .int) ∈ z_all ∧ Cond.initialized yX11_release.cls ∈ z_all ∧ 4 ≤ 70 ∧ yX11_release.cls ≠ "java/lang/invoke/MethodHandle" ∧ yX11_release.cls ≠ "java/lang/invoke/VarHandle" := ⟨z_mA5 (List.mem_of_getElem? (i := 216) rfl) rfl, z_in_11, by decide, by decide, by decide⟩
theorem im_X11_release : Cond.instanceMethod yX11_release ∈ z_all := z_mA5 (List.mem_of_getElem? (i := 214) rfl) rfl
theorem se_X11_release : Cond.selects yX11_release.cls yX11_release yX11_release ∈ z_all := z_mA5 (List.mem_of_getElem? (i := 215) rfl) rfl
theorem wd_X11_routed : Cond.code yX11_routed cX11_routed 4 (some .long) ∈ z_all ∧ Cond.initialized yX11_routed.cls ∈ z_all ∧ 4 ≤ 70 ∧ yX11_routed.cls ≠ "java/lang/invoke/MethodHandle" ∧ yX11_routed.cls ≠ "java/lang/invoke/VarHandle" := ⟨z_mA5 (List.mem_of_getElem? (i := 224) rfl) rfl, z_in_11, by decide, by decide, by decide⟩
theorem im_X11_routed : Cond.instanceMethod yX11_routed ∈ z_all := z_mA5 (List.mem_of_getElem? (i := 222) rfl) rfl
theorem se_X11_routed : Cond.selects yX11_routed.cls yX11_routed yX11_routed ∈ z_all := z_mA5 (List.mem_of_getElem? (i := 223) rfl) rfl
theorem wd_X11_regret : Cond.code yX11_regret cX11_regret 2 (some .long) ∈ z_all ∧ Cond.initialized yX11_regret.cls ∈ z_all ∧ 2 ≤ 70 ∧ yX11_regret.cls ≠ "java/lang/invoke/MethodHandle" ∧ yX11_regret.cls ≠ "java/lang/invoke/VarHandle" := ⟨z_mA6 (List.mem_of_getElem? (i := 4) rfl) rfl, z_in_11, by decide, by decide, by decide⟩
theorem im_X11_regret : Cond.instanceMethod yX11_regret ∈ z_all := z_mA6 (List.mem_of_getElem? (i := 2) rfl) rfl
theorem se_X11_regret : Cond.selects yX11_regret.cls yX11_regret yX11_regret ∈ z_all := z_mA6 (List.mem_of_getElem? (i := 3) rfl) rfl
theorem wd_X11_chosen : Cond.code yX11_chosen cX11_chosen 1 (some .int) ∈ z_all ∧ Cond.initialized yX11_chosen.cls ∈ z_all ∧ 1 ≤ 70 ∧ yX11_chosen.cls ≠ "java/lang/invoke/MethodHandle" ∧ yX11_chosen.cls ≠ "java/lang/invoke/VarHandle" := ⟨z_mA6 (List.mem_of_getElem? (i := 19) rfl) rfl, z_in_11, by decide, by decide, by decide⟩
theorem im_X11_chosen : Cond.instanceMethod yX11_chosen ∈ z_all := z_mA6 (List.mem_of_getElem? (i := 17) rfl) rfl
theorem se_X11_chosen : Cond.selects yX11_chosen.cls yX11_chosen yX11_chosen ∈ z_all := z_mA6 (List.mem_of_getElem? (i := 18) rfl) rfl
theorem wd_X11_peak : Cond.code yX11_peak cX11_peak 2 (some .int) ∈ z_all ∧ Cond.initialized yX11_peak.cls ∈ z_all ∧ 2 ≤ 70 ∧ yX11_peak.cls ≠ "java/lang/invoke/MethodHandle" ∧ yX11_peak.cls ≠ "java/lang/invoke/VarHandle" := ⟨z_mA6 (List.mem_of_getElem? (i := 28) rfl) rfl, z_in_11, by decide, by decide, by decide⟩
theorem im_X11_peak : Cond.instanceMethod yX11_peak ∈ z_all := z_mA6 (List.mem_of_getElem? (i := 26) rfl) rfl
theorem se_X11_peak : Cond.selects yX11_peak.cls yX11_peak yX11_peak ∈ z_all := z_mA6 (List.mem_of_getElem? (i := 27) rfl) rfl
theorem wd_X11_chance : Cond.code yX11_chance cX11_chance 4 (some .int) ∈ z_all ∧ Cond.initialized yX11_chance.cls ∈ z_all ∧ 4 ≤ 70 ∧ yX11_chance.cls ≠ "java/lang/invoke/MethodHandle" ∧ yX11_chance.cls ≠ "java/lang/invoke/VarHandle" := ⟨z_mA6 (List.mem_of_getElem? (i := 36) rfl) rfl, z_in_11, by decide, by decide, by decide⟩
theorem im_X11_chance : Cond.instanceMethod yX11_chance ∈ z_all := z_mA6 (List.mem_of_getElem? (i := 34) rfl) rfl
theorem se_X11_chance : Cond.selects yX11_chance.cls yX11_chance yX11_chance ∈ z_all := z_mA6 (List.mem_of_getElem? (i := 35) rfl) rfl
theorem wd_X11_book : Cond.code yX11_book cX11_book 2 (some .int) ∈ z_all ∧ Cond.initialized yX11_book.cls ∈ z_all ∧ 2 ≤ 70 ∧ yX11_book.cls ≠ "java/lang/invoke/MethodHandle" ∧ yX11_book.cls ≠ "java/lang/invoke/VarHandle" := ⟨z_mA6 (List.mem_of_getElem? (i := 49) rfl) rfl, z_in_11, by decide, by decide, by decide⟩
theorem im_X11_book : Cond.instanceMethod yX11_book ∈ z_all := z_mA6 (List.mem_of_getElem? (i := 47) rfl) rfl
theorem se_X11_book : Cond.selects yX11_book.cls yX11_book yX11_book ∈ z_all := z_mA6 (List.mem_of_getElem? (i := 48) rfl) rfl
theorem wd_X11_pageByte : Cond.code yX11_pageByte cX11_pageByte 3 (some .int) ∈ z_all ∧ Cond.initialized yX11_pageByte.cls ∈ z_all ∧ 3 ≤ 70 ∧ yX11_pageByte.cls ≠ "java/lang/invoke/MethodHandle" ∧ yX11_pageByte.cls ≠ "java/lang/invoke/VarHandle" := ⟨z_mA6 (List.mem_of_getElem? (i := 84) rfl) rfl, z_in_11, by decide, by decide, by decide⟩
theorem im_X11_pageByte : Cond.instanceMethod yX11_pageByte ∈ z_all := z_mA6 (List.mem_of_getElem? (i := 82) rfl) rfl
theorem se_X11_pageByte : Cond.selects yX11_pageByte.cls yX11_pageByte yX11_pageByte ∈ z_all := z_mA6 (List.mem_of_getElem? (i := 83) rfl) rfl
theorem wd_X11_damage : Cond.code yX11_damage cX11_damage 4 (some .int) ∈ z_all ∧ Cond.initialized yX11_damage.cls ∈ z_all ∧ 4 ≤ 70 ∧ yX11_damage.cls ≠ "java/lang/invoke/MethodHandle" ∧ yX11_damage.cls ≠ "java/lang/invoke/VarHandle" := ⟨z_mA6 (List.mem_of_getElem? (i := 89) rfl) rfl, z_in_11, by decide, by decide, by decide⟩
theorem im_X11_damage : Cond.instanceMethod yX11_damage ∈ z_all := z_mA6 (List.mem_of_getElem? (i := 87) rfl) rfl
theorem se_X11_damage : Cond.selects yX11_damage.cls yX11_damage yX11_damage ∈ z_all := z_mA6 (List.mem_of_getElem? (i := 88) rfl) rfl
theorem wd_X11_tear : Cond.code yX11_tear cX11_tear 3 (some .int) ∈ z_all ∧ Cond.initialized yX11_tear.cls ∈ z_all ∧ 3 ≤ 70 ∧ yX11_tear.cls ≠ "java/lang/invoke/MethodHandle" ∧ yX11_tear.cls ≠ "java/lang/invoke/VarHandle" := ⟨z_mA6 (List.mem_of_getElem? (i := 97) rfl) rfl, z_in_11, by decide, by decide, by decide⟩
theorem im_X11_tear : Cond.instanceMethod yX11_tear ∈ z_all := z_mA6 (List.mem_of_getElem? (i := 95) rfl) rfl
theorem se_X11_tear : Cond.selects yX11_tear.cls yX11_tear yX11_tear ∈ z_all := z_mA6 (List.mem_of_getElem? (i := 96) rfl) rfl
theorem wd_X11_twin : Cond.code yX11_twin cX11_twin 3 (some .int) ∈ z_all ∧ Cond.initialized yX11_twin.cls ∈ z_all ∧ 3 ≤ 70 ∧ yX11_twin.cls ≠ "java/lang/invoke/MethodHandle" ∧ yX11_twin.cls ≠ "java/lang/invoke/VarHandle" := ⟨z_mA6 (List.mem_of_getElem? (i := 102) rfl) rfl, z_in_11, by decide, by decide, by decide⟩
theorem im_X11_twin : Cond.instanceMethod yX11_twin ∈ z_all := z_mA6 (List.mem_of_getElem? (i := 100) rfl) rfl
theorem se_X11_twin : Cond.selects yX11_twin.cls yX11_twin yX11_twin ∈ z_all := z_mA6 (List.mem_of_getElem? (i := 101) rfl) rfl
theorem wd_X11_open : Cond.code yX11_open cX11_open 1 (some .int) ∈ z_all ∧ Cond.initialized yX11_open.cls ∈ z_all ∧ 1 ≤ 70 ∧ yX11_open.cls ≠ "java/lang/invoke/MethodHandle" ∧ yX11_open.cls ≠ "java/lang/invoke/VarHandle" := ⟨z_mA6 (List.mem_of_getElem? (i := 111) rfl) rfl, z_in_11, by decide, by decide, by decide⟩
theorem im_X11_open : Cond.instanceMethod yX11_open ∈ z_all := z_mA6 (List.mem_of_getElem? (i := 109) rfl) rfl
theorem se_X11_open : Cond.selects yX11_open.cls yX11_open yX11_open ∈ z_all := z_mA6 (List.mem_of_getElem? (i := 110) rfl) rfl
theorem wd_X11_opened : Cond.code yX11_opened cX11_opened 5 (some .int) ∈ z_all ∧ Cond.initialized yX11_opened.cls ∈ z_all ∧ 5 ≤ 70 ∧ yX11_opened.cls ≠ "java/lang/invoke/MethodHandle" ∧ yX11_opened.cls ≠ "java/lang/invoke/VarHandle" := ⟨z_mA6 (List.mem_of_getElem? (i := 135) rfl) rfl, z_in_11, by decide, by decide, by decide⟩
theorem im_X11_opened : Cond.instanceMethod yX11_opened ∈ z_all := z_mA6 (List.mem_of_getElem? (i := 133) rfl) rfl
theorem se_X11_opened : Cond.selects yX11_opened.cls yX11_opened yX11_opened ∈ z_all := z_mA6 (List.mem_of_getElem? (i := 134) rfl) rfl
theorem wd_X11_lost : Cond.code yX11_lost cX11_lost 4 (some .int) ∈ z_all ∧ Cond.initialized yX11_lost.cls ∈ z_all ∧ 4 ≤ 70 ∧ yX11_lost.cls ≠ "java/lang/invoke/MethodHandle" ∧ yX11_lost.cls ≠ "java/lang/invoke/VarHandle" := ⟨z_mA6 (List.mem_of_getElem? (i := 147) rfl) rfl, z_in_11, by decide, by decide, by decide⟩
theorem im_X11_lost : Cond.instanceMethod yX11_lost ∈ z_all := z_mA6 (List.mem_of_getElem? (i := 145) rfl) rfl
theorem se_X11_lost : Cond.selects yX11_lost.cls yX11_lost yX11_lost ∈ z_all := z_mA6 (List.mem_of_getElem? (i := 146) rfl) rfl
theorem wd_X12_init : Cond.code yX12_init cX12_init 2 none ∈ z_all ∧ Cond.initialized yX12_init.cls ∈ z_all ∧ 2 ≤ 70 ∧ yX12_init.cls ≠ "java/lang/invoke/MethodHandle" ∧ yX12_init.cls ≠ "java/lang/invoke/VarHandle" := ⟨z_mA6 (List.mem_of_getElem? (i := 156) rfl) rfl, z_in_12, by decide, by decide, by decide⟩
theorem im_X12_init : Cond.instanceMethod yX12_init ∈ z_all := z_mA6 (List.mem_of_getElem? (i := 155) rfl) rfl
theorem wd_X12_in : Cond.code yX12_in cX12_in 6 (some .boolean) ∈ z_all ∧ Cond.initialized yX12_in.cls ∈ z_all ∧ 6 ≤ 70 ∧ yX12_in.cls ≠ "java/lang/invoke/MethodHandle" ∧ yX12_in.cls ≠ "java/lang/invoke/VarHandle" := ⟨z_mA7 (List.mem_of_getElem? (i := 229) rfl) rfl, z_in_12, by decide, by decide, by decide⟩
theorem st_X12_in : Cond.static yX12_in ∈ z_all := z_mA7 (List.mem_of_getElem? (i := 228) rfl) rfl
theorem wd_X12_fails : Cond.code yX12_fails cX12_fails 2 (some .int) ∈ z_all ∧ Cond.initialized yX12_fails.cls ∈ z_all ∧ 2 ≤ 70 ∧ yX12_fails.cls ≠ "java/lang/invoke/MethodHandle" ∧ yX12_fails.cls ≠ "java/lang/invoke/VarHandle" := ⟨z_mA7 (List.mem_of_getElem? (i := 235) rfl) rfl, z_in_12, by decide, by decide, by decide⟩
theorem im_X12_fails : Cond.instanceMethod yX12_fails ∈ z_all := z_mA7 (List.mem_of_getElem? (i := 234) rfl) rfl
theorem se_X12_fails : Cond.selects yX12_fails.cls yX12_fails yX12_fails ∈ z_all := z_msel (q := (yX12_fails, _)) (List.mem_of_getElem? (i := 54) rfl)
theorem wd_X12_well : Cond.code yX12_well cX12_well 1 none ∈ z_all ∧ Cond.initialized yX12_well.cls ∈ z_all ∧ 1 ≤ 70 ∧ yX12_well.cls ≠ "java/lang/invoke/MethodHandle" ∧ yX12_well.cls ≠ "java/lang/invoke/VarHandle" := ⟨z_mA8 (List.mem_of_getElem? (i := 0) rfl) rfl, z_in_12, by decide, by decide, by decide⟩
theorem im_X12_well : Cond.instanceMethod yX12_well ∈ z_all := z_mA7 (List.mem_of_getElem? (i := 239) rfl) rfl
theorem se_X12_well : Cond.selects yX12_well.cls yX12_well yX12_well ∈ z_all := z_msel (q := (yX12_well, _)) (List.mem_of_getElem? (i := 55) rfl)
theorem wd_X12_realOf : Cond.code yX12_realOf cX12_realOf 2 (some .double) ∈ z_all ∧ Cond.initialized yX12_realOf.cls ∈ z_all ∧ 2 ≤ 70 ∧ yX12_realOf.cls ≠ "java/lang/invoke/MethodHandle" ∧ yX12_realOf.cls ≠ "java/lang/invoke/VarHandle" := ⟨z_mA8 (List.mem_of_getElem? (i := 42) rfl) rfl, z_in_12, by decide, by decide, by decide⟩
theorem st_X12_realOf : Cond.static yX12_realOf ∈ z_all := z_mA8 (List.mem_of_getElem? (i := 41) rfl) rfl
theorem wd_X12_isEndless : Cond.code yX12_isEndless cX12_isEndless 2 (some .boolean) ∈ z_all ∧ Cond.initialized yX12_isEndless.cls ∈ z_all ∧ 2 ≤ 70 ∧ yX12_isEndless.cls ≠ "java/lang/invoke/MethodHandle" ∧ yX12_isEndless.cls ≠ "java/lang/invoke/VarHandle" := ⟨z_mA9 (List.mem_of_getElem? (i := 49) rfl) rfl, z_in_12, by decide, by decide, by decide⟩
theorem st_X12_isEndless : Cond.static yX12_isEndless ∈ z_all := z_mA9 (List.mem_of_getElem? (i := 48) rfl) rfl
theorem wd_Jxe99ae_isNaN_b9ae7 : Cond.code yJxe99ae_isNaN_b9ae7 cJxe99ae_isNaN_b9ae7 2 (some .boolean) ∈ z_all ∧ Cond.initialized yJxe99ae_isNaN_b9ae7.cls ∈ z_all ∧ 2 ≤ 70 ∧ yJxe99ae_isNaN_b9ae7.cls ≠ "java/lang/invoke/MethodHandle" ∧ yJxe99ae_isNaN_b9ae7.cls ≠ "java/lang/invoke/VarHandle" := ⟨z_mA8 (List.mem_of_getElem? (i := 30) rfl) rfl, z_in_13, by decide, by decide, by decide⟩
theorem st_Jxe99ae_isNaN_b9ae7 : Cond.static yJxe99ae_isNaN_b9ae7 ∈ z_all := z_mA8 (List.mem_of_getElem? (i := 29) rfl) rfl
theorem wd_Jxe99ae_doubleToLongBits_ccdee : Cond.code yJxe99ae_doubleToLongBits_ccdee cJxe99ae_doubleToLongBits_ccdee 2 (some .long) ∈ z_all ∧ Cond.initialized yJxe99ae_doubleToLongBits_ccdee.cls ∈ z_all ∧ 2 ≤ 70 ∧ yJxe99ae_doubleToLongBits_ccdee.cls ≠ "java/lang/invoke/MethodHandle" ∧ yJxe99ae_doubleToLongBits_ccdee.cls ≠ "java/lang/invoke/VarHandle" := ⟨z_mA8 (List.mem_of_getElem? (i := 27) rfl) rfl, z_in_13, by decide, by decide, by decide⟩
theorem st_Jxe99ae_doubleToLongBits_ccdee : Cond.static yJxe99ae_doubleToLongBits_ccdee ∈ z_all := z_mA8 (List.mem_of_getElem? (i := 26) rfl) rfl
theorem wd_X12_bitsOf : Cond.code yX12_bitsOf cX12_bitsOf 2 (some .long) ∈ z_all ∧ Cond.initialized yX12_bitsOf.cls ∈ z_all ∧ 2 ≤ 70 ∧ yX12_bitsOf.cls ≠ "java/lang/invoke/MethodHandle" ∧ yX12_bitsOf.cls ≠ "java/lang/invoke/VarHandle" := ⟨z_mA8 (List.mem_of_getElem? (i := 23) rfl) rfl, z_in_12, by decide, by decide, by decide⟩
theorem st_X12_bitsOf : Cond.static yX12_bitsOf ∈ z_all := z_mA8 (List.mem_of_getElem? (i := 22) rfl) rfl
theorem wd_X12_cellOfWhole : Cond.code yX12_cellOfWhole cX12_cellOfWhole 3 (some .long) ∈ z_all ∧ Cond.initialized yX12_cellOfWhole.cls ∈ z_all ∧ 3 ≤ 70 ∧ yX12_cellOfWhole.cls ≠ "java/lang/invoke/MethodHandle" ∧ yX12_cellOfWhole.cls ≠ "java/lang/invoke/VarHandle" := ⟨z_mA8 (List.mem_of_getElem? (i := 20) rfl) rfl, z_in_12, by decide, by decide, by decide⟩
theorem st_X12_cellOfWhole : Cond.static yX12_cellOfWhole ∈ z_all := z_mA8 (List.mem_of_getElem? (i := 19) rfl) rfl
theorem wd_X12_isReal : Cond.code yX12_isReal cX12_isReal 1 (some .boolean) ∈ z_all ∧ Cond.initialized yX12_isReal.cls ∈ z_all ∧ 1 ≤ 70 ∧ yX12_isReal.cls ≠ "java/lang/invoke/MethodHandle" ∧ yX12_isReal.cls ≠ "java/lang/invoke/VarHandle" := ⟨z_mA8 (List.mem_of_getElem? (i := 53) rfl) rfl, z_in_12, by decide, by decide, by decide⟩
theorem st_X12_isReal : Cond.static yX12_isReal ∈ z_all := z_mA8 (List.mem_of_getElem? (i := 52) rfl) rfl
theorem wd_X12_cellOfReal : Cond.code yX12_cellOfReal cX12_cellOfReal 3 (some .long) ∈ z_all ∧ Cond.initialized yX12_cellOfReal.cls ∈ z_all ∧ 3 ≤ 70 ∧ yX12_cellOfReal.cls ≠ "java/lang/invoke/MethodHandle" ∧ yX12_cellOfReal.cls ≠ "java/lang/invoke/VarHandle" := ⟨z_mA8 (List.mem_of_getElem? (i := 50) rfl) rfl, z_in_12, by decide, by decide, by decide⟩
theorem st_X12_cellOfReal : Cond.static yX12_cellOfReal ∈ z_all := z_mA8 (List.mem_of_getElem? (i := 49) rfl) rfl
theorem wd_X12_wholeOf : Cond.code yX12_wholeOf cX12_wholeOf 3 (some .long) ∈ z_all ∧ Cond.initialized yX12_wholeOf.cls ∈ z_all ∧ 3 ≤ 70 ∧ yX12_wholeOf.cls ≠ "java/lang/invoke/MethodHandle" ∧ yX12_wholeOf.cls ≠ "java/lang/invoke/VarHandle" := ⟨z_mA8 (List.mem_of_getElem? (i := 61) rfl) rfl, z_in_12, by decide, by decide, by decide⟩
theorem st_X12_wholeOf : Cond.static yX12_wholeOf ∈ z_all := z_mA8 (List.mem_of_getElem? (i := 60) rfl) rfl
theorem wd_X12_realBits : Cond.code yX12_realBits cX12_realBits 3 (some .long) ∈ z_all ∧ Cond.initialized yX12_realBits.cls ∈ z_all ∧ 3 ≤ 70 ∧ yX12_realBits.cls ≠ "java/lang/invoke/MethodHandle" ∧ yX12_realBits.cls ≠ "java/lang/invoke/VarHandle" := ⟨z_mA8 (List.mem_of_getElem? (i := 68) rfl) rfl, z_in_12, by decide, by decide, by decide⟩
theorem st_X12_realBits : Cond.static yX12_realBits ∈ z_all := z_mA8 (List.mem_of_getElem? (i := 67) rfl) rfl
theorem wd_X12_raisedCell : Cond.code yX12_raisedCell cX12_raisedCell 5 (some .long) ∈ z_all ∧ Cond.initialized yX12_raisedCell.cls ∈ z_all ∧ 5 ≤ 70 ∧ yX12_raisedCell.cls ≠ "java/lang/invoke/MethodHandle" ∧ yX12_raisedCell.cls ≠ "java/lang/invoke/VarHandle" := ⟨z_mA8 (List.mem_of_getElem? (i := 75) rfl) rfl, z_in_12, by decide, by decide, by decide⟩
theorem st_X12_raisedCell : Cond.static yX12_raisedCell ∈ z_all := z_mA8 (List.mem_of_getElem? (i := 74) rfl) rfl
theorem wd_X12_noRow : Cond.code yX12_noRow cX12_noRow 2 (some .boolean) ∈ z_all ∧ Cond.initialized yX12_noRow.cls ∈ z_all ∧ 2 ≤ 70 ∧ yX12_noRow.cls ≠ "java/lang/invoke/MethodHandle" ∧ yX12_noRow.cls ≠ "java/lang/invoke/VarHandle" := ⟨z_mA8 (List.mem_of_getElem? (i := 16) rfl) rfl, z_in_12, by decide, by decide, by decide⟩
theorem im_X12_noRow : Cond.instanceMethod yX12_noRow ∈ z_all := z_mA8 (List.mem_of_getElem? (i := 15) rfl) rfl
theorem se_X12_noRow : Cond.selects yX12_noRow.cls yX12_noRow yX12_noRow ∈ z_all := z_msel (q := (yX12_noRow, _)) (List.mem_of_getElem? (i := 58) rfl)
theorem wd_X12_begin : Cond.code yX12_begin cX12_begin 5 none ∈ z_all ∧ Cond.initialized yX12_begin.cls ∈ z_all ∧ 5 ≤ 70 ∧ yX12_begin.cls ≠ "java/lang/invoke/MethodHandle" ∧ yX12_begin.cls ≠ "java/lang/invoke/VarHandle" := ⟨z_mA8 (List.mem_of_getElem? (i := 4) rfl) rfl, z_in_12, by decide, by decide, by decide⟩
theorem im_X12_begin : Cond.instanceMethod yX12_begin ∈ z_all := z_mA8 (List.mem_of_getElem? (i := 3) rfl) rfl
theorem se_X12_begin : Cond.selects yX12_begin.cls yX12_begin yX12_begin ∈ z_all := z_msel (q := (yX12_begin, _)) (List.mem_of_getElem? (i := 56) rfl)
theorem wd_X12_row : Cond.code yX12_row cX12_row 3 (some .int) ∈ z_all ∧ Cond.initialized yX12_row.cls ∈ z_all ∧ 3 ≤ 70 ∧ yX12_row.cls ≠ "java/lang/invoke/MethodHandle" ∧ yX12_row.cls ≠ "java/lang/invoke/VarHandle" := ⟨z_mA7 (List.mem_of_getElem? (i := 225) rfl) rfl, z_in_12, by decide, by decide, by decide⟩
theorem im_X12_row : Cond.instanceMethod yX12_row ∈ z_all := z_mA7 (List.mem_of_getElem? (i := 223) rfl) rfl
theorem se_X12_row : Cond.selects yX12_row.cls yX12_row yX12_row ∈ z_all := z_mA7 (List.mem_of_getElem? (i := 224) rfl) rfl
theorem wd_X12_cellFault : Cond.code yX12_cellFault cX12_cellFault 3 (some .int) ∈ z_all ∧ Cond.initialized yX12_cellFault.cls ∈ z_all ∧ 3 ≤ 70 ∧ yX12_cellFault.cls ≠ "java/lang/invoke/MethodHandle" ∧ yX12_cellFault.cls ≠ "java/lang/invoke/VarHandle" := ⟨z_mA8 (List.mem_of_getElem? (i := 12) rfl) rfl, z_in_12, by decide, by decide, by decide⟩
theorem im_X12_cellFault : Cond.instanceMethod yX12_cellFault ∈ z_all := z_mA8 (List.mem_of_getElem? (i := 11) rfl) rfl
theorem se_X12_cellFault : Cond.selects yX12_cellFault.cls yX12_cellFault yX12_cellFault ∈ z_all := z_msel (q := (yX12_cellFault, _)) (List.mem_of_getElem? (i := 57) rfl)
theorem wd_X12_put : Cond.code yX12_put cX12_put 6 (some .int) ∈ z_all ∧ Cond.initialized yX12_put.cls ∈ z_all ∧ 6 ≤ 70 ∧ yX12_put.cls ≠ "java/lang/invoke/MethodHandle" ∧ yX12_put.cls ≠ "java/lang/invoke/VarHandle" := ⟨z_mA8 (List.mem_of_getElem? (i := 8) rfl) rfl, z_in_12, by decide, by decide, by decide⟩
theorem im_X12_put : Cond.instanceMethod yX12_put ∈ z_all := z_mA8 (List.mem_of_getElem? (i := 6) rfl) rfl
theorem se_X12_put : Cond.selects yX12_put.cls yX12_put yX12_put ∈ z_all := z_mA8 (List.mem_of_getElem? (i := 7) rfl) rfl
theorem wd_X12_putReal : Cond.code yX12_putReal cX12_putReal 6 (some .int) ∈ z_all ∧ Cond.initialized yX12_putReal.cls ∈ z_all ∧ 6 ≤ 70 ∧ yX12_putReal.cls ≠ "java/lang/invoke/MethodHandle" ∧ yX12_putReal.cls ≠ "java/lang/invoke/VarHandle" := ⟨z_mA8 (List.mem_of_getElem? (i := 39) rfl) rfl, z_in_12, by decide, by decide, by decide⟩
theorem im_X12_putReal : Cond.instanceMethod yX12_putReal ∈ z_all := z_mA8 (List.mem_of_getElem? (i := 37) rfl) rfl
theorem se_X12_putReal : Cond.selects yX12_putReal.cls yX12_putReal yX12_putReal ∈ z_all := z_mA8 (List.mem_of_getElem? (i := 38) rfl) rfl
theorem wd_X12_get : Cond.code yX12_get cX12_get 4 (some .long) ∈ z_all ∧ Cond.initialized yX12_get.cls ∈ z_all ∧ 4 ≤ 70 ∧ yX12_get.cls ≠ "java/lang/invoke/MethodHandle" ∧ yX12_get.cls ≠ "java/lang/invoke/VarHandle" := ⟨z_mA8 (List.mem_of_getElem? (i := 58) rfl) rfl, z_in_12, by decide, by decide, by decide⟩
theorem im_X12_get : Cond.instanceMethod yX12_get ∈ z_all := z_mA8 (List.mem_of_getElem? (i := 56) rfl) rfl
theorem se_X12_get : Cond.selects yX12_get.cls yX12_get yX12_get ∈ z_all := z_mA8 (List.mem_of_getElem? (i := 57) rfl) rfl
theorem wd_X12_getReal : Cond.code yX12_getReal cX12_getReal 4 (some .long) ∈ z_all ∧ Cond.initialized yX12_getReal.cls ∈ z_all ∧ 4 ≤ 70 ∧ yX12_getReal.cls ≠ "java/lang/invoke/MethodHandle" ∧ yX12_getReal.cls ≠ "java/lang/invoke/VarHandle" := ⟨z_mA8 (List.mem_of_getElem? (i := 65) rfl) rfl, z_in_12, by decide, by decide, by decide⟩
theorem im_X12_getReal : Cond.instanceMethod yX12_getReal ∈ z_all := z_mA8 (List.mem_of_getElem? (i := 63) rfl) rfl
theorem se_X12_getReal : Cond.selects yX12_getReal.cls yX12_getReal yX12_getReal ∈ z_all := z_mA8 (List.mem_of_getElem? (i := 64) rfl) rfl
theorem wd_X12_raise : Cond.code yX12_raise cX12_raise 9 (some .long) ∈ z_all ∧ Cond.initialized yX12_raise.cls ∈ z_all ∧ 9 ≤ 70 ∧ yX12_raise.cls ≠ "java/lang/invoke/MethodHandle" ∧ yX12_raise.cls ≠ "java/lang/invoke/VarHandle" := ⟨z_mA8 (List.mem_of_getElem? (i := 72) rfl) rfl, z_in_12, by decide, by decide, by decide⟩
theorem im_X12_raise : Cond.instanceMethod yX12_raise ∈ z_all := z_mA8 (List.mem_of_getElem? (i := 70) rfl) rfl
theorem se_X12_raise : Cond.selects yX12_raise.cls yX12_raise yX12_raise ∈ z_all := z_mA8 (List.mem_of_getElem? (i := 71) rfl) rfl
theorem wd_X12_join : Cond.code yX12_join cX12_join 4 (some .int) ∈ z_all ∧ Cond.initialized yX12_join.cls ∈ z_all ∧ 4 ≤ 70 ∧ yX12_join.cls ≠ "java/lang/invoke/MethodHandle" ∧ yX12_join.cls ≠ "java/lang/invoke/VarHandle" := ⟨z_mA8 (List.mem_of_getElem? (i := 80) rfl) rfl, z_in_12, by decide, by decide, by decide⟩
theorem im_X12_join : Cond.instanceMethod yX12_join ∈ z_all := z_mA8 (List.mem_of_getElem? (i := 78) rfl) rfl
theorem se_X12_join : Cond.selects yX12_join.cls yX12_join yX12_join ∈ z_all := z_mA8 (List.mem_of_getElem? (i := 79) rfl) rfl
theorem wd_X12_isSpan : Cond.code yX12_isSpan cX12_isSpan 3 (some .boolean) ∈ z_all ∧ Cond.initialized yX12_isSpan.cls ∈ z_all ∧ 3 ≤ 70 ∧ yX12_isSpan.cls ≠ "java/lang/invoke/MethodHandle" ∧ yX12_isSpan.cls ≠ "java/lang/invoke/VarHandle" := ⟨z_mA8 (List.mem_of_getElem? (i := 87) rfl) rfl, z_in_12, by decide, by decide, by decide⟩
theorem st_X12_isSpan : Cond.static yX12_isSpan ∈ z_all := z_mA8 (List.mem_of_getElem? (i := 86) rfl) rfl
theorem wd_X12_shift : Cond.code yX12_shift cX12_shift 7 (some .int) ∈ z_all ∧ Cond.initialized yX12_shift.cls ∈ z_all ∧ 7 ≤ 70 ∧ yX12_shift.cls ≠ "java/lang/invoke/MethodHandle" ∧ yX12_shift.cls ≠ "java/lang/invoke/VarHandle" := ⟨z_mA8 (List.mem_of_getElem? (i := 84) rfl) rfl, z_in_12, by decide, by decide, by decide⟩
theorem im_X12_shift : Cond.instanceMethod yX12_shift ∈ z_all := z_mA8 (List.mem_of_getElem? (i := 82) rfl) rfl
theorem se_X12_shift : Cond.selects yX12_shift.cls yX12_shift yX12_shift ∈ z_all := z_mA8 (List.mem_of_getElem? (i := 83) rfl) rfl
theorem wd_X12_like : Cond.code yX12_like cX12_like 5 (some .int) ∈ z_all ∧ Cond.initialized yX12_like.cls ∈ z_all ∧ 5 ≤ 70 ∧ yX12_like.cls ≠ "java/lang/invoke/MethodHandle" ∧ yX12_like.cls ≠ "java/lang/invoke/VarHandle" := ⟨z_mA8 (List.mem_of_getElem? (i := 91) rfl) rfl, z_in_12, by decide, by decide, by decide⟩
theorem im_X12_like : Cond.instanceMethod yX12_like ∈ z_all := z_mA8 (List.mem_of_getElem? (i := 89) rfl) rfl
theorem se_X12_like : Cond.selects yX12_like.cls yX12_like yX12_like ∈ z_all := z_mA8 (List.mem_of_getElem? (i := 90) rfl) rfl
theorem wd_X12_count : Cond.code yX12_count cX12_count 5 (some .int) ∈ z_all ∧ Cond.initialized yX12_count.cls ∈ z_all ∧ 5 ≤ 70 ∧ yX12_count.cls ≠ "java/lang/invoke/MethodHandle" ∧ yX12_count.cls ≠ "java/lang/invoke/VarHandle" := ⟨z_mA8 (List.mem_of_getElem? (i := 95) rfl) rfl, z_in_12, by decide, by decide, by decide⟩
theorem im_X12_count : Cond.instanceMethod yX12_count ∈ z_all := z_mA8 (List.mem_of_getElem? (i := 93) rfl) rfl
theorem se_X12_count : Cond.selects yX12_count.cls yX12_count yX12_count ∈ z_all := z_mA8 (List.mem_of_getElem? (i := 94) rfl) rfl
theorem wd_X12_find : Cond.code yX12_find cX12_find 6 (some .int) ∈ z_all ∧ Cond.initialized yX12_find.cls ∈ z_all ∧ 6 ≤ 70 ∧ yX12_find.cls ≠ "java/lang/invoke/MethodHandle" ∧ yX12_find.cls ≠ "java/lang/invoke/VarHandle" := ⟨z_mA8 (List.mem_of_getElem? (i := 99) rfl) rfl, z_in_12, by decide, by decide, by decide⟩
theorem im_X12_find : Cond.instanceMethod yX12_find ∈ z_all := z_mA8 (List.mem_of_getElem? (i := 97) rfl) rfl
theorem se_X12_find : Cond.selects yX12_find.cls yX12_find yX12_find ∈ z_all := z_mA8 (List.mem_of_getElem? (i := 98) rfl) rfl
theorem wd_X12_mean : Cond.code yX12_mean cX12_mean 5 (some .long) ∈ z_all ∧ Cond.initialized yX12_mean.cls ∈ z_all ∧ 5 ≤ 70 ∧ yX12_mean.cls ≠ "java/lang/invoke/MethodHandle" ∧ yX12_mean.cls ≠ "java/lang/invoke/VarHandle" := ⟨z_mA8 (List.mem_of_getElem? (i := 103) rfl) rfl, z_in_12, by decide, by decide, by decide⟩
theorem im_X12_mean : Cond.instanceMethod yX12_mean ∈ z_all := z_mA8 (List.mem_of_getElem? (i := 101) rfl) rfl
theorem se_X12_mean : Cond.selects yX12_mean.cls yX12_mean yX12_mean ∈ z_all := z_mA8 (List.mem_of_getElem? (i := 102) rfl) rfl
theorem wd_X12_isBed : Cond.code yX12_isBed cX12_isBed 2 (some .boolean) ∈ z_all ∧ Cond.initialized yX12_isBed.cls ∈ z_all ∧ 2 ≤ 70 ∧ yX12_isBed.cls ≠ "java/lang/invoke/MethodHandle" ∧ yX12_isBed.cls ≠ "java/lang/invoke/VarHandle" := ⟨z_mA8 (List.mem_of_getElem? (i := 116) rfl) rfl, z_in_12, by decide, by decide, by decide⟩
theorem im_X12_isBed : Cond.instanceMethod yX12_isBed ∈ z_all := z_mA8 (List.mem_of_getElem? (i := 115) rfl) rfl
theorem se_X12_isBed : Cond.selects yX12_isBed.cls yX12_isBed yX12_isBed ∈ z_all := z_msel (q := (yX12_isBed, _)) (List.mem_of_getElem? (i := 59) rfl)
theorem wd_X12_bed : Cond.code yX12_bed cX12_bed 6 (some .int) ∈ z_all ∧ Cond.initialized yX12_bed.cls ∈ z_all ∧ 6 ≤ 70 ∧ yX12_bed.cls ≠ "java/lang/invoke/MethodHandle" ∧ yX12_bed.cls ≠ "java/lang/invoke/VarHandle" := ⟨z_mA8 (List.mem_of_getElem? (i := 108) rfl) rfl, z_in_12, by decide, by decide, by decide⟩
theorem im_X12_bed : Cond.instanceMethod yX12_bed ∈ z_all := z_mA8 (List.mem_of_getElem? (i := 106) rfl) rfl
theorem se_X12_bed : Cond.selects yX12_bed.cls yX12_bed yX12_bed ∈ z_all := z_mA8 (List.mem_of_getElem? (i := 107) rfl) rfl
theorem wd_X12_lay : Cond.code yX12_lay cX12_lay 4 (some .int) ∈ z_all ∧ Cond.initialized yX12_lay.cls ∈ z_all ∧ 4 ≤ 70 ∧ yX12_lay.cls ≠ "java/lang/invoke/MethodHandle" ∧ yX12_lay.cls ≠ "java/lang/invoke/VarHandle" := ⟨z_mA8 (List.mem_of_getElem? (i := 112) rfl) rfl, z_in_12, by decide, by decide, by decide⟩
theorem im_X12_lay : Cond.instanceMethod yX12_lay ∈ z_all := z_mA8 (List.mem_of_getElem? (i := 110) rfl) rfl
theorem se_X12_lay : Cond.selects yX12_lay.cls yX12_lay yX12_lay ∈ z_all := z_mA8 (List.mem_of_getElem? (i := 111) rfl) rfl
theorem wd_X12_spotAt : Cond.code yX12_spotAt cX12_spotAt 5 (some .int) ∈ z_all ∧ Cond.initialized yX12_spotAt.cls ∈ z_all ∧ 5 ≤ 70 ∧ yX12_spotAt.cls ≠ "java/lang/invoke/MethodHandle" ∧ yX12_spotAt.cls ≠ "java/lang/invoke/VarHandle" := ⟨z_mA8 (List.mem_of_getElem? (i := 124) rfl) rfl, z_in_12, by decide, by decide, by decide⟩
theorem im_X12_spotAt : Cond.instanceMethod yX12_spotAt ∈ z_all := z_mA8 (List.mem_of_getElem? (i := 123) rfl) rfl
theorem se_X12_spotAt : Cond.selects yX12_spotAt.cls yX12_spotAt yX12_spotAt ∈ z_all := z_msel (q := (yX12_spotAt, _)) (List.mem_of_getElem? (i := 60) rfl)
theorem wd_X12_spot : Cond.code yX12_spot cX12_spot 5 (some .long) ∈ z_all ∧ Cond.initialized yX12_spot.cls ∈ z_all ∧ 5 ≤ 70 ∧ yX12_spot.cls ≠ "java/lang/invoke/MethodHandle" ∧ yX12_spot.cls ≠ "java/lang/invoke/VarHandle" := ⟨z_mA8 (List.mem_of_getElem? (i := 120) rfl) rfl, z_in_12, by decide, by decide, by decide⟩
theorem im_X12_spot : Cond.instanceMethod yX12_spot ∈ z_all := z_mA8 (List.mem_of_getElem? (i := 118) rfl) rfl
theorem se_X12_spot : Cond.selects yX12_spot.cls yX12_spot yX12_spot ∈ z_all := z_mA8 (List.mem_of_getElem? (i := 119) rfl) rfl
theorem wd_X12_setSpot : Cond.code yX12_setSpot cX12_setSpot 7 (some .int) ∈ z_all ∧ Cond.initialized yX12_setSpot.cls ∈ z_all ∧ 7 ≤ 70 ∧ yX12_setSpot.cls ≠ "java/lang/invoke/MethodHandle" ∧ yX12_setSpot.cls ≠ "java/lang/invoke/VarHandle" := ⟨z_mA8 (List.mem_of_getElem? (i := 128) rfl) rfl, z_in_12, by decide, by decide, by decide⟩
theorem im_X12_setSpot : Cond.instanceMethod yX12_setSpot ∈ z_all := z_mA8 (List.mem_of_getElem? (i := 126) rfl) rfl
theorem se_X12_setSpot : Cond.selects yX12_setSpot.cls yX12_setSpot yX12_setSpot ∈ z_all := z_mA8 (List.mem_of_getElem? (i := 127) rfl) rfl
theorem wd_X12_bare : Cond.code yX12_bare cX12_bare 6 (some .int) ∈ z_all ∧ Cond.initialized yX12_bare.cls ∈ z_all ∧ 6 ≤ 70 ∧ yX12_bare.cls ≠ "java/lang/invoke/MethodHandle" ∧ yX12_bare.cls ≠ "java/lang/invoke/VarHandle" := ⟨z_mA8 (List.mem_of_getElem? (i := 132) rfl) rfl, z_in_12, by decide, by decide, by decide⟩
theorem im_X12_bare : Cond.instanceMethod yX12_bare ∈ z_all := z_mA8 (List.mem_of_getElem? (i := 130) rfl) rfl
theorem se_X12_bare : Cond.selects yX12_bare.cls yX12_bare yX12_bare ∈ z_all := z_mA8 (List.mem_of_getElem? (i := 131) rfl) rfl
theorem wd_X12_noThing : Cond.code yX12_noThing cX12_noThing 2 (some .boolean) ∈ z_all ∧ Cond.initialized yX12_noThing.cls ∈ z_all ∧ 2 ≤ 70 ∧ yX12_noThing.cls ≠ "java/lang/invoke/MethodHandle" ∧ yX12_noThing.cls ≠ "java/lang/invoke/VarHandle" := ⟨z_mA8 (List.mem_of_getElem? (i := 146) rfl) rfl, z_in_12, by decide, by decide, by decide⟩
theorem im_X12_noThing : Cond.instanceMethod yX12_noThing ∈ z_all := z_mA8 (List.mem_of_getElem? (i := 145) rfl) rfl
theorem se_X12_noThing : Cond.selects yX12_noThing.cls yX12_noThing yX12_noThing ∈ z_all := z_msel (q := (yX12_noThing, _)) (List.mem_of_getElem? (i := 61) rfl)
theorem wd_X12_thing : Cond.code yX12_thing cX12_thing 3 (some .int) ∈ z_all ∧ Cond.initialized yX12_thing.cls ∈ z_all ∧ 3 ≤ 70 ∧ yX12_thing.cls ≠ "java/lang/invoke/MethodHandle" ∧ yX12_thing.cls ≠ "java/lang/invoke/VarHandle" := ⟨z_mA8 (List.mem_of_getElem? (i := 136) rfl) rfl, z_in_12, by decide, by decide, by decide⟩
theorem im_X12_thing : Cond.instanceMethod yX12_thing ∈ z_all := z_mA8 (List.mem_of_getElem? (i := 134) rfl) rfl
theorem se_X12_thing : Cond.selects yX12_thing.cls yX12_thing yX12_thing ∈ z_all := z_mA8 (List.mem_of_getElem? (i := 135) rfl) rfl
theorem wd_X12_signOf : Cond.code yX12_signOf cX12_signOf 1 (some .int) ∈ z_all ∧ Cond.initialized yX12_signOf.cls ∈ z_all ∧ 1 ≤ 70 ∧ yX12_signOf.cls ≠ "java/lang/invoke/MethodHandle" ∧ yX12_signOf.cls ≠ "java/lang/invoke/VarHandle" := ⟨z_mA8 (List.mem_of_getElem? (i := 164) rfl) rfl, z_in_12, by decide, by decide, by decide⟩
theorem st_X12_signOf : Cond.static yX12_signOf ∈ z_all := z_mA8 (List.mem_of_getElem? (i := 163) rfl) rfl
theorem wd_X12_weightOf : Cond.code yX12_weightOf cX12_weightOf 2 (some .int) ∈ z_all ∧ Cond.initialized yX12_weightOf.cls ∈ z_all ∧ 2 ≤ 70 ∧ yX12_weightOf.cls ≠ "java/lang/invoke/MethodHandle" ∧ yX12_weightOf.cls ≠ "java/lang/invoke/VarHandle" := ⟨z_mA8 (List.mem_of_getElem? (i := 168) rfl) rfl, z_in_12, by decide, by decide, by decide⟩
theorem im_X12_weightOf : Cond.instanceMethod yX12_weightOf ∈ z_all := z_mA8 (List.mem_of_getElem? (i := 167) rfl) rfl
theorem se_X12_weightOf : Cond.selects yX12_weightOf.cls yX12_weightOf yX12_weightOf ∈ z_all := z_msel (q := (yX12_weightOf, _)) (List.mem_of_getElem? (i := 65) rfl)
theorem wd_X12_fits : Cond.code yX12_fits cX12_fits 2 (some .boolean) ∈ z_all ∧ Cond.initialized yX12_fits.cls ∈ z_all ∧ 2 ≤ 70 ∧ yX12_fits.cls ≠ "java/lang/invoke/MethodHandle" ∧ yX12_fits.cls ≠ "java/lang/invoke/VarHandle" := ⟨z_mA8 (List.mem_of_getElem? (i := 157) rfl) rfl, z_in_12, by decide, by decide, by decide⟩
theorem st_X12_fits : Cond.static yX12_fits ∈ z_all := z_mA8 (List.mem_of_getElem? (i := 156) rfl) rfl
theorem wd_X12_has : Cond.code yX12_has cX12_has 3 (some .boolean) ∈ z_all ∧ Cond.initialized yX12_has.cls ∈ z_all ∧ 3 ≤ 70 ∧ yX12_has.cls ≠ "java/lang/invoke/MethodHandle" ∧ yX12_has.cls ≠ "java/lang/invoke/VarHandle" := ⟨z_mA8 (List.mem_of_getElem? (i := 154) rfl) rfl, z_in_12, by decide, by decide, by decide⟩
theorem im_X12_has : Cond.instanceMethod yX12_has ∈ z_all := z_mA8 (List.mem_of_getElem? (i := 153) rfl) rfl
theorem se_X12_has : Cond.selects yX12_has.cls yX12_has yX12_has ∈ z_all := z_msel (q := (yX12_has, _)) (List.mem_of_getElem? (i := 63) rfl)
theorem wd_X12_tells : Cond.code yX12_tells cX12_tells 6 (some .int) ∈ z_all ∧ Cond.initialized yX12_tells.cls ∈ z_all ∧ 6 ≤ 70 ∧ yX12_tells.cls ≠ "java/lang/invoke/MethodHandle" ∧ yX12_tells.cls ≠ "java/lang/invoke/VarHandle" := ⟨z_mA8 (List.mem_of_getElem? (i := 161) rfl) rfl, z_in_12, by decide, by decide, by decide⟩
theorem im_X12_tells : Cond.instanceMethod yX12_tells ∈ z_all := z_mA8 (List.mem_of_getElem? (i := 160) rfl) rfl
theorem se_X12_tells : Cond.selects yX12_tells.cls yX12_tells yX12_tells ∈ z_all := z_msel (q := (yX12_tells, _)) (List.mem_of_getElem? (i := 64) rfl)
theorem wd_X12_asks : Cond.code yX12_asks cX12_asks 3 (some .int) ∈ z_all ∧ Cond.initialized yX12_asks.cls ∈ z_all ∧ 3 ≤ 70 ∧ yX12_asks.cls ≠ "java/lang/invoke/MethodHandle" ∧ yX12_asks.cls ≠ "java/lang/invoke/VarHandle" := ⟨z_mA8 (List.mem_of_getElem? (i := 150) rfl) rfl, z_in_12, by decide, by decide, by decide⟩
theorem im_X12_asks : Cond.instanceMethod yX12_asks ∈ z_all := z_mA8 (List.mem_of_getElem? (i := 149) rfl) rfl
theorem se_X12_asks : Cond.selects yX12_asks.cls yX12_asks yX12_asks ∈ z_all := z_msel (q := (yX12_asks, _)) (List.mem_of_getElem? (i := 62) rfl)
theorem wd_X12_says : Cond.code yX12_says cX12_says 3 (some .int) ∈ z_all ∧ Cond.initialized yX12_says.cls ∈ z_all ∧ 3 ≤ 70 ∧ yX12_says.cls ≠ "java/lang/invoke/MethodHandle" ∧ yX12_says.cls ≠ "java/lang/invoke/VarHandle" := ⟨z_mA8 (List.mem_of_getElem? (i := 142) rfl) rfl, z_in_12, by decide, by decide, by decide⟩
theorem im_X12_says : Cond.instanceMethod yX12_says ∈ z_all := z_mA8 (List.mem_of_getElem? (i := 140) rfl) rfl
theorem se_X12_says : Cond.selects yX12_says.cls yX12_says yX12_says ∈ z_all := z_mA8 (List.mem_of_getElem? (i := 141) rfl) rfl
theorem wd_X12_noRack : Cond.code yX12_noRack cX12_noRack 2 (some .boolean) ∈ z_all ∧ Cond.initialized yX12_noRack.cls ∈ z_all ∧ 2 ≤ 70 ∧ yX12_noRack.cls ≠ "java/lang/invoke/MethodHandle" ∧ yX12_noRack.cls ≠ "java/lang/invoke/VarHandle" := ⟨z_mA8 (List.mem_of_getElem? (i := 181) rfl) rfl, z_in_12, by decide, by decide, by decide⟩
theorem im_X12_noRack : Cond.instanceMethod yX12_noRack ∈ z_all := z_mA8 (List.mem_of_getElem? (i := 180) rfl) rfl
theorem se_X12_noRack : Cond.selects yX12_noRack.cls yX12_noRack yX12_noRack ∈ z_all := z_msel (q := (yX12_noRack, _)) (List.mem_of_getElem? (i := 66) rfl)
theorem wd_X12_rack : Cond.code yX12_rack cX12_rack 4 (some .int) ∈ z_all ∧ Cond.initialized yX12_rack.cls ∈ z_all ∧ 4 ≤ 70 ∧ yX12_rack.cls ≠ "java/lang/invoke/MethodHandle" ∧ yX12_rack.cls ≠ "java/lang/invoke/VarHandle" := ⟨z_mA8 (List.mem_of_getElem? (i := 172) rfl) rfl, z_in_12, by decide, by decide, by decide⟩
theorem im_X12_rack : Cond.instanceMethod yX12_rack ∈ z_all := z_mA8 (List.mem_of_getElem? (i := 170) rfl) rfl
theorem se_X12_rack : Cond.selects yX12_rack.cls yX12_rack yX12_rack ∈ z_all := z_mA8 (List.mem_of_getElem? (i := 171) rfl) rfl
theorem wd_X12_hang : Cond.code yX12_hang cX12_hang 4 (some .int) ∈ z_all ∧ Cond.initialized yX12_hang.cls ∈ z_all ∧ 4 ≤ 70 ∧ yX12_hang.cls ≠ "java/lang/invoke/MethodHandle" ∧ yX12_hang.cls ≠ "java/lang/invoke/VarHandle" := ⟨z_mA8 (List.mem_of_getElem? (i := 177) rfl) rfl, z_in_12, by decide, by decide, by decide⟩
theorem im_X12_hang : Cond.instanceMethod yX12_hang ∈ z_all := z_mA8 (List.mem_of_getElem? (i := 175) rfl) rfl
theorem se_X12_hang : Cond.selects yX12_hang.cls yX12_hang yX12_hang ∈ z_all := z_mA8 (List.mem_of_getElem? (i := 176) rfl) rfl
theorem wd_X12_down : Cond.code yX12_down cX12_down 5 (some .int) ∈ z_all ∧ Cond.initialized yX12_down.cls ∈ z_all ∧ 5 ≤ 70 ∧ yX12_down.cls ≠ "java/lang/invoke/MethodHandle" ∧ yX12_down.cls ≠ "java/lang/invoke/VarHandle" := ⟨z_mA8 (List.mem_of_getElem? (i := 185) rfl) rfl, z_in_12, by decide, by decide, by decide⟩
theorem im_X12_down : Cond.instanceMethod yX12_down ∈ z_all := z_mA8 (List.mem_of_getElem? (i := 183) rfl) rfl
theorem se_X12_down : Cond.selects yX12_down.cls yX12_down yX12_down ∈ z_all := z_mA8 (List.mem_of_getElem? (i := 184) rfl) rfl
theorem wd_X12_hung : Cond.code yX12_hung cX12_hung 3 (some .int) ∈ z_all ∧ Cond.initialized yX12_hung.cls ∈ z_all ∧ 3 ≤ 70 ∧ yX12_hung.cls ≠ "java/lang/invoke/MethodHandle" ∧ yX12_hung.cls ≠ "java/lang/invoke/VarHandle" := ⟨z_mA8 (List.mem_of_getElem? (i := 189) rfl) rfl, z_in_12, by decide, by decide, by decide⟩
theorem im_X12_hung : Cond.instanceMethod yX12_hung ∈ z_all := z_mA8 (List.mem_of_getElem? (i := 187) rfl) rfl
theorem se_X12_hung : Cond.selects yX12_hung.cls yX12_hung yX12_hung ∈ z_all := z_mA8 (List.mem_of_getElem? (i := 188) rfl) rfl
theorem wd_X12_asked : Cond.code yX12_asked cX12_asked 4 (some .int) ∈ z_all ∧ Cond.initialized yX12_asked.cls ∈ z_all ∧ 4 ≤ 70 ∧ yX12_asked.cls ≠ "java/lang/invoke/MethodHandle" ∧ yX12_asked.cls ≠ "java/lang/invoke/VarHandle" := ⟨z_mA8 (List.mem_of_getElem? (i := 193) rfl) rfl, z_in_12, by decide, by decide, by decide⟩
theorem im_X12_asked : Cond.instanceMethod yX12_asked ∈ z_all := z_mA8 (List.mem_of_getElem? (i := 191) rfl) rfl
theorem se_X12_asked : Cond.selects yX12_asked.cls yX12_asked yX12_asked ∈ z_all := z_mA8 (List.mem_of_getElem? (i := 192) rfl) rfl
theorem wd_X12_haul : Cond.code yX12_haul cX12_haul 8 (some .int) ∈ z_all ∧ Cond.initialized yX12_haul.cls ∈ z_all ∧ 8 ≤ 70 ∧ yX12_haul.cls ≠ "java/lang/invoke/MethodHandle" ∧ yX12_haul.cls ≠ "java/lang/invoke/VarHandle" := ⟨z_mA8 (List.mem_of_getElem? (i := 197) rfl) rfl, z_in_12, by decide, by decide, by decide⟩
theorem im_X12_haul : Cond.instanceMethod yX12_haul ∈ z_all := z_mA8 (List.mem_of_getElem? (i := 195) rfl) rfl
theorem se_X12_haul : Cond.selects yX12_haul.cls yX12_haul yX12_haul ∈ z_all := z_mA8 (List.mem_of_getElem? (i := 196) rfl) rfl
theorem wd_X12_box : Cond.code yX12_box cX12_box 5 (some .int) ∈ z_all ∧ Cond.initialized yX12_box.cls ∈ z_all ∧ 5 ≤ 70 ∧ yX12_box.cls ≠ "java/lang/invoke/MethodHandle" ∧ yX12_box.cls ≠ "java/lang/invoke/VarHandle" := ⟨z_mA8 (List.mem_of_getElem? (i := 201) rfl) rfl, z_in_12, by decide, by decide, by decide⟩
theorem im_X12_box : Cond.instanceMethod yX12_box ∈ z_all := z_mA8 (List.mem_of_getElem? (i := 199) rfl) rfl
theorem se_X12_box : Cond.selects yX12_box.cls yX12_box yX12_box ∈ z_all := z_mA8 (List.mem_of_getElem? (i := 200) rfl) rfl
theorem wd_X12_isOf : Cond.code yX12_isOf cX12_isOf 4 (some .boolean) ∈ z_all ∧ Cond.initialized yX12_isOf.cls ∈ z_all ∧ 4 ≤ 70 ∧ yX12_isOf.cls ≠ "java/lang/invoke/MethodHandle" ∧ yX12_isOf.cls ≠ "java/lang/invoke/VarHandle" := ⟨z_mA8 (List.mem_of_getElem? (i := 211) rfl) rfl, z_in_12, by decide, by decide, by decide⟩
theorem im_X12_isOf : Cond.instanceMethod yX12_isOf ∈ z_all := z_mA8 (List.mem_of_getElem? (i := 210) rfl) rfl
theorem se_X12_isOf : Cond.selects yX12_isOf.cls yX12_isOf yX12_isOf ∈ z_all := z_msel (q := (yX12_isOf, _)) (List.mem_of_getElem? (i := 67) rfl)
theorem wd_X12_isA : Cond.code yX12_isA cX12_isA 3 (some .int) ∈ z_all ∧ Cond.initialized yX12_isA.cls ∈ z_all ∧ 3 ≤ 70 ∧ yX12_isA.cls ≠ "java/lang/invoke/MethodHandle" ∧ yX12_isA.cls ≠ "java/lang/invoke/VarHandle" := ⟨z_mA8 (List.mem_of_getElem? (i := 206) rfl) rfl, z_in_12, by decide, by decide, by decide⟩
theorem im_X12_isA : Cond.instanceMethod yX12_isA ∈ z_all := z_mA8 (List.mem_of_getElem? (i := 204) rfl) rfl
theorem se_X12_isA : Cond.selects yX12_isA.cls yX12_isA yX12_isA ∈ z_all := z_mA8 (List.mem_of_getElem? (i := 205) rfl) rfl
theorem wd_X12_sizeIn : Cond.code yX12_sizeIn cX12_sizeIn 3 (some .int) ∈ z_all ∧ Cond.initialized yX12_sizeIn.cls ∈ z_all ∧ 3 ≤ 70 ∧ yX12_sizeIn.cls ≠ "java/lang/invoke/MethodHandle" ∧ yX12_sizeIn.cls ≠ "java/lang/invoke/VarHandle" := ⟨z_mA8 (List.mem_of_getElem? (i := 219) rfl) rfl, z_in_12, by decide, by decide, by decide⟩
theorem im_X12_sizeIn : Cond.instanceMethod yX12_sizeIn ∈ z_all := z_mA8 (List.mem_of_getElem? (i := 218) rfl) rfl
theorem se_X12_sizeIn : Cond.selects yX12_sizeIn.cls yX12_sizeIn yX12_sizeIn ∈ z_all := z_msel (q := (yX12_sizeIn, _)) (List.mem_of_getElem? (i := 68) rfl)
theorem wd_X12_taken : Cond.code yX12_taken cX12_taken 3 (some .int) ∈ z_all ∧ Cond.initialized yX12_taken.cls ∈ z_all ∧ 3 ≤ 70 ∧ yX12_taken.cls ≠ "java/lang/invoke/MethodHandle" ∧ yX12_taken.cls ≠ "java/lang/invoke/VarHandle" := ⟨z_mA8 (List.mem_of_getElem? (i := 215) rfl) rfl, z_in_12, by decide, by decide, by decide⟩
theorem im_X12_taken : Cond.instanceMethod yX12_taken ∈ z_all := z_mA8 (List.mem_of_getElem? (i := 213) rfl) rfl
theorem se_X12_taken : Cond.selects yX12_taken.cls yX12_taken yX12_taken ∈ z_all := z_mA8 (List.mem_of_getElem? (i := 214) rfl) rfl
theorem wd_X12_used : Cond.code yX12_used cX12_used 2 (some .int) ∈ z_all ∧ Cond.initialized yX12_used.cls ∈ z_all ∧ 2 ≤ 70 ∧ yX12_used.cls ≠ "java/lang/invoke/MethodHandle" ∧ yX12_used.cls ≠ "java/lang/invoke/VarHandle" := ⟨z_mA8 (List.mem_of_getElem? (i := 223) rfl) rfl, z_in_12, by decide, by decide, by decide⟩
theorem im_X12_used : Cond.instanceMethod yX12_used ∈ z_all := z_mA8 (List.mem_of_getElem? (i := 221) rfl) rfl
theorem se_X12_used : Cond.selects yX12_used.cls yX12_used yX12_used ∈ z_all := z_mA8 (List.mem_of_getElem? (i := 222) rfl) rfl
theorem wd_X12_noCard : Cond.code yX12_noCard cX12_noCard 2 (some .boolean) ∈ z_all ∧ Cond.initialized yX12_noCard.cls ∈ z_all ∧ 2 ≤ 70 ∧ yX12_noCard.cls ≠ "java/lang/invoke/MethodHandle" ∧ yX12_noCard.cls ≠ "java/lang/invoke/VarHandle" := ⟨z_mA8 (List.mem_of_getElem? (i := 239) rfl) rfl, z_in_12, by decide, by decide, by decide⟩
theorem im_X12_noCard : Cond.instanceMethod yX12_noCard ∈ z_all := z_mA8 (List.mem_of_getElem? (i := 238) rfl) rfl
theorem se_X12_noCard : Cond.selects yX12_noCard.cls yX12_noCard yX12_noCard ∈ z_all := z_msel (q := (yX12_noCard, _)) (List.mem_of_getElem? (i := 70) rfl)
theorem wd_X12_card : Cond.code yX12_card cX12_card 2 (some .int) ∈ z_all ∧ Cond.initialized yX12_card.cls ∈ z_all ∧ 2 ≤ 70 ∧ yX12_card.cls ≠ "java/lang/invoke/MethodHandle" ∧ yX12_card.cls ≠ "java/lang/invoke/VarHandle" := ⟨z_mA8 (List.mem_of_getElem? (i := 227) rfl) rfl, z_in_12, by decide, by decide, by decide⟩
theorem im_X12_card : Cond.instanceMethod yX12_card ∈ z_all := z_mA8 (List.mem_of_getElem? (i := 225) rfl) rfl
theorem se_X12_card : Cond.selects yX12_card.cls yX12_card yX12_card ∈ z_all := z_mA8 (List.mem_of_getElem? (i := 226) rfl) rfl
theorem wd_X12_fieldFault : Cond.code yX12_fieldFault cX12_fieldFault 3 (some .int) ∈ z_all ∧ Cond.initialized yX12_fieldFault.cls ∈ z_all ∧ 3 ≤ 70 ∧ yX12_fieldFault.cls ≠ "java/lang/invoke/MethodHandle" ∧ yX12_fieldFault.cls ≠ "java/lang/invoke/VarHandle" := ⟨z_mA8 (List.mem_of_getElem? (i := 235) rfl) rfl, z_in_12, by decide, by decide, by decide⟩
theorem im_X12_fieldFault : Cond.instanceMethod yX12_fieldFault ∈ z_all := z_mA8 (List.mem_of_getElem? (i := 234) rfl) rfl
theorem se_X12_fieldFault : Cond.selects yX12_fieldFault.cls yX12_fieldFault yX12_fieldFault ∈ z_all := z_msel (q := (yX12_fieldFault, _)) (List.mem_of_getElem? (i := 69) rfl)
theorem wd_X12_field : Cond.code yX12_field cX12_field 6 (some .int) ∈ z_all ∧ Cond.initialized yX12_field.cls ∈ z_all ∧ 6 ≤ 70 ∧ yX12_field.cls ≠ "java/lang/invoke/MethodHandle" ∧ yX12_field.cls ≠ "java/lang/invoke/VarHandle" := ⟨z_mA8 (List.mem_of_getElem? (i := 231) rfl) rfl, z_in_12, by decide, by decide, by decide⟩
theorem im_X12_field : Cond.instanceMethod yX12_field ∈ z_all := z_mA8 (List.mem_of_getElem? (i := 229) rfl) rfl
theorem se_X12_field : Cond.selects yX12_field.cls yX12_field yX12_field ∈ z_all := z_mA8 (List.mem_of_getElem? (i := 230) rfl) rfl
theorem wd_X12_fieldOf : Cond.code yX12_fieldOf cX12_fieldOf 4 (some .long) ∈ z_all ∧ Cond.initialized yX12_fieldOf.cls ∈ z_all ∧ 4 ≤ 70 ∧ yX12_fieldOf.cls ≠ "java/lang/invoke/MethodHandle" ∧ yX12_fieldOf.cls ≠ "java/lang/invoke/VarHandle" := ⟨z_mA9 (List.mem_of_getElem? (i := 3) rfl) rfl, z_in_12, by decide, by decide, by decide⟩
theorem im_X12_fieldOf : Cond.instanceMethod yX12_fieldOf ∈ z_all := z_mA9 (List.mem_of_getElem? (i := 1) rfl) rfl
theorem se_X12_fieldOf : Cond.selects yX12_fieldOf.cls yX12_fieldOf yX12_fieldOf ∈ z_all := z_mA9 (List.mem_of_getElem? (i := 2) rfl) rfl
theorem wd_X12_raiseField : Cond.code yX12_raiseField cX12_raiseField 9 (some .long) ∈ z_all ∧ Cond.initialized yX12_raiseField.cls ∈ z_all ∧ 9 ≤ 70 ∧ yX12_raiseField.cls ≠ "java/lang/invoke/MethodHandle" ∧ yX12_raiseField.cls ≠ "java/lang/invoke/VarHandle" := ⟨z_mA9 (List.mem_of_getElem? (i := 7) rfl) rfl, z_in_12, by decide, by decide, by decide⟩
theorem im_X12_raiseField : Cond.instanceMethod yX12_raiseField ∈ z_all := z_mA9 (List.mem_of_getElem? (i := 5) rfl) rfl
theorem se_X12_raiseField : Cond.selects yX12_raiseField.cls yX12_raiseField yX12_raiseField ∈ z_all := z_mA9 (List.mem_of_getElem? (i := 6) rfl) rfl
theorem wd_X12_link : Cond.code yX12_link cX12_link 4 (some .int) ∈ z_all ∧ Cond.initialized yX12_link.cls ∈ z_all ∧ 4 ≤ 70 ∧ yX12_link.cls ≠ "java/lang/invoke/MethodHandle" ∧ yX12_link.cls ≠ "java/lang/invoke/VarHandle" := ⟨z_mA9 (List.mem_of_getElem? (i := 11) rfl) rfl, z_in_12, by decide, by decide, by decide⟩
theorem im_X12_link : Cond.instanceMethod yX12_link ∈ z_all := z_mA9 (List.mem_of_getElem? (i := 9) rfl) rfl
theorem se_X12_link : Cond.selects yX12_link.cls yX12_link yX12_link ∈ z_all := z_mA9 (List.mem_of_getElem? (i := 10) rfl) rfl
theorem wd_X12_along : Cond.code yX12_along cX12_along 5 (some .int) ∈ z_all ∧ Cond.initialized yX12_along.cls ∈ z_all ∧ 5 ≤ 70 ∧ yX12_along.cls ≠ "java/lang/invoke/MethodHandle" ∧ yX12_along.cls ≠ "java/lang/invoke/VarHandle" := ⟨z_mA9 (List.mem_of_getElem? (i := 15) rfl) rfl, z_in_12, by decide, by decide, by decide⟩
theorem im_X12_along : Cond.instanceMethod yX12_along ∈ z_all := z_mA9 (List.mem_of_getElem? (i := 13) rfl) rfl
theorem se_X12_along : Cond.selects yX12_along.cls yX12_along yX12_along ∈ z_all := z_mA9 (List.mem_of_getElem? (i := 14) rfl) rfl
theorem wd_X12_ring : Cond.code yX12_ring cX12_ring 3 (some .int) ∈ z_all ∧ Cond.initialized yX12_ring.cls ∈ z_all ∧ 3 ≤ 70 ∧ yX12_ring.cls ≠ "java/lang/invoke/MethodHandle" ∧ yX12_ring.cls ≠ "java/lang/invoke/VarHandle" := ⟨z_mA9 (List.mem_of_getElem? (i := 20) rfl) rfl, z_in_12, by decide, by decide, by decide⟩
theorem im_X12_ring : Cond.instanceMethod yX12_ring ∈ z_all := z_mA9 (List.mem_of_getElem? (i := 18) rfl) rfl
theorem se_X12_ring : Cond.selects yX12_ring.cls yX12_ring yX12_ring ∈ z_all := z_mA9 (List.mem_of_getElem? (i := 19) rfl) rfl
theorem wd_X12_cardAsk : Cond.code yX12_cardAsk cX12_cardAsk 3 (some .int) ∈ z_all ∧ Cond.initialized yX12_cardAsk.cls ∈ z_all ∧ 3 ≤ 70 ∧ yX12_cardAsk.cls ≠ "java/lang/invoke/MethodHandle" ∧ yX12_cardAsk.cls ≠ "java/lang/invoke/VarHandle" := ⟨z_mA9 (List.mem_of_getElem? (i := 24) rfl) rfl, z_in_12, by decide, by decide, by decide⟩
theorem im_X12_cardAsk : Cond.instanceMethod yX12_cardAsk ∈ z_all := z_mA9 (List.mem_of_getElem? (i := 22) rfl) rfl
theorem se_X12_cardAsk : Cond.selects yX12_cardAsk.cls yX12_cardAsk yX12_cardAsk ∈ z_all := z_mA9 (List.mem_of_getElem? (i := 23) rfl) rfl
theorem wd_X12_copy : Cond.code yX12_copy cX12_copy 3 (some .int) ∈ z_all ∧ Cond.initialized yX12_copy.cls ∈ z_all ∧ 3 ≤ 70 ∧ yX12_copy.cls ≠ "java/lang/invoke/MethodHandle" ∧ yX12_copy.cls ≠ "java/lang/invoke/VarHandle" := ⟨z_mA9 (List.mem_of_getElem? (i := 28) rfl) rfl, z_in_12, by decide, by decide, by decide⟩
theorem im_X12_copy : Cond.instanceMethod yX12_copy ∈ z_all := z_mA9 (List.mem_of_getElem? (i := 26) rfl) rfl
theorem se_X12_copy : Cond.selects yX12_copy.cls yX12_copy yX12_copy ∈ z_all := z_mA9 (List.mem_of_getElem? (i := 27) rfl) rfl
theorem wd_X12_isAhead : Cond.code yX12_isAhead cX12_isAhead 4 (some .boolean) ∈ z_all ∧ Cond.initialized yX12_isAhead.cls ∈ z_all ∧ 4 ≤ 70 ∧ yX12_isAhead.cls ≠ "java/lang/invoke/MethodHandle" ∧ yX12_isAhead.cls ≠ "java/lang/invoke/VarHandle" := ⟨z_mA9 (List.mem_of_getElem? (i := 42) rfl) rfl, z_in_12, by decide, by decide, by decide⟩
theorem st_X12_isAhead : Cond.static yX12_isAhead ∈ z_all := z_mA9 (List.mem_of_getElem? (i := 41) rfl) rfl
theorem wd_X12_middleOf : Cond.code yX12_middleOf cX12_middleOf 7 (some .double) ∈ z_all ∧ Cond.initialized yX12_middleOf.cls ∈ z_all ∧ 7 ≤ 70 ∧ yX12_middleOf.cls ≠ "java/lang/invoke/MethodHandle" ∧ yX12_middleOf.cls ≠ "java/lang/invoke/VarHandle" := ⟨z_mA9 (List.mem_of_getElem? (i := 39) rfl) rfl, z_in_12, by decide, by decide, by decide⟩
theorem im_X12_middleOf : Cond.instanceMethod yX12_middleOf ∈ z_all := z_mA9 (List.mem_of_getElem? (i := 38) rfl) rfl
theorem se_X12_middleOf : Cond.selects yX12_middleOf.cls yX12_middleOf yX12_middleOf ∈ z_all := z_msel (q := (yX12_middleOf, _)) (List.mem_of_getElem? (i := 71) rfl)
theorem wd_X12_flowOf : Cond.code yX12_flowOf cX12_flowOf 14 (some .double) ∈ z_all ∧ Cond.initialized yX12_flowOf.cls ∈ z_all ∧ 14 ≤ 70 ∧ yX12_flowOf.cls ≠ "java/lang/invoke/MethodHandle" ∧ yX12_flowOf.cls ≠ "java/lang/invoke/VarHandle" := ⟨z_mA9 (List.mem_of_getElem? (i := 46) rfl) rfl, z_in_12, by decide, by decide, by decide⟩
theorem im_X12_flowOf : Cond.instanceMethod yX12_flowOf ∈ z_all := z_mA9 (List.mem_of_getElem? (i := 45) rfl) rfl
theorem se_X12_flowOf : Cond.selects yX12_flowOf.cls yX12_flowOf yX12_flowOf ∈ z_all := z_msel (q := (yX12_flowOf, _)) (List.mem_of_getElem? (i := 72) rfl)
theorem wd_X12_flow : Cond.code yX12_flow cX12_flow 3 (some .long) ∈ z_all ∧ Cond.initialized yX12_flow.cls ∈ z_all ∧ 3 ≤ 70 ∧ yX12_flow.cls ≠ "java/lang/invoke/MethodHandle" ∧ yX12_flow.cls ≠ "java/lang/invoke/VarHandle" := ⟨z_mA9 (List.mem_of_getElem? (i := 32) rfl) rfl, z_in_12, by decide, by decide, by decide⟩
theorem im_X12_flow : Cond.instanceMethod yX12_flow ∈ z_all := z_mA9 (List.mem_of_getElem? (i := 30) rfl) rfl
theorem se_X12_flow : Cond.selects yX12_flow.cls yX12_flow yX12_flow ∈ z_all := z_mA9 (List.mem_of_getElem? (i := 31) rfl) rfl
theorem wd_X12_test : Cond.code yX12_test cX12_test 11 (some .int) ∈ z_all ∧ Cond.initialized yX12_test.cls ∈ z_all ∧ 11 ≤ 70 ∧ yX12_test.cls ≠ "java/lang/invoke/MethodHandle" ∧ yX12_test.cls ≠ "java/lang/invoke/VarHandle" := ⟨z_mA9 (List.mem_of_getElem? (i := 55) rfl) rfl, z_in_12, by decide, by decide, by decide⟩
theorem im_X12_test : Cond.instanceMethod yX12_test ∈ z_all := z_mA9 (List.mem_of_getElem? (i := 53) rfl) rfl
theorem se_X12_test : Cond.selects yX12_test.cls yX12_test yX12_test ∈ z_all := z_mA9 (List.mem_of_getElem? (i := 54) rfl) rfl
theorem wd_X12_held : Cond.code yX12_held cX12_held 8 (some .long) ∈ z_all ∧ Cond.initialized yX12_held.cls ∈ z_all ∧ 8 ≤ 70 ∧ yX12_held.cls ≠ "java/lang/invoke/MethodHandle" ∧ yX12_held.cls ≠ "java/lang/invoke/VarHandle" := ⟨z_mA9 (List.mem_of_getElem? (i := 63) rfl) rfl, z_in_12, by decide, by decide, by decide⟩
theorem st_X12_held : Cond.static yX12_held ∈ z_all := z_mA9 (List.mem_of_getElem? (i := 62) rfl) rfl
theorem wd_X12_quotient : Cond.code yX12_quotient cX12_quotient 7 (some .long) ∈ z_all ∧ Cond.initialized yX12_quotient.cls ∈ z_all ∧ 7 ≤ 70 ∧ yX12_quotient.cls ≠ "java/lang/invoke/MethodHandle" ∧ yX12_quotient.cls ≠ "java/lang/invoke/VarHandle" := ⟨z_mA9 (List.mem_of_getElem? (i := 60) rfl) rfl, z_in_12, by decide, by decide, by decide⟩
theorem im_X12_quotient : Cond.instanceMethod yX12_quotient ∈ z_all := z_mA9 (List.mem_of_getElem? (i := 58) rfl) rfl
theorem se_X12_quotient : Cond.selects yX12_quotient.cls yX12_quotient yX12_quotient ∈ z_all := z_mA9 (List.mem_of_getElem? (i := 59) rfl) rfl
theorem wd_X12_isStep : Cond.code yX12_isStep cX12_isStep 5 (some .boolean) ∈ z_all ∧ Cond.initialized yX12_isStep.cls ∈ z_all ∧ 5 ≤ 70 ∧ yX12_isStep.cls ≠ "java/lang/invoke/MethodHandle" ∧ yX12_isStep.cls ≠ "java/lang/invoke/VarHandle" := ⟨z_mA9 (List.mem_of_getElem? (i := 72) rfl) rfl, z_in_12, by decide, by decide, by decide⟩
theorem st_X12_isStep : Cond.static yX12_isStep ∈ z_all := z_mA9 (List.mem_of_getElem? (i := 71) rfl) rfl
theorem wd_X12_step : Cond.code yX12_step cX12_step 8 (some .int) ∈ z_all ∧ Cond.initialized yX12_step.cls ∈ z_all ∧ 8 ≤ 70 ∧ yX12_step.cls ≠ "java/lang/invoke/MethodHandle" ∧ yX12_step.cls ≠ "java/lang/invoke/VarHandle" := ⟨z_mA9 (List.mem_of_getElem? (i := 68) rfl) rfl, z_in_12, by decide, by decide, by decide⟩
theorem im_X12_step : Cond.instanceMethod yX12_step ∈ z_all := z_mA9 (List.mem_of_getElem? (i := 66) rfl) rfl
theorem se_X12_step : Cond.selects yX12_step.cls yX12_step yX12_step ∈ z_all := z_mA9 (List.mem_of_getElem? (i := 67) rfl) rfl
theorem wd_X12_wipe : Cond.code yX12_wipe cX12_wipe 3 (some .int) ∈ z_all ∧ Cond.initialized yX12_wipe.cls ∈ z_all ∧ 3 ≤ 70 ∧ yX12_wipe.cls ≠ "java/lang/invoke/MethodHandle" ∧ yX12_wipe.cls ≠ "java/lang/invoke/VarHandle" := ⟨z_mA9 (List.mem_of_getElem? (i := 81) rfl) rfl, z_in_12, by decide, by decide, by decide⟩
theorem im_X12_wipe : Cond.instanceMethod yX12_wipe ∈ z_all := z_mA9 (List.mem_of_getElem? (i := 79) rfl) rfl
theorem se_X12_wipe : Cond.selects yX12_wipe.cls yX12_wipe yX12_wipe ∈ z_all := z_mA9 (List.mem_of_getElem? (i := 80) rfl) rfl
theorem wd_X12_out : Cond.code yX12_out cX12_out 4 none ∈ z_all ∧ Cond.initialized yX12_out.cls ∈ z_all ∧ 4 ≤ 70 ∧ yX12_out.cls ≠ "java/lang/invoke/MethodHandle" ∧ yX12_out.cls ≠ "java/lang/invoke/VarHandle" := ⟨z_mA9 (List.mem_of_getElem? (i := 93) rfl) rfl, z_in_12, by decide, by decide, by decide⟩
theorem im_X12_out : Cond.instanceMethod yX12_out ∈ z_all := z_mA9 (List.mem_of_getElem? (i := 92) rfl) rfl
theorem se_X12_out : Cond.selects yX12_out.cls yX12_out yX12_out ∈ z_all := z_msel (q := (yX12_out, _)) (List.mem_of_getElem? (i := 74) rfl)
theorem wd_X12_call : Cond.code yX12_call cX12_call 2 none ∈ z_all ∧ Cond.initialized yX12_call.cls ∈ z_all ∧ 2 ≤ 70 ∧ yX12_call.cls ≠ "java/lang/invoke/MethodHandle" ∧ yX12_call.cls ≠ "java/lang/invoke/VarHandle" := ⟨z_mA9 (List.mem_of_getElem? (i := 89) rfl) rfl, z_in_12, by decide, by decide, by decide⟩
theorem im_X12_call : Cond.instanceMethod yX12_call ∈ z_all := z_mA9 (List.mem_of_getElem? (i := 88) rfl) rfl
theorem se_X12_call : Cond.selects yX12_call.cls yX12_call yX12_call ∈ z_all := z_msel (q := (yX12_call, _)) (List.mem_of_getElem? (i := 73) rfl)
theorem wd_X12_leave : Cond.code yX12_leave cX12_leave 4 none ∈ z_all ∧ Cond.initialized yX12_leave.cls ∈ z_all ∧ 4 ≤ 70 ∧ yX12_leave.cls ≠ "java/lang/invoke/MethodHandle" ∧ yX12_leave.cls ≠ "java/lang/invoke/VarHandle" := ⟨z_mA9 (List.mem_of_getElem? (i := 101) rfl) rfl, z_in_12, by decide, by decide, by decide⟩
theorem im_X12_leave : Cond.instanceMethod yX12_leave ∈ z_all := z_mA9 (List.mem_of_getElem? (i := 100) rfl) rfl
theorem se_X12_leave : Cond.selects yX12_leave.cls yX12_leave yX12_leave ∈ z_all := z_msel (q := (yX12_leave, _)) (List.mem_of_getElem? (i := 76) rfl)
theorem wd_X12_over : Cond.code yX12_over cX12_over 2 none ∈ z_all ∧ Cond.initialized yX12_over.cls ∈ z_all ∧ 2 ≤ 70 ∧ yX12_over.cls ≠ "java/lang/invoke/MethodHandle" ∧ yX12_over.cls ≠ "java/lang/invoke/VarHandle" := ⟨z_mA9 (List.mem_of_getElem? (i := 109) rfl) rfl, z_in_12, by decide, by decide, by decide⟩
theorem im_X12_over : Cond.instanceMethod yX12_over ∈ z_all := z_mA9 (List.mem_of_getElem? (i := 108) rfl) rfl
theorem se_X12_over : Cond.selects yX12_over.cls yX12_over yX12_over ∈ z_all := z_msel (q := (yX12_over, _)) (List.mem_of_getElem? (i := 78) rfl)
theorem wd_X12_last : Cond.code yX12_last cX12_last 3 none ∈ z_all ∧ Cond.initialized yX12_last.cls ∈ z_all ∧ 3 ≤ 70 ∧ yX12_last.cls ≠ "java/lang/invoke/MethodHandle" ∧ yX12_last.cls ≠ "java/lang/invoke/VarHandle" := ⟨z_mA9 (List.mem_of_getElem? (i := 105) rfl) rfl, z_in_12, by decide, by decide, by decide⟩
theorem im_X12_last : Cond.instanceMethod yX12_last ∈ z_all := z_mA9 (List.mem_of_getElem? (i := 104) rfl) rfl
theorem se_X12_last : Cond.selects yX12_last.cls yX12_last yX12_last ∈ z_all := z_msel (q := (yX12_last, _)) (List.mem_of_getElem? (i := 77) rfl)
theorem wd_X12_hear : Cond.code yX12_hear cX12_hear 6 none ∈ z_all ∧ Cond.initialized yX12_hear.cls ∈ z_all ∧ 6 ≤ 70 ∧ yX12_hear.cls ≠ "java/lang/invoke/MethodHandle" ∧ yX12_hear.cls ≠ "java/lang/invoke/VarHandle" := ⟨z_mA9 (List.mem_of_getElem? (i := 97) rfl) rfl, z_in_12, by decide, by decide, by decide⟩
theorem im_X12_hear : Cond.instanceMethod yX12_hear ∈ z_all := z_mA9 (List.mem_of_getElem? (i := 96) rfl) rfl
theorem se_X12_hear : Cond.selects yX12_hear.cls yX12_hear yX12_hear ∈ z_all := z_msel (q := (yX12_hear, _)) (List.mem_of_getElem? (i := 75) rfl)
theorem wd_X12_fail : Cond.code yX12_fail cX12_fail 3 none ∈ z_all ∧ Cond.initialized yX12_fail.cls ∈ z_all ∧ 3 ≤ 70 ∧ yX12_fail.cls ≠ "java/lang/invoke/MethodHandle" ∧ yX12_fail.cls ≠ "java/lang/invoke/VarHandle" := ⟨z_mA9 (List.mem_of_getElem? (i := 117) rfl) rfl, z_in_12, by decide, by decide, by decide⟩
theorem im_X12_fail : Cond.instanceMethod yX12_fail ∈ z_all := z_mA9 (List.mem_of_getElem? (i := 116) rfl) rfl
theorem se_X12_fail : Cond.selects yX12_fail.cls yX12_fail yX12_fail ∈ z_all := z_msel (q := (yX12_fail, _)) (List.mem_of_getElem? (i := 80) rfl)
theorem wd_X12_putStep : Cond.code yX12_putStep cX12_putStep 4 none ∈ z_all ∧ Cond.initialized yX12_putStep.cls ∈ z_all ∧ 4 ≤ 70 ∧ yX12_putStep.cls ≠ "java/lang/invoke/MethodHandle" ∧ yX12_putStep.cls ≠ "java/lang/invoke/VarHandle" := ⟨z_mA9 (List.mem_of_getElem? (i := 125) rfl) rfl, z_in_12, by decide, by decide, by decide⟩
theorem im_X12_putStep : Cond.instanceMethod yX12_putStep ∈ z_all := z_mA9 (List.mem_of_getElem? (i := 124) rfl) rfl
theorem se_X12_putStep : Cond.selects yX12_putStep.cls yX12_putStep yX12_putStep ∈ z_all := z_msel (q := (yX12_putStep, _)) (List.mem_of_getElem? (i := 82) rfl)
theorem wd_X12_sumStep : Cond.code yX12_sumStep cX12_sumStep 5 none ∈ z_all ∧ Cond.initialized yX12_sumStep.cls ∈ z_all ∧ 5 ≤ 70 ∧ yX12_sumStep.cls ≠ "java/lang/invoke/MethodHandle" ∧ yX12_sumStep.cls ≠ "java/lang/invoke/VarHandle" := ⟨z_mA9 (List.mem_of_getElem? (i := 129) rfl) rfl, z_in_12, by decide, by decide, by decide⟩
theorem im_X12_sumStep : Cond.instanceMethod yX12_sumStep ∈ z_all := z_mA9 (List.mem_of_getElem? (i := 128) rfl) rfl
theorem se_X12_sumStep : Cond.selects yX12_sumStep.cls yX12_sumStep yX12_sumStep ∈ z_all := z_msel (q := (yX12_sumStep, _)) (List.mem_of_getElem? (i := 83) rfl)
theorem wd_X12_doStep : Cond.code yX12_doStep cX12_doStep 7 none ∈ z_all ∧ Cond.initialized yX12_doStep.cls ∈ z_all ∧ 7 ≤ 70 ∧ yX12_doStep.cls ≠ "java/lang/invoke/MethodHandle" ∧ yX12_doStep.cls ≠ "java/lang/invoke/VarHandle" := ⟨z_mA9 (List.mem_of_getElem? (i := 121) rfl) rfl, z_in_12, by decide, by decide, by decide⟩
theorem im_X12_doStep : Cond.instanceMethod yX12_doStep ∈ z_all := z_mA9 (List.mem_of_getElem? (i := 120) rfl) rfl
theorem se_X12_doStep : Cond.selects yX12_doStep.cls yX12_doStep yX12_doStep ∈ z_all := z_msel (q := (yX12_doStep, _)) (List.mem_of_getElem? (i := 81) rfl)
theorem wd_X12_go : Cond.code yX12_go cX12_go 2 none ∈ z_all ∧ Cond.initialized yX12_go.cls ∈ z_all ∧ 2 ≤ 70 ∧ yX12_go.cls ≠ "java/lang/invoke/MethodHandle" ∧ yX12_go.cls ≠ "java/lang/invoke/VarHandle" := ⟨z_mA9 (List.mem_of_getElem? (i := 113) rfl) rfl, z_in_12, by decide, by decide, by decide⟩
theorem im_X12_go : Cond.instanceMethod yX12_go ∈ z_all := z_mA9 (List.mem_of_getElem? (i := 112) rfl) rfl
theorem se_X12_go : Cond.selects yX12_go.cls yX12_go yX12_go ∈ z_all := z_msel (q := (yX12_go, _)) (List.mem_of_getElem? (i := 79) rfl)
theorem wd_X12_act : Cond.code yX12_act cX12_act 5 (some .int) ∈ z_all ∧ Cond.initialized yX12_act.cls ∈ z_all ∧ 5 ≤ 70 ∧ yX12_act.cls ≠ "java/lang/invoke/MethodHandle" ∧ yX12_act.cls ≠ "java/lang/invoke/VarHandle" := ⟨z_mA9 (List.mem_of_getElem? (i := 85) rfl) rfl, z_in_12, by decide, by decide, by decide⟩
theorem im_X12_act : Cond.instanceMethod yX12_act ∈ z_all := z_mA9 (List.mem_of_getElem? (i := 83) rfl) rfl
theorem se_X12_act : Cond.selects yX12_act.cls yX12_act yX12_act ∈ z_all := z_mA9 (List.mem_of_getElem? (i := 84) rfl) rfl
theorem wd_X12_raised : Cond.code yX12_raised cX12_raised 2 (some .int) ∈ z_all ∧ Cond.initialized yX12_raised.cls ∈ z_all ∧ 2 ≤ 70 ∧ yX12_raised.cls ≠ "java/lang/invoke/MethodHandle" ∧ yX12_raised.cls ≠ "java/lang/invoke/VarHandle" := ⟨z_mA9 (List.mem_of_getElem? (i := 134) rfl) rfl, z_in_12, by decide, by decide, by decide⟩
theorem im_X12_raised : Cond.instanceMethod yX12_raised ∈ z_all := z_mA9 (List.mem_of_getElem? (i := 132) rfl) rfl
theorem se_X12_raised : Cond.selects yX12_raised.cls yX12_raised yX12_raised ∈ z_all := z_mA9 (List.mem_of_getElem? (i := 133) rfl) rfl
theorem wd_X12_stock : Cond.code yX12_stock cX12_stock 5 (some .long) ∈ z_all ∧ Cond.initialized yX12_stock.cls ∈ z_all ∧ 5 ≤ 70 ∧ yX12_stock.cls ≠ "java/lang/invoke/MethodHandle" ∧ yX12_stock.cls ≠ "java/lang/invoke/VarHandle" := ⟨z_mA9 (List.mem_of_getElem? (i := 138) rfl) rfl, z_in_12, by decide, by decide, by decide⟩
theorem im_X12_stock : Cond.instanceMethod yX12_stock ∈ z_all := z_mA9 (List.mem_of_getElem? (i := 136) rfl) rfl
theorem se_X12_stock : Cond.selects yX12_stock.cls yX12_stock yX12_stock ∈ z_all := z_mA9 (List.mem_of_getElem? (i := 137) rfl) rfl
theorem wd_X12_gate : Cond.code yX12_gate cX12_gate 3 (some .int) ∈ z_all ∧ Cond.initialized yX12_gate.cls ∈ z_all ∧ 3 ≤ 70 ∧ yX12_gate.cls ≠ "java/lang/invoke/MethodHandle" ∧ yX12_gate.cls ≠ "java/lang/invoke/VarHandle" := ⟨z_mA9 (List.mem_of_getElem? (i := 142) rfl) rfl, z_in_12, by decide, by decide, by decide⟩
theorem im_X12_gate : Cond.instanceMethod yX12_gate ∈ z_all := z_mA9 (List.mem_of_getElem? (i := 140) rfl) rfl
theorem se_X12_gate : Cond.selects yX12_gate.cls yX12_gate yX12_gate ∈ z_all := z_mA9 (List.mem_of_getElem? (i := 141) rfl) rfl
theorem wd_X12_signal : Cond.code yX12_signal cX12_signal 2 (some .int) ∈ z_all ∧ Cond.initialized yX12_signal.cls ∈ z_all ∧ 2 ≤ 70 ∧ yX12_signal.cls ≠ "java/lang/invoke/MethodHandle" ∧ yX12_signal.cls ≠ "java/lang/invoke/VarHandle" := ⟨z_mA9 (List.mem_of_getElem? (i := 146) rfl) rfl, z_in_12, by decide, by decide, by decide⟩
theorem im_X12_signal : Cond.instanceMethod yX12_signal ∈ z_all := z_mA9 (List.mem_of_getElem? (i := 144) rfl) rfl
theorem se_X12_signal : Cond.selects yX12_signal.cls yX12_signal yX12_signal ∈ z_all := z_mA9 (List.mem_of_getElem? (i := 145) rfl) rfl
theorem wd_X12_lineOf : Cond.code yX12_lineOf cX12_lineOf 1 (some .long) ∈ z_all ∧ Cond.initialized yX12_lineOf.cls ∈ z_all ∧ 1 ≤ 70 ∧ yX12_lineOf.cls ≠ "java/lang/invoke/MethodHandle" ∧ yX12_lineOf.cls ≠ "java/lang/invoke/VarHandle" := ⟨z_mA9 (List.mem_of_getElem? (i := 154) rfl) rfl, z_in_12, by decide, by decide, by decide⟩
theorem st_X12_lineOf : Cond.static yX12_lineOf ∈ z_all := z_mA9 (List.mem_of_getElem? (i := 153) rfl) rfl
theorem wd_X12_levelOf : Cond.code yX12_levelOf cX12_levelOf 5 (some .double) ∈ z_all ∧ Cond.initialized yX12_levelOf.cls ∈ z_all ∧ 5 ≤ 70 ∧ yX12_levelOf.cls ≠ "java/lang/invoke/MethodHandle" ∧ yX12_levelOf.cls ≠ "java/lang/invoke/VarHandle" := ⟨z_mA9 (List.mem_of_getElem? (i := 162) rfl) rfl, z_in_12, by decide, by decide, by decide⟩
theorem st_X12_levelOf : Cond.static yX12_levelOf ∈ z_all := z_mA9 (List.mem_of_getElem? (i := 161) rfl) rfl
theorem wd_X12_root : Cond.code yX12_root cX12_root 14 (some .double) ∈ z_all ∧ Cond.initialized yX12_root.cls ∈ z_all ∧ 14 ≤ 70 ∧ yX12_root.cls ≠ "java/lang/invoke/MethodHandle" ∧ yX12_root.cls ≠ "java/lang/invoke/VarHandle" := ⟨z_mA9 (List.mem_of_getElem? (i := 223) rfl) rfl, z_in_12, by decide, by decide, by decide⟩
theorem st_X12_root : Cond.static yX12_root ∈ z_all := z_mA9 (List.mem_of_getElem? (i := 222) rfl) rfl
theorem wd_X12_table : Cond.code yX12_table cX12_table 2 (some .long) ∈ z_all ∧ Cond.initialized yX12_table.cls ∈ z_all ∧ 2 ≤ 70 ∧ yX12_table.cls ≠ "java/lang/invoke/MethodHandle" ∧ yX12_table.cls ≠ "java/lang/invoke/VarHandle" := ⟨z_mA9 (List.mem_of_getElem? (i := 150) rfl) rfl, z_in_12, by decide, by decide, by decide⟩
theorem im_X12_table : Cond.instanceMethod yX12_table ∈ z_all := z_mA9 (List.mem_of_getElem? (i := 148) rfl) rfl
theorem se_X12_table : Cond.selects yX12_table.cls yX12_table yX12_table ∈ z_all := z_mA9 (List.mem_of_getElem? (i := 149) rfl) rfl
theorem wd_X12_turned : Cond.code yX12_turned cX12_turned 5 (some .long) ∈ z_all ∧ Cond.initialized yX12_turned.cls ∈ z_all ∧ 5 ≤ 70 ∧ yX12_turned.cls ≠ "java/lang/invoke/MethodHandle" ∧ yX12_turned.cls ≠ "java/lang/invoke/VarHandle" := ⟨z_mA9 (List.mem_of_getElem? (i := 159) rfl) rfl, z_in_12, by decide, by decide, by decide⟩
theorem im_X12_turned : Cond.instanceMethod yX12_turned ∈ z_all := z_mA9 (List.mem_of_getElem? (i := 157) rfl) rfl
theorem se_X12_turned : Cond.selects yX12_turned.cls yX12_turned yX12_turned ∈ z_all := z_mA9 (List.mem_of_getElem? (i := 158) rfl) rfl
theorem wd_X12_reading : Cond.code yX12_reading cX12_reading 6 (some .int) ∈ z_all ∧ Cond.initialized yX12_reading.cls ∈ z_all ∧ 6 ≤ 70 ∧ yX12_reading.cls ≠ "java/lang/invoke/MethodHandle" ∧ yX12_reading.cls ≠ "java/lang/invoke/VarHandle" := ⟨z_mA9 (List.mem_of_getElem? (i := 166) rfl) rfl, z_in_12, by decide, by decide, by decide⟩
theorem im_X12_reading : Cond.instanceMethod yX12_reading ∈ z_all := z_mA9 (List.mem_of_getElem? (i := 164) rfl) rfl
theorem se_X12_reading : Cond.selects yX12_reading.cls yX12_reading yX12_reading ∈ z_all := z_mA9 (List.mem_of_getElem? (i := 165) rfl) rfl
theorem wd_X12_word : Cond.code yX12_word cX12_word 5 (some .int) ∈ z_all ∧ Cond.initialized yX12_word.cls ∈ z_all ∧ 5 ≤ 70 ∧ yX12_word.cls ≠ "java/lang/invoke/MethodHandle" ∧ yX12_word.cls ≠ "java/lang/invoke/VarHandle" := ⟨z_mA9 (List.mem_of_getElem? (i := 172) rfl) rfl, z_in_12, by decide, by decide, by decide⟩
theorem im_X12_word : Cond.instanceMethod yX12_word ∈ z_all := z_mA9 (List.mem_of_getElem? (i := 170) rfl) rfl
theorem se_X12_word : Cond.selects yX12_word.cls yX12_word yX12_word ∈ z_all := z_mA9 (List.mem_of_getElem? (i := 171) rfl) rfl
theorem wd_X12_stuck : Cond.code yX12_stuck cX12_stuck 4 (some .int) ∈ z_all ∧ Cond.initialized yX12_stuck.cls ∈ z_all ∧ 4 ≤ 70 ∧ yX12_stuck.cls ≠ "java/lang/invoke/MethodHandle" ∧ yX12_stuck.cls ≠ "java/lang/invoke/VarHandle" := ⟨z_mA9 (List.mem_of_getElem? (i := 177) rfl) rfl, z_in_12, by decide, by decide, by decide⟩
theorem im_X12_stuck : Cond.instanceMethod yX12_stuck ∈ z_all := z_mA9 (List.mem_of_getElem? (i := 175) rfl) rfl
theorem se_X12_stuck : Cond.selects yX12_stuck.cls yX12_stuck yX12_stuck ∈ z_all := z_mA9 (List.mem_of_getElem? (i := 176) rfl) rfl
theorem wd_X12_hand : Cond.code yX12_hand cX12_hand 6 (some .int) ∈ z_all ∧ Cond.initialized yX12_hand.cls ∈ z_all ∧ 6 ≤ 70 ∧ yX12_hand.cls ≠ "java/lang/invoke/MethodHandle" ∧ yX12_hand.cls ≠ "java/lang/invoke/VarHandle" := ⟨z_mA9 (List.mem_of_getElem? (i := 181) rfl) rfl, z_in_12, by decide, by decide, by decide⟩
theorem im_X12_hand : Cond.instanceMethod yX12_hand ∈ z_all := z_mA9 (List.mem_of_getElem? (i := 179) rfl) rfl
theorem se_X12_hand : Cond.selects yX12_hand.cls yX12_hand yX12_hand ∈ z_all := z_mA9 (List.mem_of_getElem? (i := 180) rfl) rfl
theorem wd_X12_rate : Cond.code yX12_rate cX12_rate 5 (some .int) ∈ z_all ∧ Cond.initialized yX12_rate.cls ∈ z_all ∧ 5 ≤ 70 ∧ yX12_rate.cls ≠ "java/lang/invoke/MethodHandle" ∧ yX12_rate.cls ≠ "java/lang/invoke/VarHandle" := ⟨z_mA9 (List.mem_of_getElem? (i := 185) rfl) rfl, z_in_12, by decide, by decide, by decide⟩
theorem im_X12_rate : Cond.instanceMethod yX12_rate ∈ z_all := z_mA9 (List.mem_of_getElem? (i := 183) rfl) rfl
theorem se_X12_rate : Cond.selects yX12_rate.cls yX12_rate yX12_rate ∈ z_all := z_mA9 (List.mem_of_getElem? (i := 184) rfl) rfl
theorem wd_X12_hangsAt : Cond.code yX12_hangsAt cX12_hangsAt 7 (some .boolean) ∈ z_all ∧ Cond.initialized yX12_hangsAt.cls ∈ z_all ∧ 7 ≤ 70 ∧ yX12_hangsAt.cls ≠ "java/lang/invoke/MethodHandle" ∧ yX12_hangsAt.cls ≠ "java/lang/invoke/VarHandle" := ⟨z_mA9 (List.mem_of_getElem? (i := 207) rfl) rfl, z_in_12, by decide, by decide, by decide⟩
theorem im_X12_hangsAt : Cond.instanceMethod yX12_hangsAt ∈ z_all := z_mA9 (List.mem_of_getElem? (i := 206) rfl) rfl
theorem se_X12_hangsAt : Cond.selects yX12_hangsAt.cls yX12_hangsAt yX12_hangsAt ∈ z_all := z_msel (q := (yX12_hangsAt, _)) (List.mem_of_getElem? (i := 86) rfl)
theorem wd_X12_hear1 : Cond.code yX12_hear1 cX12_hear1 4 none ∈ z_all ∧ Cond.initialized yX12_hear1.cls ∈ z_all ∧ 4 ≤ 70 ∧ yX12_hear1.cls ≠ "java/lang/invoke/MethodHandle" ∧ yX12_hear1.cls ≠ "java/lang/invoke/VarHandle" := ⟨z_mA9 (List.mem_of_getElem? (i := 197) rfl) rfl, z_in_12, by decide, by decide, by decide⟩
theorem im_X12_hear1 : Cond.instanceMethod yX12_hear1 ∈ z_all := z_mA9 (List.mem_of_getElem? (i := 196) rfl) rfl
theorem se_X12_hear1 : Cond.selects yX12_hear1.cls yX12_hear1 yX12_hear1 ∈ z_all := z_msel (q := (yX12_hear1, _)) (List.mem_of_getElem? (i := 84) rfl)
theorem wd_X12_voice : Cond.code yX12_voice cX12_voice 7 (some .double) ∈ z_all ∧ Cond.initialized yX12_voice.cls ∈ z_all ∧ 7 ≤ 70 ∧ yX12_voice.cls ≠ "java/lang/invoke/MethodHandle" ∧ yX12_voice.cls ≠ "java/lang/invoke/VarHandle" := ⟨z_mA9 (List.mem_of_getElem? (i := 203) rfl) rfl, z_in_12, by decide, by decide, by decide⟩
theorem im_X12_voice : Cond.instanceMethod yX12_voice ∈ z_all := z_mA9 (List.mem_of_getElem? (i := 202) rfl) rfl
theorem se_X12_voice : Cond.selects yX12_voice.cls yX12_voice yX12_voice ∈ z_all := z_msel (q := (yX12_voice, _)) (List.mem_of_getElem? (i := 85) rfl)
theorem wd_X12_nextGate : Cond.code yX12_nextGate cX12_nextGate 4 (some .int) ∈ z_all ∧ Cond.initialized yX12_nextGate.cls ∈ z_all ∧ 4 ≤ 70 ∧ yX12_nextGate.cls ≠ "java/lang/invoke/MethodHandle" ∧ yX12_nextGate.cls ≠ "java/lang/invoke/VarHandle" := ⟨z_mA9 (List.mem_of_getElem? (i := 229) rfl) rfl, z_in_12, by decide, by decide, by decide⟩
theorem im_X12_nextGate : Cond.instanceMethod yX12_nextGate ∈ z_all := z_mA9 (List.mem_of_getElem? (i := 228) rfl) rfl
theorem se_X12_nextGate : Cond.selects yX12_nextGate.cls yX12_nextGate yX12_nextGate ∈ z_all := z_msel (q := (yX12_nextGate, _)) (List.mem_of_getElem? (i := 90) rfl)
theorem wd_X12_targetOf : Cond.code yX12_targetOf cX12_targetOf 7 (some .double) ∈ z_all ∧ Cond.initialized yX12_targetOf.cls ∈ z_all ∧ 7 ≤ 70 ∧ yX12_targetOf.cls ≠ "java/lang/invoke/MethodHandle" ∧ yX12_targetOf.cls ≠ "java/lang/invoke/VarHandle" := ⟨z_mA9 (List.mem_of_getElem? (i := 233) rfl) rfl, z_in_12, by decide, by decide, by decide⟩
theorem im_X12_targetOf : Cond.instanceMethod yX12_targetOf ∈ z_all := z_mA9 (List.mem_of_getElem? (i := 232) rfl) rfl
theorem se_X12_targetOf : Cond.selects yX12_targetOf.cls yX12_targetOf yX12_targetOf ∈ z_all := z_msel (q := (yX12_targetOf, _)) (List.mem_of_getElem? (i := 91) rfl)
theorem wd_X12_holding : Cond.code yX12_holding cX12_holding 7 (some .int) ∈ z_all ∧ Cond.initialized yX12_holding.cls ∈ z_all ∧ 7 ≤ 70 ∧ yX12_holding.cls ≠ "java/lang/invoke/MethodHandle" ∧ yX12_holding.cls ≠ "java/lang/invoke/VarHandle" := ⟨z_mA9 (List.mem_of_getElem? (i := 219) rfl) rfl, z_in_12, by decide, by decide, by decide⟩
theorem im_X12_holding : Cond.instanceMethod yX12_holding ∈ z_all := z_mA9 (List.mem_of_getElem? (i := 218) rfl) rfl
theorem se_X12_holding : Cond.selects yX12_holding.cls yX12_holding yX12_holding ∈ z_all := z_msel (q := (yX12_holding, _)) (List.mem_of_getElem? (i := 89) rfl)
theorem wd_X12_wished : Cond.code yX12_wished cX12_wished 5 (some .double) ∈ z_all ∧ Cond.initialized yX12_wished.cls ∈ z_all ∧ 5 ≤ 70 ∧ yX12_wished.cls ≠ "java/lang/invoke/MethodHandle" ∧ yX12_wished.cls ≠ "java/lang/invoke/VarHandle" := ⟨z_mA9 (List.mem_of_getElem? (i := 215) rfl) rfl, z_in_12, by decide, by decide, by decide⟩
theorem im_X12_wished : Cond.instanceMethod yX12_wished ∈ z_all := z_mA9 (List.mem_of_getElem? (i := 214) rfl) rfl
theorem se_X12_wished : Cond.selects yX12_wished.cls yX12_wished yX12_wished ∈ z_all := z_msel (q := (yX12_wished, _)) (List.mem_of_getElem? (i := 88) rfl)
theorem wd_X12_steer : Cond.code yX12_steer cX12_steer 12 none ∈ z_all ∧ Cond.initialized yX12_steer.cls ∈ z_all ∧ 12 ≤ 70 ∧ yX12_steer.cls ≠ "java/lang/invoke/MethodHandle" ∧ yX12_steer.cls ≠ "java/lang/invoke/VarHandle" := ⟨z_mA9 (List.mem_of_getElem? (i := 211) rfl) rfl, z_in_12, by decide, by decide, by decide⟩
theorem im_X12_steer : Cond.instanceMethod yX12_steer ∈ z_all := z_mA9 (List.mem_of_getElem? (i := 210) rfl) rfl
theorem se_X12_steer : Cond.selects yX12_steer.cls yX12_steer yX12_steer ∈ z_all := z_msel (q := (yX12_steer, _)) (List.mem_of_getElem? (i := 87) rfl)
theorem wd_X12_flowOn : Cond.code yX12_flowOn cX12_flowOn 9 none ∈ z_all ∧ Cond.initialized yX12_flowOn.cls ∈ z_all ∧ 9 ≤ 70 ∧ yX12_flowOn.cls ≠ "java/lang/invoke/MethodHandle" ∧ yX12_flowOn.cls ≠ "java/lang/invoke/VarHandle" := ⟨z_mA9 (List.mem_of_getElem? (i := 237) rfl) rfl, z_in_12, by decide, by decide, by decide⟩
theorem im_X12_flowOn : Cond.instanceMethod yX12_flowOn ∈ z_all := z_mA9 (List.mem_of_getElem? (i := 236) rfl) rfl
theorem se_X12_flowOn : Cond.selects yX12_flowOn.cls yX12_flowOn yX12_flowOn ∈ z_all := z_msel (q := (yX12_flowOn, _)) (List.mem_of_getElem? (i := 92) rfl)
theorem wd_X12_run : Cond.code yX12_run cX12_run 12 (some .int) ∈ z_all ∧ Cond.initialized yX12_run.cls ∈ z_all ∧ 12 ≤ 70 ∧ yX12_run.cls ≠ "java/lang/invoke/MethodHandle" ∧ yX12_run.cls ≠ "java/lang/invoke/VarHandle" := ⟨z_mA9 (List.mem_of_getElem? (i := 189) rfl) rfl, z_in_12, by decide, by decide, by decide⟩
theorem im_X12_run : Cond.instanceMethod yX12_run ∈ z_all := z_mA9 (List.mem_of_getElem? (i := 187) rfl) rfl
theorem se_X12_run : Cond.selects yX12_run.cls yX12_run yX12_run ∈ z_all := z_mA9 (List.mem_of_getElem? (i := 188) rfl) rfl
theorem wd_X12_lake : Cond.code yX12_lake cX12_lake 2 (some .long) ∈ z_all ∧ Cond.initialized yX12_lake.cls ∈ z_all ∧ 2 ≤ 70 ∧ yX12_lake.cls ≠ "java/lang/invoke/MethodHandle" ∧ yX12_lake.cls ≠ "java/lang/invoke/VarHandle" := ⟨z_mA10 (List.mem_of_getElem? (i := 3) rfl) rfl, z_in_12, by decide, by decide, by decide⟩
theorem im_X12_lake : Cond.instanceMethod yX12_lake ∈ z_all := z_mA10 (List.mem_of_getElem? (i := 1) rfl) rfl
theorem se_X12_lake : Cond.selects yX12_lake.cls yX12_lake yX12_lake ∈ z_all := z_mA10 (List.mem_of_getElem? (i := 2) rfl) rfl
theorem wd_X12_heard : Cond.code yX12_heard cX12_heard 2 (some .int) ∈ z_all ∧ Cond.initialized yX12_heard.cls ∈ z_all ∧ 2 ≤ 70 ∧ yX12_heard.cls ≠ "java/lang/invoke/MethodHandle" ∧ yX12_heard.cls ≠ "java/lang/invoke/VarHandle" := ⟨z_mA10 (List.mem_of_getElem? (i := 7) rfl) rfl, z_in_12, by decide, by decide, by decide⟩
theorem im_X12_heard : Cond.instanceMethod yX12_heard ∈ z_all := z_mA10 (List.mem_of_getElem? (i := 5) rfl) rfl
theorem se_X12_heard : Cond.selects yX12_heard.cls yX12_heard yX12_heard ∈ z_all := z_mA10 (List.mem_of_getElem? (i := 6) rfl) rfl
theorem wd_X12_moved : Cond.code yX12_moved cX12_moved 3 (some .int) ∈ z_all ∧ Cond.initialized yX12_moved.cls ∈ z_all ∧ 3 ≤ 70 ∧ yX12_moved.cls ≠ "java/lang/invoke/MethodHandle" ∧ yX12_moved.cls ≠ "java/lang/invoke/VarHandle" := ⟨z_mA10 (List.mem_of_getElem? (i := 11) rfl) rfl, z_in_12, by decide, by decide, by decide⟩
theorem im_X12_moved : Cond.instanceMethod yX12_moved ∈ z_all := z_mA10 (List.mem_of_getElem? (i := 9) rfl) rfl
theorem se_X12_moved : Cond.selects yX12_moved.cls yX12_moved yX12_moved ∈ z_all := z_mA10 (List.mem_of_getElem? (i := 10) rfl) rfl
theorem wd_X12_about : Cond.code yX12_about cX12_about 2 (some .int) ∈ z_all ∧ Cond.initialized yX12_about.cls ∈ z_all ∧ 2 ≤ 70 ∧ yX12_about.cls ≠ "java/lang/invoke/MethodHandle" ∧ yX12_about.cls ≠ "java/lang/invoke/VarHandle" := ⟨z_mA10 (List.mem_of_getElem? (i := 15) rfl) rfl, z_in_12, by decide, by decide, by decide⟩
theorem im_X12_about : Cond.instanceMethod yX12_about ∈ z_all := z_mA10 (List.mem_of_getElem? (i := 13) rfl) rfl
theorem se_X12_about : Cond.selects yX12_about.cls yX12_about yX12_about ∈ z_all := z_mA10 (List.mem_of_getElem? (i := 14) rfl) rfl
theorem wd_X12_rule : Cond.code yX12_rule cX12_rule 16 (some .int) ∈ z_all ∧ Cond.initialized yX12_rule.cls ∈ z_all ∧ 16 ≤ 70 ∧ yX12_rule.cls ≠ "java/lang/invoke/MethodHandle" ∧ yX12_rule.cls ≠ "java/lang/invoke/VarHandle" := ⟨z_mA10 (List.mem_of_getElem? (i := 19) rfl) rfl, z_in_12, by decide, by decide, by decide⟩
theorem im_X12_rule : Cond.instanceMethod yX12_rule ∈ z_all := z_mA10 (List.mem_of_getElem? (i := 17) rfl) rfl
theorem se_X12_rule : Cond.selects yX12_rule.cls yX12_rule yX12_rule ∈ z_all := z_mA10 (List.mem_of_getElem? (i := 18) rfl) rfl
theorem wd_X12_ruleAt : Cond.code yX12_ruleAt cX12_ruleAt 6 (some .int) ∈ z_all ∧ Cond.initialized yX12_ruleAt.cls ∈ z_all ∧ 6 ≤ 70 ∧ yX12_ruleAt.cls ≠ "java/lang/invoke/MethodHandle" ∧ yX12_ruleAt.cls ≠ "java/lang/invoke/VarHandle" := ⟨z_mA10 (List.mem_of_getElem? (i := 23) rfl) rfl, z_in_12, by decide, by decide, by decide⟩
theorem im_X12_ruleAt : Cond.instanceMethod yX12_ruleAt ∈ z_all := z_mA10 (List.mem_of_getElem? (i := 21) rfl) rfl
theorem se_X12_ruleAt : Cond.selects yX12_ruleAt.cls yX12_ruleAt yX12_ruleAt ∈ z_all := z_mA10 (List.mem_of_getElem? (i := 22) rfl) rfl
theorem wd_X12_right : Cond.code yX12_right cX12_right 5 (some .int) ∈ z_all ∧ Cond.initialized yX12_right.cls ∈ z_all ∧ 5 ≤ 70 ∧ yX12_right.cls ≠ "java/lang/invoke/MethodHandle" ∧ yX12_right.cls ≠ "java/lang/invoke/VarHandle" := ⟨z_mA10 (List.mem_of_getElem? (i := 28) rfl) rfl, z_in_12, by decide, by decide, by decide⟩
theorem im_X12_right : Cond.instanceMethod yX12_right ∈ z_all := z_mA10 (List.mem_of_getElem? (i := 26) rfl) rfl
theorem se_X12_right : Cond.selects yX12_right.cls yX12_right yX12_right ∈ z_all := z_mA10 (List.mem_of_getElem? (i := 27) rfl) rfl
theorem wd_X12_partRank : Cond.code yX12_partRank cX12_partRank 13 (some .long) ∈ z_all ∧ Cond.initialized yX12_partRank.cls ∈ z_all ∧ 13 ≤ 70 ∧ yX12_partRank.cls ≠ "java/lang/invoke/MethodHandle" ∧ yX12_partRank.cls ≠ "java/lang/invoke/VarHandle" := ⟨z_mA10 (List.mem_of_getElem? (i := 37) rfl) rfl, z_in_12, by decide, by decide, by decide⟩
theorem im_X12_partRank : Cond.instanceMethod yX12_partRank ∈ z_all := z_mA10 (List.mem_of_getElem? (i := 36) rfl) rfl
theorem se_X12_partRank : Cond.selects yX12_partRank.cls yX12_partRank yX12_partRank ∈ z_all := z_msel (q := (yX12_partRank, _)) (List.mem_of_getElem? (i := 93) rfl)
theorem wd_X12_part : Cond.code yX12_part cX12_part 6 (some .long) ∈ z_all ∧ Cond.initialized yX12_part.cls ∈ z_all ∧ 6 ≤ 70 ∧ yX12_part.cls ≠ "java/lang/invoke/MethodHandle" ∧ yX12_part.cls ≠ "java/lang/invoke/VarHandle" := ⟨z_mA10 (List.mem_of_getElem? (i := 33) rfl) rfl, z_in_12, by decide, by decide, by decide⟩
theorem im_X12_part : Cond.instanceMethod yX12_part ∈ z_all := z_mA10 (List.mem_of_getElem? (i := 31) rfl) rfl
theorem se_X12_part : Cond.selects yX12_part.cls yX12_part yX12_part ∈ z_all := z_mA10 (List.mem_of_getElem? (i := 32) rfl) rfl
theorem wd_X12_has_ : Cond.code yX12_has_ cX12_has_ 2 (some .long) ∈ z_all ∧ Cond.initialized yX12_has_.cls ∈ z_all ∧ 2 ≤ 70 ∧ yX12_has_.cls ≠ "java/lang/invoke/MethodHandle" ∧ yX12_has_.cls ≠ "java/lang/invoke/VarHandle" := ⟨z_mA10 (List.mem_of_getElem? (i := 41) rfl) rfl, z_in_12, by decide, by decide, by decide⟩
theorem im_X12_has_ : Cond.instanceMethod yX12_has_ ∈ z_all := z_mA10 (List.mem_of_getElem? (i := 39) rfl) rfl
theorem se_X12_has_ : Cond.selects yX12_has_.cls yX12_has_ yX12_has_ ∈ z_all := z_mA10 (List.mem_of_getElem? (i := 40) rfl) rfl
theorem wd_X12_close : Cond.code yX12_close cX12_close 4 (some .long) ∈ z_all ∧ Cond.initialized yX12_close.cls ∈ z_all ∧ 4 ≤ 70 ∧ yX12_close.cls ≠ "java/lang/invoke/MethodHandle" ∧ yX12_close.cls ≠ "java/lang/invoke/VarHandle" := ⟨z_mA10 (List.mem_of_getElem? (i := 45) rfl) rfl, z_in_12, by decide, by decide, by decide⟩
theorem im_X12_close : Cond.instanceMethod yX12_close ∈ z_all := z_mA10 (List.mem_of_getElem? (i := 43) rfl) rfl
theorem se_X12_close : Cond.selects yX12_close.cls yX12_close yX12_close ∈ z_all := z_mA10 (List.mem_of_getElem? (i := 44) rfl) rfl
theorem wd_X12_hours : Cond.code yX12_hours cX12_hours 3 (some .int) ∈ z_all ∧ Cond.initialized yX12_hours.cls ∈ z_all ∧ 3 ≤ 70 ∧ yX12_hours.cls ≠ "java/lang/invoke/MethodHandle" ∧ yX12_hours.cls ≠ "java/lang/invoke/VarHandle" := ⟨z_mA10 (List.mem_of_getElem? (i := 49) rfl) rfl, z_in_12, by decide, by decide, by decide⟩
theorem im_X12_hours : Cond.instanceMethod yX12_hours ∈ z_all := z_mA10 (List.mem_of_getElem? (i := 47) rfl) rfl
theorem se_X12_hours : Cond.selects yX12_hours.cls yX12_hours yX12_hours ∈ z_all := z_mA10 (List.mem_of_getElem? (i := 48) rfl) rfl
theorem wd_X12_isFlow : Cond.code yX12_isFlow cX12_isFlow 2 (some .boolean) ∈ z_all ∧ Cond.initialized yX12_isFlow.cls ∈ z_all ∧ 2 ≤ 70 ∧ yX12_isFlow.cls ≠ "java/lang/invoke/MethodHandle" ∧ yX12_isFlow.cls ≠ "java/lang/invoke/VarHandle" := ⟨z_mA10 (List.mem_of_getElem? (i := 57) rfl) rfl, z_in_12, by decide, by decide, by decide⟩
theorem st_X12_isFlow : Cond.static yX12_isFlow ∈ z_all := z_mA10 (List.mem_of_getElem? (i := 56) rfl) rfl
theorem wd_X12_ahead : Cond.code yX12_ahead cX12_ahead 7 (some .int) ∈ z_all ∧ Cond.initialized yX12_ahead.cls ∈ z_all ∧ 7 ≤ 70 ∧ yX12_ahead.cls ≠ "java/lang/invoke/MethodHandle" ∧ yX12_ahead.cls ≠ "java/lang/invoke/VarHandle" := ⟨z_mA10 (List.mem_of_getElem? (i := 54) rfl) rfl, z_in_12, by decide, by decide, by decide⟩
theorem im_X12_ahead : Cond.instanceMethod yX12_ahead ∈ z_all := z_mA10 (List.mem_of_getElem? (i := 52) rfl) rfl
theorem se_X12_ahead : Cond.selects yX12_ahead.cls yX12_ahead yX12_ahead ∈ z_all := z_mA10 (List.mem_of_getElem? (i := 53) rfl) rfl
theorem wd_X12_release : Cond.code yX12_release cX12_release 6 (some .int) ∈ z_all ∧ Cond.initialized yX12_release.cls ∈ z_all ∧ 6 ≤ 70 ∧ yX12_release.cls ≠ "java/lang/invoke/MethodHandle" ∧ yX12_release.cls ≠ "java/lang/invoke/VarHandle" := ⟨z_mA10 (List.mem_of_getElem? (i := 61) rfl) rfl, z_in_12, by decide, by decide, by decide⟩
theorem im_X12_release : Cond.instanceMethod yX12_release ∈ z_all := z_mA10 (List.mem_of_getElem? (i := 59) rfl) rfl
theorem se_X12_release : Cond.selects yX12_release.cls yX12_release yX12_release ∈ z_all := z_mA10 (List.mem_of_getElem? (i := 60) rfl) rfl
theorem wd_X12_lacks : Cond.code yX12_lacks cX12_lacks 4 (some .boolean) ∈ z_all ∧ Cond.initialized yX12_lacks.cls ∈ z_all ∧ 4 ≤ 70 ∧ yX12_lacks.cls ≠ "java/lang/invoke/MethodHandle" ∧ yX12_lacks.cls ≠ "java/lang/invoke/VarHandle" := ⟨z_mA10 (List.mem_of_getElem? (i := 69) rfl) rfl, z_in_12, by decide, by decide, by decide⟩
theorem im_X12_lacks : Cond.instanceMethod yX12_lacks ∈ z_all := z_mA10 (List.mem_of_getElem? (i := 68) rfl) rfl
theorem se_X12_lacks : Cond.selects yX12_lacks.cls yX12_lacks yX12_lacks ∈ z_all := z_msel (q := (yX12_lacks, _)) (List.mem_of_getElem? (i := 94) rfl)
theorem wd_X12_volumeAt : Cond.code yX12_volumeAt cX12_volumeAt 10 (some .double) ∈ z_all ∧ Cond.initialized yX12_volumeAt.cls ∈ z_all ∧ 10 ≤ 70 ∧ yX12_volumeAt.cls ≠ "java/lang/invoke/MethodHandle" ∧ yX12_volumeAt.cls ≠ "java/lang/invoke/VarHandle" := ⟨z_mA10 (List.mem_of_getElem? (i := 73) rfl) rfl, z_in_12, by decide, by decide, by decide⟩
theorem im_X12_volumeAt : Cond.instanceMethod yX12_volumeAt ∈ z_all := z_mA10 (List.mem_of_getElem? (i := 72) rfl) rfl
theorem se_X12_volumeAt : Cond.selects yX12_volumeAt.cls yX12_volumeAt yX12_volumeAt ∈ z_all := z_msel (q := (yX12_volumeAt, _)) (List.mem_of_getElem? (i := 95) rfl)
theorem wd_X12_regretOf : Cond.code yX12_regretOf cX12_regretOf 9 (some .double) ∈ z_all ∧ Cond.initialized yX12_regretOf.cls ∈ z_all ∧ 9 ≤ 70 ∧ yX12_regretOf.cls ≠ "java/lang/invoke/MethodHandle" ∧ yX12_regretOf.cls ≠ "java/lang/invoke/VarHandle" := ⟨z_mA10 (List.mem_of_getElem? (i := 81) rfl) rfl, z_in_12, by decide, by decide, by decide⟩
theorem im_X12_regretOf : Cond.instanceMethod yX12_regretOf ∈ z_all := z_mA10 (List.mem_of_getElem? (i := 80) rfl) rfl
theorem se_X12_regretOf : Cond.selects yX12_regretOf.cls yX12_regretOf yX12_regretOf ∈ z_all := z_msel (q := (yX12_regretOf, _)) (List.mem_of_getElem? (i := 96) rfl)
theorem wd_X12_routed : Cond.code yX12_routed cX12_routed 4 (some .long) ∈ z_all ∧ Cond.initialized yX12_routed.cls ∈ z_all ∧ 4 ≤ 70 ∧ yX12_routed.cls ≠ "java/lang/invoke/MethodHandle" ∧ yX12_routed.cls ≠ "java/lang/invoke/VarHandle" := ⟨z_mA10 (List.mem_of_getElem? (i := 65) rfl) rfl, z_in_12, by decide, by decide, by decide⟩
theorem im_X12_routed : Cond.instanceMethod yX12_routed ∈ z_all := z_mA10 (List.mem_of_getElem? (i := 63) rfl) rfl
theorem se_X12_routed : Cond.selects yX12_routed.cls yX12_routed yX12_routed ∈ z_all := z_mA10 (List.mem_of_getElem? (i := 64) rfl) rfl
theorem wd_X12_regret : Cond.code yX12_regret cX12_regret 2 (some .long) ∈ z_all ∧ Cond.initialized yX12_regret.cls ∈ z_all ∧ 2 ≤ 70 ∧ yX12_regret.cls ≠ "java/lang/invoke/MethodHandle" ∧ yX12_regret.cls ≠ "java/lang/invoke/VarHandle" := ⟨z_mA10 (List.mem_of_getElem? (i := 77) rfl) rfl, z_in_12, by decide, by decide, by decide⟩
theorem im_X12_regret : Cond.instanceMethod yX12_regret ∈ z_all := z_mA10 (List.mem_of_getElem? (i := 75) rfl) rfl
theorem se_X12_regret : Cond.selects yX12_regret.cls yX12_regret yX12_regret ∈ z_all := z_mA10 (List.mem_of_getElem? (i := 76) rfl) rfl
theorem wd_X12_chosen : Cond.code yX12_chosen cX12_chosen 7 (some .int) ∈ z_all ∧ Cond.initialized yX12_chosen.cls ∈ z_all ∧ 7 ≤ 70 ∧ yX12_chosen.cls ≠ "java/lang/invoke/MethodHandle" ∧ yX12_chosen.cls ≠ "java/lang/invoke/VarHandle" := ⟨z_mA10 (List.mem_of_getElem? (i := 86) rfl) rfl, z_in_12, by decide, by decide, by decide⟩
theorem im_X12_chosen : Cond.instanceMethod yX12_chosen ∈ z_all := z_mA10 (List.mem_of_getElem? (i := 84) rfl) rfl
theorem se_X12_chosen : Cond.selects yX12_chosen.cls yX12_chosen yX12_chosen ∈ z_all := z_mA10 (List.mem_of_getElem? (i := 85) rfl) rfl
theorem wd_X12_peak : Cond.code yX12_peak cX12_peak 4 (some .int) ∈ z_all ∧ Cond.initialized yX12_peak.cls ∈ z_all ∧ 4 ≤ 70 ∧ yX12_peak.cls ≠ "java/lang/invoke/MethodHandle" ∧ yX12_peak.cls ≠ "java/lang/invoke/VarHandle" := ⟨z_mA10 (List.mem_of_getElem? (i := 90) rfl) rfl, z_in_12, by decide, by decide, by decide⟩
theorem im_X12_peak : Cond.instanceMethod yX12_peak ∈ z_all := z_mA10 (List.mem_of_getElem? (i := 88) rfl) rfl
theorem se_X12_peak : Cond.selects yX12_peak.cls yX12_peak yX12_peak ∈ z_all := z_mA10 (List.mem_of_getElem? (i := 89) rfl) rfl
theorem wd_X12_chance : Cond.code yX12_chance cX12_chance 11 (some .int) ∈ z_all ∧ Cond.initialized yX12_chance.cls ∈ z_all ∧ 11 ≤ 70 ∧ yX12_chance.cls ≠ "java/lang/invoke/MethodHandle" ∧ yX12_chance.cls ≠ "java/lang/invoke/VarHandle" := ⟨z_mA10 (List.mem_of_getElem? (i := 94) rfl) rfl, z_in_12, by decide, by decide, by decide⟩
theorem im_X12_chance : Cond.instanceMethod yX12_chance ∈ z_all := z_mA10 (List.mem_of_getElem? (i := 92) rfl) rfl
theorem se_X12_chance : Cond.selects yX12_chance.cls yX12_chance yX12_chance ∈ z_all := z_mA10 (List.mem_of_getElem? (i := 93) rfl) rfl
theorem wd_X12_sumOf : Cond.code yX12_sumOf cX12_sumOf 4 (some .int) ∈ z_all ∧ Cond.initialized yX12_sumOf.cls ∈ z_all ∧ 4 ≤ 70 ∧ yX12_sumOf.cls ≠ "java/lang/invoke/MethodHandle" ∧ yX12_sumOf.cls ≠ "java/lang/invoke/VarHandle" := ⟨z_mA10 (List.mem_of_getElem? (i := 104) rfl) rfl, z_in_12, by decide, by decide, by decide⟩
theorem im_X12_sumOf : Cond.instanceMethod yX12_sumOf ∈ z_all := z_mA10 (List.mem_of_getElem? (i := 103) rfl) rfl
theorem se_X12_sumOf : Cond.selects yX12_sumOf.cls yX12_sumOf yX12_sumOf ∈ z_all := z_msel (q := (yX12_sumOf, _)) (List.mem_of_getElem? (i := 97) rfl)
theorem wd_X12_book : Cond.code yX12_book cX12_book 5 (some .int) ∈ z_all ∧ Cond.initialized yX12_book.cls ∈ z_all ∧ 5 ≤ 70 ∧ yX12_book.cls ≠ "java/lang/invoke/MethodHandle" ∧ yX12_book.cls ≠ "java/lang/invoke/VarHandle" := ⟨z_mA10 (List.mem_of_getElem? (i := 98) rfl) rfl, z_in_12, by decide, by decide, by decide⟩
theorem im_X12_book : Cond.instanceMethod yX12_book ∈ z_all := z_mA10 (List.mem_of_getElem? (i := 96) rfl) rfl
theorem se_X12_book : Cond.selects yX12_book.cls yX12_book yX12_book ∈ z_all := z_mA10 (List.mem_of_getElem? (i := 97) rfl) rfl
theorem wd_X12_pageByte : Cond.code yX12_pageByte cX12_pageByte 3 (some .int) ∈ z_all ∧ Cond.initialized yX12_pageByte.cls ∈ z_all ∧ 3 ≤ 70 ∧ yX12_pageByte.cls ≠ "java/lang/invoke/MethodHandle" ∧ yX12_pageByte.cls ≠ "java/lang/invoke/VarHandle" := ⟨z_mA10 (List.mem_of_getElem? (i := 109) rfl) rfl, z_in_12, by decide, by decide, by decide⟩
theorem im_X12_pageByte : Cond.instanceMethod yX12_pageByte ∈ z_all := z_mA10 (List.mem_of_getElem? (i := 107) rfl) rfl
theorem se_X12_pageByte : Cond.selects yX12_pageByte.cls yX12_pageByte yX12_pageByte ∈ z_all := z_mA10 (List.mem_of_getElem? (i := 108) rfl) rfl
theorem wd_X12_damage : Cond.code yX12_damage cX12_damage 4 (some .int) ∈ z_all ∧ Cond.initialized yX12_damage.cls ∈ z_all ∧ 4 ≤ 70 ∧ yX12_damage.cls ≠ "java/lang/invoke/MethodHandle" ∧ yX12_damage.cls ≠ "java/lang/invoke/VarHandle" := ⟨z_mA10 (List.mem_of_getElem? (i := 114) rfl) rfl, z_in_12, by decide, by decide, by decide⟩
theorem im_X12_damage : Cond.instanceMethod yX12_damage ∈ z_all := z_mA10 (List.mem_of_getElem? (i := 112) rfl) rfl
theorem se_X12_damage : Cond.selects yX12_damage.cls yX12_damage yX12_damage ∈ z_all := z_mA10 (List.mem_of_getElem? (i := 113) rfl) rfl
theorem wd_X12_tear : Cond.code yX12_tear cX12_tear 4 (some .int) ∈ z_all ∧ Cond.initialized yX12_tear.cls ∈ z_all ∧ 4 ≤ 70 ∧ yX12_tear.cls ≠ "java/lang/invoke/MethodHandle" ∧ yX12_tear.cls ≠ "java/lang/invoke/VarHandle" := ⟨z_mA10 (List.mem_of_getElem? (i := 118) rfl) rfl, z_in_12, by decide, by decide, by decide⟩
theorem im_X12_tear : Cond.instanceMethod yX12_tear ∈ z_all := z_mA10 (List.mem_of_getElem? (i := 116) rfl) rfl
theorem se_X12_tear : Cond.selects yX12_tear.cls yX12_tear yX12_tear ∈ z_all := z_mA10 (List.mem_of_getElem? (i := 117) rfl) rfl
theorem wd_X12_twin : Cond.code yX12_twin cX12_twin 4 (some .int) ∈ z_all ∧ Cond.initialized yX12_twin.cls ∈ z_all ∧ 4 ≤ 70 ∧ yX12_twin.cls ≠ "java/lang/invoke/MethodHandle" ∧ yX12_twin.cls ≠ "java/lang/invoke/VarHandle" := ⟨z_mA10 (List.mem_of_getElem? (i := 123) rfl) rfl, z_in_12, by decide, by decide, by decide⟩
theorem im_X12_twin : Cond.instanceMethod yX12_twin ∈ z_all := z_mA10 (List.mem_of_getElem? (i := 121) rfl) rfl
theorem se_X12_twin : Cond.selects yX12_twin.cls yX12_twin yX12_twin ∈ z_all := z_mA10 (List.mem_of_getElem? (i := 122) rfl) rfl
theorem wd_X12_numberOf : Cond.code yX12_numberOf cX12_numberOf 2 (some .int) ∈ z_all ∧ Cond.initialized yX12_numberOf.cls ∈ z_all ∧ 2 ≤ 70 ∧ yX12_numberOf.cls ≠ "java/lang/invoke/MethodHandle" ∧ yX12_numberOf.cls ≠ "java/lang/invoke/VarHandle" := ⟨z_mA10 (List.mem_of_getElem? (i := 139) rfl) rfl, z_in_12, by decide, by decide, by decide⟩
theorem im_X12_numberOf : Cond.instanceMethod yX12_numberOf ∈ z_all := z_mA10 (List.mem_of_getElem? (i := 138) rfl) rfl
theorem se_X12_numberOf : Cond.selects yX12_numberOf.cls yX12_numberOf yX12_numberOf ∈ z_all := z_msel (q := (yX12_numberOf, _)) (List.mem_of_getElem? (i := 100) rfl)
theorem wd_X12_isWhole : Cond.code yX12_isWhole cX12_isWhole 5 (some .boolean) ∈ z_all ∧ Cond.initialized yX12_isWhole.cls ∈ z_all ∧ 5 ≤ 70 ∧ yX12_isWhole.cls ≠ "java/lang/invoke/MethodHandle" ∧ yX12_isWhole.cls ≠ "java/lang/invoke/VarHandle" := ⟨z_mA10 (List.mem_of_getElem? (i := 135) rfl) rfl, z_in_12, by decide, by decide, by decide⟩
theorem im_X12_isWhole : Cond.instanceMethod yX12_isWhole ∈ z_all := z_mA10 (List.mem_of_getElem? (i := 134) rfl) rfl
theorem se_X12_isWhole : Cond.selects yX12_isWhole.cls yX12_isWhole yX12_isWhole ∈ z_all := z_msel (q := (yX12_isWhole, _)) (List.mem_of_getElem? (i := 99) rfl)
theorem wd_X12_firstOf : Cond.code yX12_firstOf cX12_firstOf 4 (some .int) ∈ z_all ∧ Cond.initialized yX12_firstOf.cls ∈ z_all ∧ 4 ≤ 70 ∧ yX12_firstOf.cls ≠ "java/lang/invoke/MethodHandle" ∧ yX12_firstOf.cls ≠ "java/lang/invoke/VarHandle" := ⟨z_mA10 (List.mem_of_getElem? (i := 143) rfl) rfl, z_in_12, by decide, by decide, by decide⟩
theorem im_X12_firstOf : Cond.instanceMethod yX12_firstOf ∈ z_all := z_mA10 (List.mem_of_getElem? (i := 142) rfl) rfl
theorem se_X12_firstOf : Cond.selects yX12_firstOf.cls yX12_firstOf yX12_firstOf ∈ z_all := z_msel (q := (yX12_firstOf, _)) (List.mem_of_getElem? (i := 101) rfl)
theorem wd_X12_stateOf : Cond.code yX12_stateOf cX12_stateOf 6 (some .int) ∈ z_all ∧ Cond.initialized yX12_stateOf.cls ∈ z_all ∧ 6 ≤ 70 ∧ yX12_stateOf.cls ≠ "java/lang/invoke/MethodHandle" ∧ yX12_stateOf.cls ≠ "java/lang/invoke/VarHandle" := ⟨z_mA10 (List.mem_of_getElem? (i := 131) rfl) rfl, z_in_12, by decide, by decide, by decide⟩
theorem im_X12_stateOf : Cond.instanceMethod yX12_stateOf ∈ z_all := z_mA10 (List.mem_of_getElem? (i := 130) rfl) rfl
theorem se_X12_stateOf : Cond.selects yX12_stateOf.cls yX12_stateOf yX12_stateOf ∈ z_all := z_msel (q := (yX12_stateOf, _)) (List.mem_of_getElem? (i := 98) rfl)
theorem wd_X12_open : Cond.code yX12_open cX12_open 3 (some .int) ∈ z_all ∧ Cond.initialized yX12_open.cls ∈ z_all ∧ 3 ≤ 70 ∧ yX12_open.cls ≠ "java/lang/invoke/MethodHandle" ∧ yX12_open.cls ≠ "java/lang/invoke/VarHandle" := ⟨z_mA10 (List.mem_of_getElem? (i := 127) rfl) rfl, z_in_12, by decide, by decide, by decide⟩
theorem im_X12_open : Cond.instanceMethod yX12_open ∈ z_all := z_mA10 (List.mem_of_getElem? (i := 125) rfl) rfl
theorem se_X12_open : Cond.selects yX12_open.cls yX12_open yX12_open ∈ z_all := z_mA10 (List.mem_of_getElem? (i := 126) rfl) rfl
theorem wd_X12_rowAt : Cond.code yX12_rowAt cX12_rowAt 6 (some .int) ∈ z_all ∧ Cond.initialized yX12_rowAt.cls ∈ z_all ∧ 6 ≤ 70 ∧ yX12_rowAt.cls ≠ "java/lang/invoke/MethodHandle" ∧ yX12_rowAt.cls ≠ "java/lang/invoke/VarHandle" := ⟨z_mA10 (List.mem_of_getElem? (i := 151) rfl) rfl, z_in_12, by decide, by decide, by decide⟩
theorem im_X12_rowAt : Cond.instanceMethod yX12_rowAt ∈ z_all := z_mA10 (List.mem_of_getElem? (i := 150) rfl) rfl
theorem se_X12_rowAt : Cond.selects yX12_rowAt.cls yX12_rowAt yX12_rowAt ∈ z_all := z_msel (q := (yX12_rowAt, _)) (List.mem_of_getElem? (i := 102) rfl)
theorem wd_X12_opened : Cond.code yX12_opened cX12_opened 5 (some .int) ∈ z_all ∧ Cond.initialized yX12_opened.cls ∈ z_all ∧ 5 ≤ 70 ∧ yX12_opened.cls ≠ "java/lang/invoke/MethodHandle" ∧ yX12_opened.cls ≠ "java/lang/invoke/VarHandle" := ⟨z_mA10 (List.mem_of_getElem? (i := 147) rfl) rfl, z_in_12, by decide, by decide, by decide⟩
theorem im_X12_opened : Cond.instanceMethod yX12_opened ∈ z_all := z_mA10 (List.mem_of_getElem? (i := 145) rfl) rfl
theorem se_X12_opened : Cond.selects yX12_opened.cls yX12_opened yX12_opened ∈ z_all := z_mA10 (List.mem_of_getElem? (i := 146) rfl) rfl
theorem wd_X12_lost : Cond.code yX12_lost cX12_lost 7 (some .int) ∈ z_all ∧ Cond.initialized yX12_lost.cls ∈ z_all ∧ 7 ≤ 70 ∧ yX12_lost.cls ≠ "java/lang/invoke/MethodHandle" ∧ yX12_lost.cls ≠ "java/lang/invoke/VarHandle" := ⟨z_mA10 (List.mem_of_getElem? (i := 156) rfl) rfl, z_in_12, by decide, by decide, by decide⟩
theorem im_X12_lost : Cond.instanceMethod yX12_lost ∈ z_all := z_mA10 (List.mem_of_getElem? (i := 154) rfl) rfl
theorem se_X12_lost : Cond.selects yX12_lost.cls yX12_lost yX12_lost ∈ z_all := z_mA10 (List.mem_of_getElem? (i := 155) rfl) rfl
theorem wd_X0_tryPlan : Cond.code yX0_tryPlan cX0_tryPlan 10 (some .long) ∈ z_all ∧ Cond.initialized yX0_tryPlan.cls ∈ z_all ∧ 10 ≤ 70 ∧ yX0_tryPlan.cls ≠ "java/lang/invoke/MethodHandle" ∧ yX0_tryPlan.cls ≠ "java/lang/invoke/VarHandle" := ⟨z_mA4 (List.mem_of_getElem? (i := 176) rfl) rfl, z_in_0, by decide, by decide, by decide⟩
theorem im_X0_tryPlan : Cond.instanceMethod yX0_tryPlan ∈ z_all := z_mA4 (List.mem_of_getElem? (i := 175) rfl) rfl
theorem se_X0_tryPlan : Cond.selects yX0_tryPlan.cls yX0_tryPlan yX0_tryPlan ∈ z_all := z_msel (q := (yX0_tryPlan, _)) (List.mem_of_getElem? (i := 23) rfl)
theorem wd_X0_doStep : Cond.code yX0_doStep cX0_doStep 6 (some .long) ∈ z_all ∧ Cond.initialized yX0_doStep.cls ∈ z_all ∧ 6 ≤ 70 ∧ yX0_doStep.cls ≠ "java/lang/invoke/MethodHandle" ∧ yX0_doStep.cls ≠ "java/lang/invoke/VarHandle" := ⟨z_mA4 (List.mem_of_getElem? (i := 147) rfl) rfl, z_in_0, by decide, by decide, by decide⟩
theorem im_X0_doStep : Cond.instanceMethod yX0_doStep ∈ z_all := z_mA4 (List.mem_of_getElem? (i := 146) rfl) rfl
theorem se_X0_doStep : Cond.selects yX0_doStep.cls yX0_doStep yX0_doStep ∈ z_all := z_msel (q := (yX0_doStep, _)) (List.mem_of_getElem? (i := 18) rfl)
theorem wd_X0_doPlan : Cond.code yX0_doPlan cX0_doPlan 8 (some .long) ∈ z_all ∧ Cond.initialized yX0_doPlan.cls ∈ z_all ∧ 8 ≤ 70 ∧ yX0_doPlan.cls ≠ "java/lang/invoke/MethodHandle" ∧ yX0_doPlan.cls ≠ "java/lang/invoke/VarHandle" := ⟨z_mA4 (List.mem_of_getElem? (i := 139) rfl) rfl, z_in_0, by decide, by decide, by decide⟩
theorem im_X0_doPlan : Cond.instanceMethod yX0_doPlan ∈ z_all := z_mA4 (List.mem_of_getElem? (i := 138) rfl) rfl
theorem se_X0_doPlan : Cond.selects yX0_doPlan.cls yX0_doPlan yX0_doPlan ∈ z_all := z_msel (q := (yX0_doPlan, _)) (List.mem_of_getElem? (i := 17) rfl)
theorem wd_X0_perform : Cond.code yX0_perform cX0_perform 8 (some .long) ∈ z_all ∧ Cond.initialized yX0_perform.cls ∈ z_all ∧ 8 ≤ 70 ∧ yX0_perform.cls ≠ "java/lang/invoke/MethodHandle" ∧ yX0_perform.cls ≠ "java/lang/invoke/VarHandle" := ⟨z_mA4 (List.mem_of_getElem? (i := 135) rfl) rfl, z_in_0, by decide, by decide, by decide⟩
theorem im_X0_perform : Cond.instanceMethod yX0_perform ∈ z_all := z_mA4 (List.mem_of_getElem? (i := 133) rfl) rfl
theorem se_X0_perform : Cond.selects yX0_perform.cls yX0_perform yX0_perform ∈ z_all := z_mA4 (List.mem_of_getElem? (i := 134) rfl) rfl
theorem wd_X11_act : Cond.code yX11_act cX11_act 5 (some .int) ∈ z_all ∧ Cond.initialized yX11_act.cls ∈ z_all ∧ 5 ≤ 70 ∧ yX11_act.cls ≠ "java/lang/invoke/MethodHandle" ∧ yX11_act.cls ≠ "java/lang/invoke/VarHandle" := ⟨z_mA4 (List.mem_of_getElem? (i := 131) rfl) rfl, z_in_11, by decide, by decide, by decide⟩
theorem im_X11_act : Cond.instanceMethod yX11_act ∈ z_all := z_mA4 (List.mem_of_getElem? (i := 129) rfl) rfl
theorem se_X11_act : Cond.selects yX11_act.cls yX11_act yX11_act ∈ z_all := z_mA4 (List.mem_of_getElem? (i := 130) rfl) rfl
theorem lk_15_9 : Cond.methodLink (z_own 15) 9 yX11_init ∈ z_all := z_mA1 (List.mem_of_getElem? (i := 19) rfl) rfl
theorem lk_11_1 : Cond.methodLink (z_own 11) 1 Lib.objectInit ∈ z_all := z_mA1 (List.mem_of_getElem? (i := 22) rfl) rfl
theorem lk_11_48 : (11, 48, yX0_init) ∈ z_nst := List.mem_of_getElem? (i := 0) rfl
theorem lk_0_3 : Cond.methodLink (z_own 0) 3 Lib.objectInit ∈ z_all := z_mA1 (List.mem_of_getElem? (i := 40) rfl) rfl
theorem lk_11_55 : Cond.methodLink (z_own 11) 55 yX6_init ∈ z_all := z_mA1 (List.mem_of_getElem? (i := 97) rfl) rfl
theorem lk_6_3 : Cond.methodLink (z_own 6) 3 Lib.objectInit ∈ z_all := z_mA1 (List.mem_of_getElem? (i := 100) rfl) rfl
theorem lk_6_43 : Cond.methodLink (z_own 6) 43 yX10_init ∈ z_all := z_mA1 (List.mem_of_getElem? (i := 105) rfl) rfl
theorem lk_10_3 : Cond.methodLink (z_own 10) 3 Lib.objectInit ∈ z_all := z_mA1 (List.mem_of_getElem? (i := 108) rfl) rfl
theorem lk_11_62 : (11, 62, yX4_init) ∈ z_nst := List.mem_of_getElem? (i := 1) rfl
theorem lk_4_3 : Cond.methodLink (z_own 4) 3 Lib.objectInit ∈ z_all := z_mA1 (List.mem_of_getElem? (i := 200) rfl) rfl
theorem lk_11_69 : (11, 69, yX5_init) ∈ z_nst := List.mem_of_getElem? (i := 2) rfl
theorem lk_5_3 : Cond.methodLink (z_own 5) 3 Lib.objectInit ∈ z_all := z_mA2 (List.mem_of_getElem? (i := 6) rfl) rfl
theorem lk_11_76 : (11, 76, yX2_init) ∈ z_nst := List.mem_of_getElem? (i := 3) rfl
theorem lk_2_3 : Cond.methodLink (z_own 2) 3 Lib.objectInit ∈ z_all := z_mA2 (List.mem_of_getElem? (i := 29) rfl) rfl
theorem lk_15_13 : Cond.methodLink (z_own 15) 13 yX11_row ∈ z_all := z_mA2 (List.mem_of_getElem? (i := 101) rfl) rfl
theorem lk_11_81 : Cond.methodLink (z_own 11) 81 yX11_outOf ∈ z_all := z_mA2 (List.mem_of_getElem? (i := 105) rfl) rfl
theorem lk_11_91 : Cond.methodLink (z_own 11) 91 yX11_fails ∈ z_all := z_mA2 (List.mem_of_getElem? (i := 110) rfl) rfl
theorem lk_11_212 : Cond.methodLink (z_own 11) 212 yX11_failsWith ∈ z_all := z_mA2 (List.mem_of_getElem? (i := 114) rfl) rfl
theorem lk_11_95 : Cond.methodLink (z_own 11) 95 yX8_init ∈ z_all := z_mA2 (List.mem_of_getElem? (i := 120) rfl) rfl
theorem lk_8_3 : Cond.methodLink (z_own 8) 3 Lib.objectInit ∈ z_all := z_mA2 (List.mem_of_getElem? (i := 123) rfl) rfl
theorem lk_11_98 : Cond.methodLink (z_own 11) 98 yX11_keepRow ∈ z_all := z_mA2 (List.mem_of_getElem? (i := 136) rfl) rfl
theorem lk_11_102 : Cond.methodLink (z_own 11) 102 yX11_passes ∈ z_all := z_mA2 (List.mem_of_getElem? (i := 140) rfl) rfl
theorem lk_15_20 : Cond.methodLink (z_own 15) 20 yX11_put ∈ z_all := z_mA2 (List.mem_of_getElem? (i := 144) rfl) rfl
theorem lk_11_105 : Cond.methodLink (z_own 11) 105 yX11_nameless ∈ z_all := z_mA2 (List.mem_of_getElem? (i := 148) rfl) rfl
theorem lk_11_110 : Cond.methodLink (z_own 11) 110 yX11_cellFailure ∈ z_all := z_mA2 (List.mem_of_getElem? (i := 152) rfl) rfl
theorem lk_11_263 : Cond.methodLink (z_own 11) 263 yX8_hasCell ∈ z_all := z_mA2 (List.mem_of_getElem? (i := 156) rfl) rfl
theorem lk_11_114 : Cond.methodLink (z_own 11) 114 yX8_setWhole ∈ z_all := z_mA2 (List.mem_of_getElem? (i := 160) rfl) rfl
theorem lk_8_33 : Cond.methodLink (z_own 8) 33 yX8_cellOfWhole ∈ z_all := z_mA2 (List.mem_of_getElem? (i := 164) rfl) rfl
theorem lk_8_19 : (8, 19, yX11_bitsOf) ∈ z_nst := List.mem_of_getElem? (i := 4) rfl
theorem lk_15_25 : Cond.methodLink (z_own 15) 25 yX11_putReal ∈ z_all := z_mA2 (List.mem_of_getElem? (i := 176) rfl) rfl
theorem lk_11_125 : Cond.methodLink (z_own 11) 125 yX8_cellOfReal ∈ z_all := z_mA2 (List.mem_of_getElem? (i := 180) rfl) rfl
theorem lk_8_23 : (8, 23, yX11_noNumber) ∈ z_nst := List.mem_of_getElem? (i := 5) rfl
theorem lk_8_29 : (8, 29, yX11_realOf) ∈ z_nst := List.mem_of_getElem? (i := 6) rfl
theorem lk_11_405 : Cond.methodLink (z_own 11) 405 yX11_noNumber ∈ z_all := z_mA2 (List.mem_of_getElem? (i := 191) rfl) rfl
theorem lk_11_549 : Cond.methodLink (z_own 11) 549 yJ9_max_7cf53 ∈ z_all := z_mA2 (List.mem_of_getElem? (i := 194) rfl) rfl
theorem lk_11_554 : Cond.methodLink (z_own 11) 554 yX11_scaled ∈ z_all := z_mA2 (List.mem_of_getElem? (i := 197) rfl) rfl
theorem lk_15_29 : Cond.methodLink (z_own 15) 29 yX11_get ∈ z_all := z_mA2 (List.mem_of_getElem? (i := 200) rfl) rfl
theorem lk_11_131 : Cond.methodLink (z_own 11) 131 yX8_wholeAt ∈ z_all := z_mA2 (List.mem_of_getElem? (i := 205) rfl) rfl
theorem lk_8_37 : Cond.methodLink (z_own 8) 37 yX8_wholeOfCell ∈ z_all := z_mA2 (List.mem_of_getElem? (i := 209) rfl) rfl
theorem lk_11_135 : Cond.methodLink (z_own 11) 135 yX11_passesLong ∈ z_all := z_mA2 (List.mem_of_getElem? (i := 212) rfl) rfl
theorem lk_15_34 : Cond.methodLink (z_own 15) 34 yX11_getReal ∈ z_all := z_mA2 (List.mem_of_getElem? (i := 216) rfl) rfl
theorem lk_11_139 : Cond.methodLink (z_own 11) 139 yX8_realAt ∈ z_all := z_mA2 (List.mem_of_getElem? (i := 220) rfl) rfl
theorem lk_8_40 : Cond.methodLink (z_own 8) 40 yX8_isOfReals ∈ z_all := z_mA2 (List.mem_of_getElem? (i := 224) rfl) rfl
theorem lk_15_38 : Cond.methodLink (z_own 15) 38 yX11_raise ∈ z_all := z_mA2 (List.mem_of_getElem? (i := 228) rfl) rfl
theorem lk_11_142 : Cond.methodLink (z_own 11) 142 yX8_cellMore ∈ z_all := z_mA2 (List.mem_of_getElem? (i := 232) rfl) rfl
theorem lk_15_43 : Cond.methodLink (z_own 15) 43 yX11_join ∈ z_all := z_mA2 (List.mem_of_getElem? (i := 235) rfl) rfl
theorem lk_11_146 : Cond.methodLink (z_own 11) 146 arraycopyName ∈ z_all := z_mA2 (List.mem_of_getElem? (i := 239) rfl) rfl
theorem lk_15_47 : Cond.methodLink (z_own 15) 47 yX11_shift ∈ z_all := z_mA3 (List.mem_of_getElem? (i := 2) rfl) rfl
theorem lk_11_152 : Cond.methodLink (z_own 11) 152 yX11_fits ∈ z_all := z_mA3 (List.mem_of_getElem? (i := 6) rfl) rfl
theorem lk_15_52 : Cond.methodLink (z_own 15) 52 yX11_like ∈ z_all := z_mA3 (List.mem_of_getElem? (i := 9) rfl) rfl
theorem lk_11_155 : Cond.methodLink (z_own 11) 155 yX8_isLike ∈ z_all := z_mA3 (List.mem_of_getElem? (i := 13) rfl) rfl
theorem lk_15_56 : Cond.methodLink (z_own 15) 56 yX11_count ∈ z_all := z_mA3 (List.mem_of_getElem? (i := 17) rfl) rfl
theorem lk_11_159 : Cond.methodLink (z_own 11) 159 yX8_notZero ∈ z_all := z_mA3 (List.mem_of_getElem? (i := 21) rfl) rfl
theorem lk_8_44 : Cond.methodLink (z_own 8) 44 yX8_wholeAt ∈ z_all := z_mA3 (List.mem_of_getElem? (i := 25) rfl) rfl
theorem lk_15_60 : Cond.methodLink (z_own 15) 60 yX11_find ∈ z_all := z_mA3 (List.mem_of_getElem? (i := 26) rfl) rfl
theorem lk_11_163 : Cond.methodLink (z_own 11) 163 yX8_lastOf ∈ z_all := z_mA3 (List.mem_of_getElem? (i := 30) rfl) rfl
theorem lk_15_65 : Cond.methodLink (z_own 15) 65 yX11_mean ∈ z_all := z_mA3 (List.mem_of_getElem? (i := 34) rfl) rfl
theorem lk_11_167 : Cond.methodLink (z_own 11) 167 yX8_wholesTogether ∈ z_all := z_mA3 (List.mem_of_getElem? (i := 38) rfl) rfl
theorem lk_15_70 : Cond.methodLink (z_own 15) 70 yX11_bed ∈ z_all := z_mA3 (List.mem_of_getElem? (i := 42) rfl) rfl
theorem lk_11_174 : Cond.methodLink (z_own 11) 174 yX1_init ∈ z_all := z_mA3 (List.mem_of_getElem? (i := 47) rfl) rfl
theorem lk_1_3 : Cond.methodLink (z_own 1) 3 Lib.objectInit ∈ z_all := z_mA3 (List.mem_of_getElem? (i := 50) rfl) rfl
theorem lk_11_175 : Cond.methodLink (z_own 11) 175 yX1_fill ∈ z_all := z_mA3 (List.mem_of_getElem? (i := 61) rfl) rfl
theorem lk_1_21 : Cond.methodLink (z_own 1) 21 yX8_init ∈ z_all := z_mA3 (List.mem_of_getElem? (i := 65) rfl) rfl
theorem lk_15_75 : Cond.methodLink (z_own 15) 75 yX11_lay ∈ z_all := z_mA3 (List.mem_of_getElem? (i := 66) rfl) rfl
theorem lk_15_79 : Cond.methodLink (z_own 15) 79 yX11_spot ∈ z_all := z_mA3 (List.mem_of_getElem? (i := 70) rfl) rfl
theorem lk_11_183 : Cond.methodLink (z_own 11) 183 yX1_spotFailure ∈ z_all := z_mA3 (List.mem_of_getElem? (i := 74) rfl) rfl
theorem lk_1_24 : Cond.methodLink (z_own 1) 24 yX8_hasCell ∈ z_all := z_mA3 (List.mem_of_getElem? (i := 78) rfl) rfl
theorem lk_15_84 : Cond.methodLink (z_own 15) 84 yX11_setSpot ∈ z_all := z_mA3 (List.mem_of_getElem? (i := 79) rfl) rfl
theorem lk_15_89 : Cond.methodLink (z_own 15) 89 yX11_bare ∈ z_all := z_mA3 (List.mem_of_getElem? (i := 83) rfl) rfl
theorem lk_11_186 : Cond.methodLink (z_own 11) 186 yX1_bareStrip ∈ z_all := z_mA3 (List.mem_of_getElem? (i := 87) rfl) rfl
theorem lk_15_93 : Cond.methodLink (z_own 15) 93 yX11_thing ∈ z_all := z_mA3 (List.mem_of_getElem? (i := 91) rfl) rfl
theorem lk_11_192 : Cond.methodLink (z_own 11) 192 yX9_init ∈ z_all := z_mA3 (List.mem_of_getElem? (i := 96) rfl) rfl
theorem lk_9_1 : Cond.methodLink (z_own 9) 1 Lib.objectInit ∈ z_all := z_mA3 (List.mem_of_getElem? (i := 99) rfl) rfl
theorem lk_15_97 : Cond.methodLink (z_own 15) 97 yX11_says ∈ z_all := z_mA3 (List.mem_of_getElem? (i := 107) rfl) rfl
theorem lk_11_193 : Cond.methodLink (z_own 11) 193 yX11_told ∈ z_all := z_mA3 (List.mem_of_getElem? (i := 111) rfl) rfl
theorem lk_11_517 : Cond.methodLink (z_own 11) 517 yX9_canTell ∈ z_all := z_mA3 (List.mem_of_getElem? (i := 115) rfl) rfl
theorem lk_9_16 : Cond.methodLink (z_own 9) 16 yX9_isFor ∈ z_all := z_mA3 (List.mem_of_getElem? (i := 119) rfl) rfl
theorem lk_11_520 : Cond.methodLink (z_own 11) 520 yX9_tell ∈ z_all := z_mA3 (List.mem_of_getElem? (i := 123) rfl) rfl
theorem lk_9_20 : Cond.methodLink (z_own 9) 20 yX9_sign ∈ z_all := z_mA3 (List.mem_of_getElem? (i := 127) rfl) rfl
theorem lk_9_24 : Cond.methodLink (z_own 9) 24 yX9_weight ∈ z_all := z_mA3 (List.mem_of_getElem? (i := 133) rfl) rfl
theorem lk_15_101 : Cond.methodLink (z_own 15) 101 yX11_rack ∈ z_all := z_mA3 (List.mem_of_getElem? (i := 137) rfl) rfl
theorem lk_11_199 : Cond.methodLink (z_own 11) 199 yX7_init ∈ z_all := z_mA3 (List.mem_of_getElem? (i := 142) rfl) rfl
theorem lk_7_3 : Cond.methodLink (z_own 7) 3 Lib.objectInit ∈ z_all := z_mA3 (List.mem_of_getElem? (i := 145) rfl) rfl
theorem lk_15_105 : Cond.methodLink (z_own 15) 105 yX11_hang ∈ z_all := z_mA3 (List.mem_of_getElem? (i := 155) rfl) rfl
theorem lk_11_200 : Cond.methodLink (z_own 11) 200 yX11_placeFailure ∈ z_all := z_mA3 (List.mem_of_getElem? (i := 159) rfl) rfl
theorem lk_11_206 : Cond.methodLink (z_own 11) 206 yX11_mayHang ∈ z_all := z_mA3 (List.mem_of_getElem? (i := 163) rfl) rfl
theorem lk_11_514 : Cond.methodLink (z_own 11) 514 yX9_isFor ∈ z_all := z_mA3 (List.mem_of_getElem? (i := 167) rfl) rfl
theorem lk_15_109 : Cond.methodLink (z_own 15) 109 yX11_down ∈ z_all := z_mA3 (List.mem_of_getElem? (i := 168) rfl) rfl
theorem lk_15_113 : Cond.methodLink (z_own 15) 113 yX11_hung ∈ z_all := z_mA3 (List.mem_of_getElem? (i := 172) rfl) rfl
theorem lk_15_117 : Cond.methodLink (z_own 15) 117 yX11_asked ∈ z_all := z_mA3 (List.mem_of_getElem? (i := 176) rfl) rfl
theorem lk_15_121 : Cond.methodLink (z_own 15) 121 yX11_haul ∈ z_all := z_mA3 (List.mem_of_getElem? (i := 180) rfl) rfl
theorem lk_15_125 : Cond.methodLink (z_own 15) 125 yX11_box ∈ z_all := z_mA3 (List.mem_of_getElem? (i := 184) rfl) rfl
theorem lk_11_215 : Cond.methodLink (z_own 11) 215 yX11_boxable ∈ z_all := z_mA3 (List.mem_of_getElem? (i := 188) rfl) rfl
theorem lk_15_129 : Cond.methodLink (z_own 15) 129 yX11_isA ∈ z_all := z_mA3 (List.mem_of_getElem? (i := 192) rfl) rfl
theorem lk_11_218 : Cond.methodLink (z_own 11) 218 yX11_boxIs ∈ z_all := z_mA3 (List.mem_of_getElem? (i := 196) rfl) rfl
theorem lk_11_523 : Cond.methodLink (z_own 11) 523 yX7_isForReads ∈ z_all := z_mA3 (List.mem_of_getElem? (i := 200) rfl) rfl
theorem lk_7_21 : Cond.methodLink (z_own 7) 21 yX7_isForFloat ∈ z_all := z_mA3 (List.mem_of_getElem? (i := 204) rfl) rfl
theorem lk_11_526 : Cond.methodLink (z_own 11) 526 yX7_isForFloat ∈ z_all := z_mA3 (List.mem_of_getElem? (i := 208) rfl) rfl
theorem lk_15_133 : Cond.methodLink (z_own 15) 133 yX11_taken ∈ z_all := z_mA3 (List.mem_of_getElem? (i := 209) rfl) rfl
theorem lk_11_221 : Cond.methodLink (z_own 11) 221 yX11_boxLength ∈ z_all := z_mA3 (List.mem_of_getElem? (i := 213) rfl) rfl
theorem lk_15_137 : Cond.methodLink (z_own 15) 137 yX11_used ∈ z_all := z_mA3 (List.mem_of_getElem? (i := 217) rfl) rfl
theorem lk_11_224 : Cond.methodLink (z_own 11) 224 yX9_weight ∈ z_all := z_mA3 (List.mem_of_getElem? (i := 221) rfl) rfl
theorem lk_15_142 : Cond.methodLink (z_own 15) 142 yX11_card ∈ z_all := z_mA3 (List.mem_of_getElem? (i := 222) rfl) rfl
theorem lk_11_230 : (11, 230, yX3_init) ∈ z_nst := List.mem_of_getElem? (i := 7) rfl
theorem lk_3_3 : Cond.methodLink (z_own 3) 3 Lib.objectInit ∈ z_all := z_mA3 (List.mem_of_getElem? (i := 230) rfl) rfl
theorem lk_11_231 : Cond.methodLink (z_own 11) 231 yX11_keepCard ∈ z_all := z_mA4 (List.mem_of_getElem? (i := 4) rfl) rfl
theorem lk_15_147 : Cond.methodLink (z_own 15) 147 yX11_field ∈ z_all := z_mA4 (List.mem_of_getElem? (i := 8) rfl) rfl
theorem lk_11_241 : Cond.methodLink (z_own 11) 241 yX8_cellOfWhole ∈ z_all := z_mA4 (List.mem_of_getElem? (i := 14) rfl) rfl
theorem lk_15_151 : Cond.methodLink (z_own 15) 151 yX11_fieldOf ∈ z_all := z_mA4 (List.mem_of_getElem? (i := 15) rfl) rfl
theorem lk_11_246 : Cond.methodLink (z_own 11) 246 yX3_wholeAt ∈ z_all := z_mA4 (List.mem_of_getElem? (i := 20) rfl) rfl
theorem lk_3_26 : Cond.methodLink (z_own 3) 26 yX8_wholeOfCell ∈ z_all := z_mA4 (List.mem_of_getElem? (i := 25) rfl) rfl
theorem lk_15_155 : Cond.methodLink (z_own 15) 155 yX11_raiseField ∈ z_all := z_mA4 (List.mem_of_getElem? (i := 26) rfl) rfl
theorem lk_15_159 : Cond.methodLink (z_own 15) 159 yX11_link ∈ z_all := z_mA4 (List.mem_of_getElem? (i := 30) rfl) rfl
theorem lk_15_163 : Cond.methodLink (z_own 15) 163 yX11_along ∈ z_all := z_mA4 (List.mem_of_getElem? (i := 34) rfl) rfl
theorem lk_15_167 : Cond.methodLink (z_own 15) 167 yX11_ring ∈ z_all := z_mA4 (List.mem_of_getElem? (i := 38) rfl) rfl
theorem lk_15_171 : Cond.methodLink (z_own 15) 171 yX11_cardAsk ∈ z_all := z_mA4 (List.mem_of_getElem? (i := 42) rfl) rfl
theorem lk_15_175 : Cond.methodLink (z_own 15) 175 yX11_copy ∈ z_all := z_mA4 (List.mem_of_getElem? (i := 46) rfl) rfl
theorem lk_15_179 : Cond.methodLink (z_own 15) 179 yX11_flow ∈ z_all := z_mA4 (List.mem_of_getElem? (i := 50) rfl) rfl
theorem lk_11_253 : Cond.methodLink (z_own 11) 253 yX8_isOfReals ∈ z_all := z_mA4 (List.mem_of_getElem? (i := 54) rfl) rfl
theorem lk_11_259 : Cond.methodLink (z_own 11) 259 yX8_flowOf ∈ z_all := z_mA4 (List.mem_of_getElem? (i := 56) rfl) rfl
theorem lk_8_48 : Cond.methodLink (z_own 8) 48 yX8_numberCount ∈ z_all := z_mA4 (List.mem_of_getElem? (i := 60) rfl) rfl
theorem lk_8_52 : Cond.methodLink (z_own 8) 52 yX8_meanOfNumbers ∈ z_all := z_mA4 (List.mem_of_getElem? (i := 64) rfl) rfl
theorem lk_8_55 : Cond.methodLink (z_own 8) 55 yX8_middleOfNumbers ∈ z_all := z_mA4 (List.mem_of_getElem? (i := 71) rfl) rfl
theorem lk_8_74 : Cond.methodLink (z_own 8) 74 yX8_strictRank ∈ z_all := z_mA4 (List.mem_of_getElem? (i := 75) rfl) rfl
theorem lk_8_58 : Cond.methodLink (z_own 8) 58 yX8_outermost ∈ z_all := z_mA4 (List.mem_of_getElem? (i := 79) rfl) rfl
theorem lk_8_62 : (8, 62, yX11_rankOf) ∈ z_nst := List.mem_of_getElem? (i := 8) rfl
theorem lk_15_183 : Cond.methodLink (z_own 15) 183 yX11_test ∈ z_all := z_mA4 (List.mem_of_getElem? (i := 86) rfl) rfl
theorem lk_11_267 : Cond.methodLink (z_own 11) 267 yX11_holds ∈ z_all := z_mA4 (List.mem_of_getElem? (i := 91) rfl) rfl
theorem lk_11_529 : Cond.methodLink (z_own 11) 529 yX11_rankOf ∈ z_all := z_mA4 (List.mem_of_getElem? (i := 94) rfl) rfl
theorem lk_15_188 : Cond.methodLink (z_own 15) 188 yX11_quotient ∈ z_all := z_mA4 (List.mem_of_getElem? (i := 95) rfl) rfl
theorem lk_11_271 : Cond.methodLink (z_own 11) 271 yX11_sumHeld ∈ z_all := z_mA4 (List.mem_of_getElem? (i := 99) rfl) rfl
theorem lk_11_532 : Cond.methodLink (z_own 11) 532 yX11_boundBy ∈ z_all := z_mA4 (List.mem_of_getElem? (i := 102) rfl) rfl
theorem lk_11_275 : Cond.methodLink (z_own 11) 275 yX11_differenceHeld ∈ z_all := z_mA4 (List.mem_of_getElem? (i := 105) rfl) rfl
theorem lk_15_193 : Cond.methodLink (z_own 15) 193 yX11_step ∈ z_all := z_mA4 (List.mem_of_getElem? (i := 108) rfl) rfl
theorem lk_11_278 : Cond.methodLink (z_own 11) 278 yX0_isStep ∈ z_all := z_mA4 (List.mem_of_getElem? (i := 112) rfl) rfl
theorem lk_0_38 : (0, 38, yX11_outOf) ∈ z_nst := List.mem_of_getElem? (i := 9) rfl
theorem lk_11_285 : Cond.methodLink (z_own 11) 285 yX0_keepStep ∈ z_all := z_mA4 (List.mem_of_getElem? (i := 117) rfl) rfl
theorem lk_0_42 : Cond.methodLink (z_own 0) 42 yX0_stepAt ∈ z_all := z_mA4 (List.mem_of_getElem? (i := 121) rfl) rfl
theorem lk_15_198 : Cond.methodLink (z_own 15) 198 yX11_wipe ∈ z_all := z_mA4 (List.mem_of_getElem? (i := 124) rfl) rfl
theorem lk_15_202 : Cond.methodLink (z_own 15) 202 yX11_act ∈ z_all := z_mA4 (List.mem_of_getElem? (i := 128) rfl) rfl
theorem lk_11_289 : Cond.methodLink (z_own 11) 289 yX0_perform ∈ z_all := z_mA4 (List.mem_of_getElem? (i := 132) rfl) rfl
theorem lk_0_62 : Cond.methodLink (z_own 0) 62 yX0_doPlan ∈ z_all := z_mA4 (List.mem_of_getElem? (i := 136) rfl) rfl
theorem lk_0_84 : Cond.methodLink (z_own 0) 84 yX0_outcomeOf ∈ z_all := z_mA4 (List.mem_of_getElem? (i := 140) rfl) rfl
theorem lk_0_88 : Cond.methodLink (z_own 0) 88 yX0_doStep ∈ z_all := z_mA4 (List.mem_of_getElem? (i := 144) rfl) rfl
theorem lk_0_95 : Cond.methodLink (z_own 0) 95 yX0_putCell ∈ z_all := z_mA4 (List.mem_of_getElem? (i := 148) rfl) rfl
theorem lk_0_116 : Cond.methodLink (z_own 0) 116 yX8_hasCell ∈ z_all := z_mA4 (List.mem_of_getElem? (i := 152) rfl) rfl
theorem lk_0_123 : Cond.methodLink (z_own 0) 123 yX8_cellOfWhole ∈ z_all := z_mA4 (List.mem_of_getElem? (i := 153) rfl) rfl
theorem lk_0_99 : Cond.methodLink (z_own 0) 99 yX0_takeLitres ∈ z_all := z_mA4 (List.mem_of_getElem? (i := 154) rfl) rfl
theorem lk_0_103 : Cond.methodLink (z_own 0) 103 yX0_turnGate ∈ z_all := z_mA4 (List.mem_of_getElem? (i := 158) rfl) rfl
theorem lk_0_129 : Cond.methodLink (z_own 0) 129 yJ9_min_f86c9 ∈ z_all := z_mA4 (List.mem_of_getElem? (i := 163) rfl) rfl
theorem lk_0_135 : Cond.methodLink (z_own 0) 135 yJ9_max_f86c9 ∈ z_all := z_mA4 (List.mem_of_getElem? (i := 166) rfl) rfl
theorem lk_0_106 : Cond.methodLink (z_own 0) 106 yX0_keepSignal ∈ z_all := z_mA4 (List.mem_of_getElem? (i := 169) rfl) rfl
theorem lk_0_110 : Cond.methodLink (z_own 0) 110 yX0_tryPlan ∈ z_all := z_mA4 (List.mem_of_getElem? (i := 173) rfl) rfl
theorem lk_0_66 : Cond.methodLink (z_own 0) 66 yX0_wayOf ∈ z_all := z_mA4 (List.mem_of_getElem? (i := 177) rfl) rfl
theorem lk_0_143 : Cond.methodLink (z_own 0) 143 yX0_isCaught ∈ z_all := z_mA4 (List.mem_of_getElem? (i := 180) rfl) rfl
theorem lk_0_113 : Cond.methodLink (z_own 0) 113 yX0_sumInto ∈ z_all := z_mA4 (List.mem_of_getElem? (i := 183) rfl) rfl
theorem lk_0_91 : Cond.methodLink (z_own 0) 91 yX0_letGo ∈ z_all := z_mA4 (List.mem_of_getElem? (i := 188) rfl) rfl
theorem lk_0_70 : Cond.methodLink (z_own 0) 70 yX0_loadOf ∈ z_all := z_mA4 (List.mem_of_getElem? (i := 192) rfl) rfl
theorem lk_0_76 : Cond.methodLink (z_own 0) 76 yX0_undoCells ∈ z_all := z_mA4 (List.mem_of_getElem? (i := 195) rfl) rfl
theorem lk_11_293 : Cond.methodLink (z_own 11) 293 yX0_wayOf ∈ z_all := z_mA4 (List.mem_of_getElem? (i := 199) rfl) rfl
theorem lk_11_296 : Cond.methodLink (z_own 11) 296 yX0_loadOf ∈ z_all := z_mA4 (List.mem_of_getElem? (i := 200) rfl) rfl
theorem lk_15_206 : Cond.methodLink (z_own 15) 206 yX11_raised ∈ z_all := z_mA4 (List.mem_of_getElem? (i := 201) rfl) rfl
theorem lk_15_210 : Cond.methodLink (z_own 15) 210 yX11_stock ∈ z_all := z_mA4 (List.mem_of_getElem? (i := 205) rfl) rfl
theorem lk_15_215 : Cond.methodLink (z_own 15) 215 yX11_gate ∈ z_all := z_mA4 (List.mem_of_getElem? (i := 210) rfl) rfl
theorem lk_15_219 : Cond.methodLink (z_own 15) 219 yX11_signal ∈ z_all := z_mA4 (List.mem_of_getElem? (i := 214) rfl) rfl
theorem lk_15_223 : Cond.methodLink (z_own 15) 223 yX11_table ∈ z_all := z_mA4 (List.mem_of_getElem? (i := 218) rfl) rfl
theorem lk_11_332 : Cond.methodLink (z_own 11) 332 yX6_unitsAt ∈ z_all := z_mA4 (List.mem_of_getElem? (i := 222) rfl) rfl
theorem lk_15_227 : Cond.methodLink (z_own 15) 227 yX11_turned ∈ z_all := z_mA4 (List.mem_of_getElem? (i := 225) rfl) rfl
theorem lk_11_335 : Cond.methodLink (z_own 11) 335 yX11_within ∈ z_all := z_mA4 (List.mem_of_getElem? (i := 229) rfl) rfl
theorem lk_11_339 : Cond.methodLink (z_own 11) 339 yX11_realOf ∈ z_all := z_mA4 (List.mem_of_getElem? (i := 232) rfl) rfl
theorem lk_11_343 : Cond.methodLink (z_own 11) 343 yX6_levelOf ∈ z_all := z_mA4 (List.mem_of_getElem? (i := 233) rfl) rfl
theorem lk_6_50 : Cond.methodLink (z_own 6) 50 yX6_unitsAt ∈ z_all := z_mA4 (List.mem_of_getElem? (i := 236) rfl) rfl
theorem lk_11_347 : Cond.methodLink (z_own 11) 347 yX11_bitsOf ∈ z_all := z_mA4 (List.mem_of_getElem? (i := 237) rfl) rfl
theorem lk_15_231 : Cond.methodLink (z_own 15) 231 yX11_reading ∈ z_all := z_mA4 (List.mem_of_getElem? (i := 238) rfl) rfl
theorem lk_11_355 : Cond.methodLink (z_own 11) 355 yX11_noneOrWithin ∈ z_all := z_mA5 (List.mem_of_getElem? (i := 4) rfl) rfl
theorem lk_11_366 : Cond.methodLink (z_own 11) 366 yX11_oneNoNumber ∈ z_all := z_mA5 (List.mem_of_getElem? (i := 7) rfl) rfl
theorem lk_15_235 : Cond.methodLink (z_own 15) 235 yX11_word ∈ z_all := z_mA5 (List.mem_of_getElem? (i := 11) rfl) rfl
theorem lk_15_240 : Cond.methodLink (z_own 15) 240 yX11_stuck ∈ z_all := z_mA5 (List.mem_of_getElem? (i := 16) rfl) rfl
theorem lk_15_245 : Cond.methodLink (z_own 15) 245 yX11_hand ∈ z_all := z_mA5 (List.mem_of_getElem? (i := 20) rfl) rfl
theorem lk_15_249 : Cond.methodLink (z_own 15) 249 yX11_rate ∈ z_all := z_mA5 (List.mem_of_getElem? (i := 24) rfl) rfl
theorem lk_15_253 : Cond.methodLink (z_own 15) 253 yX11_run ∈ z_all := z_mA5 (List.mem_of_getElem? (i := 28) rfl) rfl
theorem lk_11_389 : Cond.methodLink (z_own 11) 389 yX6_takeStep ∈ z_all := z_mA5 (List.mem_of_getElem? (i := 34) rfl) rfl
theorem lk_6_58 : Cond.methodLink (z_own 6) 58 yX6_fall ∈ z_all := z_mA5 (List.mem_of_getElem? (i := 38) rfl) rfl
theorem lk_6_70 : Cond.methodLink (z_own 6) 70 yX6_levelOf ∈ z_all := z_mA5 (List.mem_of_getElem? (i := 44) rfl) rfl
theorem lk_6_74 : Cond.methodLink (z_own 6) 74 yX6_listen ∈ z_all := z_mA5 (List.mem_of_getElem? (i := 45) rfl) rfl
theorem lk_6_101 : Cond.methodLink (z_own 6) 101 yX10_hear ∈ z_all := z_mA5 (List.mem_of_getElem? (i := 49) rfl) rfl
theorem lk_10_34 : Cond.methodLink (z_own 10) 34 yX10_takeIn ∈ z_all := z_mA5 (List.mem_of_getElem? (i := 53) rfl) rfl
theorem lk_10_38 : Cond.methodLink (z_own 10) 38 yX10_isFar ∈ z_all := z_mA5 (List.mem_of_getElem? (i := 57) rfl) rfl
theorem lk_10_50 : (10, 50, yX11_noNumber) ∈ z_nst := List.mem_of_getElem? (i := 10) rfl
theorem lk_10_54 : (10, 54, yX11_realOf) ∈ z_nst := List.mem_of_getElem? (i := 11) rfl
theorem lk_10_42 : Cond.methodLink (z_own 10) 42 yX10_fateOf ∈ z_all := z_mA5 (List.mem_of_getElem? (i := 63) rfl) rfl
theorem lk_10_60 : Cond.methodLink (z_own 10) 60 yX10_isStill ∈ z_all := z_mA5 (List.mem_of_getElem? (i := 67) rfl) rfl
theorem lk_10_64 : Cond.methodLink (z_own 10) 64 yX10_othersStir ∈ z_all := z_mA5 (List.mem_of_getElem? (i := 71) rfl) rfl
theorem lk_10_68 : Cond.methodLink (z_own 10) 68 yX10_stirs ∈ z_all := z_mA5 (List.mem_of_getElem? (i := 75) rfl) rfl
theorem lk_10_46 : Cond.methodLink (z_own 10) 46 yX10_insert ∈ z_all := z_mA5 (List.mem_of_getElem? (i := 79) rfl) rfl
theorem lk_10_71 : (10, 71, yX11_rankOf) ∈ z_nst := List.mem_of_getElem? (i := 12) rfl
theorem lk_6_105 : (6, 105, yX11_noNumber) ∈ z_nst := List.mem_of_getElem? (i := 13) rfl
theorem lk_6_109 : (6, 109, yX11_realOf) ∈ z_nst := List.mem_of_getElem? (i := 14) rfl
theorem lk_6_78 : Cond.methodLink (z_own 6) 78 yX6_orderGates ∈ z_all := z_mA5 (List.mem_of_getElem? (i := 86) rfl) rfl
theorem lk_6_86 : Cond.methodLink (z_own 6) 86 yX4_wishAt ∈ z_all := z_mA5 (List.mem_of_getElem? (i := 90) rfl) rfl
theorem lk_4_48 : Cond.methodLink (z_own 4) 48 yX4_firstRule ∈ z_all := z_mA5 (List.mem_of_getElem? (i := 94) rfl) rfl
theorem lk_6_90 : Cond.methodLink (z_own 6) 90 yX6_steer ∈ z_all := z_mA5 (List.mem_of_getElem? (i := 98) rfl) rfl
theorem lk_6_118 : (6, 118, yX11_root) ∈ z_nst := List.mem_of_getElem? (i := 15) rfl
theorem lk_11_568 : Cond.methodLink (z_own 11) 568 yX11_rootDigits ∈ z_all := z_mA5 (List.mem_of_getElem? (i := 108) rfl) rfl
theorem lk_6_121 : Cond.methodLink (z_own 6) 121 yX6_steered ∈ z_all := z_mA5 (List.mem_of_getElem? (i := 112) rfl) rfl
theorem lk_6_129 : Cond.methodLink (z_own 6) 129 yX6_targetFor ∈ z_all := z_mA5 (List.mem_of_getElem? (i := 116) rfl) rfl
theorem lk_6_125 : (6, 125, yX11_bitsOf) ∈ z_nst := List.mem_of_getElem? (i := 16) rfl
theorem lk_6_93 : Cond.methodLink (z_own 6) 93 yX6_letOut ∈ z_all := z_mA5 (List.mem_of_getElem? (i := 122) rfl) rfl
theorem lk_15_258 : Cond.methodLink (z_own 15) 258 yX11_lake ∈ z_all := z_mA5 (List.mem_of_getElem? (i := 128) rfl) rfl
theorem lk_11_396 : Cond.methodLink (z_own 11) 396 yX6_bitsAbout ∈ z_all := z_mA5 (List.mem_of_getElem? (i := 132) rfl) rfl
theorem lk_15_262 : Cond.methodLink (z_own 15) 262 yX11_heard ∈ z_all := z_mA5 (List.mem_of_getElem? (i := 136) rfl) rfl
theorem lk_15_266 : Cond.methodLink (z_own 15) 266 yX11_moved ∈ z_all := z_mA5 (List.mem_of_getElem? (i := 140) rfl) rfl
theorem lk_15_270 : Cond.methodLink (z_own 15) 270 yX11_about ∈ z_all := z_mA5 (List.mem_of_getElem? (i := 144) rfl) rfl
theorem lk_15_274 : Cond.methodLink (z_own 15) 274 yX11_rule ∈ z_all := z_mA5 (List.mem_of_getElem? (i := 148) rfl) rfl
theorem lk_11_421 : Cond.methodLink (z_own 11) 421 yX4_keepRule ∈ z_all := z_mA5 (List.mem_of_getElem? (i := 152) rfl) rfl
theorem lk_15_279 : Cond.methodLink (z_own 15) 279 yX11_ruleAt ∈ z_all := z_mA5 (List.mem_of_getElem? (i := 156) rfl) rfl
theorem lk_11_425 : Cond.methodLink (z_own 11) 425 yX4_firstRule ∈ z_all := z_mA5 (List.mem_of_getElem? (i := 160) rfl) rfl
theorem lk_15_283 : Cond.methodLink (z_own 15) 283 yX11_right ∈ z_all := z_mA5 (List.mem_of_getElem? (i := 161) rfl) rfl
theorem lk_11_431 : Cond.methodLink (z_own 11) 431 yX4_keepRight ∈ z_all := z_mA5 (List.mem_of_getElem? (i := 166) rfl) rfl
theorem lk_15_287 : Cond.methodLink (z_own 15) 287 yX11_part ∈ z_all := z_mA5 (List.mem_of_getElem? (i := 170) rfl) rfl
theorem lk_11_435 : Cond.methodLink (z_own 11) 435 yX4_leftOfParting ∈ z_all := z_mA5 (List.mem_of_getElem? (i := 174) rfl) rfl
theorem lk_4_55 : Cond.methodLink (z_own 4) 55 yX4_nextRank ∈ z_all := z_mA5 (List.mem_of_getElem? (i := 178) rfl) rfl
theorem lk_4_59 : Cond.methodLink (z_own 4) 59 yX4_partRank ∈ z_all := z_mA5 (List.mem_of_getElem? (i := 182) rfl) rfl
theorem lk_4_63 : Cond.methodLink (z_own 4) 63 yX4_give ∈ z_all := z_mA5 (List.mem_of_getElem? (i := 186) rfl) rfl
theorem lk_4_66 : Cond.methodLink (z_own 4) 66 yJ9_min_f86c9 ∈ z_all := z_mA5 (List.mem_of_getElem? (i := 190) rfl) rfl
theorem lk_15_291 : Cond.methodLink (z_own 15) 291 yX11_has ∈ z_all := z_mA5 (List.mem_of_getElem? (i := 191) rfl) rfl
theorem lk_15_295 : Cond.methodLink (z_own 15) 295 yX11_close ∈ z_all := z_mA5 (List.mem_of_getElem? (i := 195) rfl) rfl
theorem lk_15_300 : Cond.methodLink (z_own 15) 300 yX11_hours ∈ z_all := z_mA5 (List.mem_of_getElem? (i := 199) rfl) rfl
theorem lk_15_304 : Cond.methodLink (z_own 15) 304 yX11_ahead ∈ z_all := z_mA5 (List.mem_of_getElem? (i := 203) rfl) rfl
theorem lk_11_444 : Cond.methodLink (z_own 11) 444 yX5_tellInflow ∈ z_all := z_mA5 (List.mem_of_getElem? (i := 207) rfl) rfl
theorem lk_5_29 : (5, 29, yX11_noNumber) ∈ z_nst := List.mem_of_getElem? (i := 17) rfl
theorem lk_5_33 : (5, 33, yX11_realOf) ∈ z_nst := List.mem_of_getElem? (i := 18) rfl
theorem lk_15_308 : Cond.methodLink (z_own 15) 308 yX11_release ∈ z_all := z_mA5 (List.mem_of_getElem? (i := 213) rfl) rfl
theorem lk_11_448 : Cond.methodLink (z_own 11) 448 yX5_tellRelease ∈ z_all := z_mA5 (List.mem_of_getElem? (i := 217) rfl) rfl
theorem lk_15_312 : Cond.methodLink (z_own 15) 312 yX11_routed ∈ z_all := z_mA5 (List.mem_of_getElem? (i := 221) rfl) rfl
theorem lk_11_451 : Cond.methodLink (z_own 11) 451 yX5_hasRelease ∈ z_all := z_mA5 (List.mem_of_getElem? (i := 225) rfl) rfl
theorem lk_11_454 : Cond.methodLink (z_own 11) 454 yX5_lacks ∈ z_all := z_mA5 (List.mem_of_getElem? (i := 229) rfl) rfl
theorem lk_11_462 : Cond.methodLink (z_own 11) 462 yX5_volumeBehind ∈ z_all := z_mA5 (List.mem_of_getElem? (i := 233) rfl) rfl
theorem lk_5_37 : Cond.methodLink (z_own 5) 37 yX5_nextVolume ∈ z_all := z_mA5 (List.mem_of_getElem? (i := 237) rfl) rfl
theorem lk_15_316 : Cond.methodLink (z_own 15) 316 yX11_regret ∈ z_all := z_mA6 (List.mem_of_getElem? (i := 1) rfl) rfl
theorem lk_11_466 : Cond.methodLink (z_own 11) 466 yX5_regretOf ∈ z_all := z_mA6 (List.mem_of_getElem? (i := 5) rfl) rfl
theorem lk_5_49 : Cond.methodLink (z_own 5) 49 yX5_lacks ∈ z_all := z_mA6 (List.mem_of_getElem? (i := 9) rfl) rfl
theorem lk_5_53 : Cond.methodLink (z_own 5) 53 yX5_lossOf ∈ z_all := z_mA6 (List.mem_of_getElem? (i := 10) rfl) rfl
theorem lk_5_41 : Cond.methodLink (z_own 5) 41 yX6_unitsAt ∈ z_all := z_mA6 (List.mem_of_getElem? (i := 14) rfl) rfl
theorem lk_15_320 : Cond.methodLink (z_own 15) 320 yX11_chosen ∈ z_all := z_mA6 (List.mem_of_getElem? (i := 16) rfl) rfl
theorem lk_11_470 : Cond.methodLink (z_own 11) 470 yX5_leastRegret ∈ z_all := z_mA6 (List.mem_of_getElem? (i := 20) rfl) rfl
theorem lk_5_57 : Cond.methodLink (z_own 5) 57 yX5_regretOf ∈ z_all := z_mA6 (List.mem_of_getElem? (i := 24) rfl) rfl
theorem lk_15_324 : Cond.methodLink (z_own 15) 324 yX11_peak ∈ z_all := z_mA6 (List.mem_of_getElem? (i := 25) rfl) rfl
theorem lk_11_474 : Cond.methodLink (z_own 11) 474 yX5_peakHour ∈ z_all := z_mA6 (List.mem_of_getElem? (i := 29) rfl) rfl
theorem lk_15_328 : Cond.methodLink (z_own 15) 328 yX11_chance ∈ z_all := z_mA6 (List.mem_of_getElem? (i := 33) rfl) rfl
theorem lk_11_477 : Cond.methodLink (z_own 11) 477 yX5_runsAbove ∈ z_all := z_mA6 (List.mem_of_getElem? (i := 37) rfl) rfl
theorem lk_5_61 : Cond.methodLink (z_own 5) 61 yX5_peakHour ∈ z_all := z_mA6 (List.mem_of_getElem? (i := 41) rfl) rfl
theorem lk_11_480 : Cond.methodLink (z_own 11) 480 yX5_runsThatLackNot ∈ z_all := z_mA6 (List.mem_of_getElem? (i := 42) rfl) rfl
theorem lk_15_333 : Cond.methodLink (z_own 15) 333 yX11_book ∈ z_all := z_mA6 (List.mem_of_getElem? (i := 46) rfl) rfl
theorem lk_11_484 : Cond.methodLink (z_own 11) 484 yX2_write ∈ z_all := z_mA6 (List.mem_of_getElem? (i := 51) rfl) rfl
theorem lk_2_23 : Cond.methodLink (z_own 2) 23 yX2_clearFrom ∈ z_all := z_mA6 (List.mem_of_getElem? (i := 55) rfl) rfl
theorem lk_2_27 : Cond.methodLink (z_own 2) 27 yX2_setByte ∈ z_all := z_mA6 (List.mem_of_getElem? (i := 59) rfl) rfl
theorem lk_2_45 : Cond.methodLink (z_own 2) 45 yX2_look ∈ z_all := z_mA6 (List.mem_of_getElem? (i := 63) rfl) rfl
theorem lk_2_49 : Cond.methodLink (z_own 2) 49 yX2_byteAt ∈ z_all := z_mA6 (List.mem_of_getElem? (i := 67) rfl) rfl
theorem lk_2_41 : Cond.methodLink (z_own 2) 41 yX2_sumOf ∈ z_all := z_mA6 (List.mem_of_getElem? (i := 71) rfl) rfl
theorem lk_2_60 : Cond.methodLink (z_own 2) 60 yX2_writtenSum ∈ z_all := z_mA6 (List.mem_of_getElem? (i := 76) rfl) rfl
theorem lk_2_37 : Cond.methodLink (z_own 2) 37 yX8_wholeAt ∈ z_all := z_mA6 (List.mem_of_getElem? (i := 80) rfl) rfl
theorem lk_15_337 : Cond.methodLink (z_own 15) 337 yX11_pageByte ∈ z_all := z_mA6 (List.mem_of_getElem? (i := 81) rfl) rfl
theorem lk_11_488 : Cond.methodLink (z_own 11) 488 yX2_byteAt ∈ z_all := z_mA6 (List.mem_of_getElem? (i := 85) rfl) rfl
theorem lk_15_341 : Cond.methodLink (z_own 15) 341 yX11_damage ∈ z_all := z_mA6 (List.mem_of_getElem? (i := 86) rfl) rfl
theorem lk_11_491 : Cond.methodLink (z_own 11) 491 yX2_alter ∈ z_all := z_mA6 (List.mem_of_getElem? (i := 90) rfl) rfl
theorem lk_15_345 : Cond.methodLink (z_own 15) 345 yX11_tear ∈ z_all := z_mA6 (List.mem_of_getElem? (i := 94) rfl) rfl
theorem lk_11_495 : Cond.methodLink (z_own 11) 495 yX2_clearFrom ∈ z_all := z_mA6 (List.mem_of_getElem? (i := 98) rfl) rfl
theorem lk_15_349 : Cond.methodLink (z_own 15) 349 yX11_twin ∈ z_all := z_mA6 (List.mem_of_getElem? (i := 99) rfl) rfl
theorem lk_11_498 : Cond.methodLink (z_own 11) 498 yX2_copyPage ∈ z_all := z_mA6 (List.mem_of_getElem? (i := 103) rfl) rfl
theorem lk_2_53 : Cond.methodLink (z_own 2) 53 arraycopyName ∈ z_all := z_mA6 (List.mem_of_getElem? (i := 107) rfl) rfl
theorem lk_15_353 : Cond.methodLink (z_own 15) 353 yX11_open ∈ z_all := z_mA6 (List.mem_of_getElem? (i := 108) rfl) rfl
theorem lk_11_501 : Cond.methodLink (z_own 11) 501 yX2_pagesOf ∈ z_all := z_mA6 (List.mem_of_getElem? (i := 112) rfl) rfl
theorem lk_2_74 : Cond.methodLink (z_own 2) 74 yX2_fateOf ∈ z_all := z_mA6 (List.mem_of_getElem? (i := 116) rfl) rfl
theorem lk_2_63 : Cond.methodLink (z_own 2) 63 yX2_isEmpty ∈ z_all := z_mA6 (List.mem_of_getElem? (i := 120) rfl) rfl
theorem lk_2_67 : Cond.methodLink (z_own 2) 67 yX2_firstOf ∈ z_all := z_mA6 (List.mem_of_getElem? (i := 124) rfl) rfl
theorem lk_2_70 : Cond.methodLink (z_own 2) 70 yX2_isSame ∈ z_all := z_mA6 (List.mem_of_getElem? (i := 128) rfl) rfl
theorem lk_15_357 : Cond.methodLink (z_own 15) 357 yX11_opened ∈ z_all := z_mA6 (List.mem_of_getElem? (i := 132) rfl) rfl
theorem lk_11_504 : Cond.methodLink (z_own 11) 504 yX2_pageOfRow ∈ z_all := z_mA6 (List.mem_of_getElem? (i := 136) rfl) rfl
theorem lk_2_77 : Cond.methodLink (z_own 2) 77 yX2_leastAbove ∈ z_all := z_mA6 (List.mem_of_getElem? (i := 140) rfl) rfl
theorem lk_15_361 : Cond.methodLink (z_own 15) 361 yX11_lost ∈ z_all := z_mA6 (List.mem_of_getElem? (i := 144) rfl) rfl
theorem lk_11_510 : Cond.methodLink (z_own 11) 510 yX2_pageOf ∈ z_all := z_mA6 (List.mem_of_getElem? (i := 148) rfl) rfl
theorem lk_15_12 : Cond.methodLink (z_own 15) 12 yX12_init ∈ z_all := z_mA6 (List.mem_of_getElem? (i := 154) rfl) rfl
theorem lk_12_1 : Cond.methodLink (z_own 12) 1 Lib.objectInit ∈ z_all := z_mA6 (List.mem_of_getElem? (i := 157) rfl) rfl
theorem lk_15_17 : Cond.methodLink (z_own 15) 17 yX12_row ∈ z_all := z_mA7 (List.mem_of_getElem? (i := 222) rfl) rfl
theorem lk_12_274 : Cond.methodLink (z_own 12) 274 yX12_in ∈ z_all := z_mA7 (List.mem_of_getElem? (i := 227) rfl) rfl
theorem lk_12_282 : Cond.methodLink (z_own 12) 282 yX12_fails ∈ z_all := z_mA7 (List.mem_of_getElem? (i := 232) rfl) rfl
theorem lk_12_286 : Cond.methodLink (z_own 12) 286 yX12_well ∈ z_all := z_mA7 (List.mem_of_getElem? (i := 237) rfl) rfl
theorem lk_12_289 : Cond.methodLink (z_own 12) 289 yX12_begin ∈ z_all := z_mA8 (List.mem_of_getElem? (i := 1) rfl) rfl
theorem lk_15_24 : Cond.methodLink (z_own 15) 24 yX12_put ∈ z_all := z_mA8 (List.mem_of_getElem? (i := 5) rfl) rfl
theorem lk_12_297 : Cond.methodLink (z_own 12) 297 yX12_cellFault ∈ z_all := z_mA8 (List.mem_of_getElem? (i := 9) rfl) rfl
theorem lk_12_293 : Cond.methodLink (z_own 12) 293 yX12_noRow ∈ z_all := z_mA8 (List.mem_of_getElem? (i := 13) rfl) rfl
theorem lk_12_267 : Cond.methodLink (z_own 12) 267 yX12_cellOfWhole ∈ z_all := z_mA8 (List.mem_of_getElem? (i := 18) rfl) rfl
theorem lk_12_252 : Cond.methodLink (z_own 12) 252 yX12_bitsOf ∈ z_all := z_mA8 (List.mem_of_getElem? (i := 21) rfl) rfl
theorem lk_12_248 : Cond.methodLink (z_own 12) 248 yJxe99ae_doubleToLongBits_ccdee ∈ z_all := z_mA8 (List.mem_of_getElem? (i := 25) rfl) rfl
theorem lk_13_122 : Cond.methodLink (z_own 13) 122 yJxe99ae_isNaN_b9ae7 ∈ z_all := z_mA8 (List.mem_of_getElem? (i := 28) rfl) rfl
theorem lk_13_134 : Cond.methodLink (z_own 13) 134 ⟨"java/lang/Double", "doubleToRawLongBits", "(D)J"⟩ ∈ z_all := z_mA8 (List.mem_of_getElem? (i := 31) rfl) rfl
theorem lk_15_28 : Cond.methodLink (z_own 15) 28 yX12_putReal ∈ z_all := z_mA8 (List.mem_of_getElem? (i := 36) rfl) rfl
theorem lk_12_262 : Cond.methodLink (z_own 12) 262 yX12_realOf ∈ z_all := z_mA8 (List.mem_of_getElem? (i := 40) rfl) rfl
theorem lk_12_238 : Cond.methodLink (z_own 12) 238 ⟨"java/lang/Double", "longBitsToDouble", "(J)D"⟩ ∈ z_all := z_mA8 (List.mem_of_getElem? (i := 45) rfl) rfl
theorem lk_12_301 : Cond.methodLink (z_own 12) 301 yX12_cellOfReal ∈ z_all := z_mA8 (List.mem_of_getElem? (i := 48) rfl) rfl
theorem lk_12_257 : Cond.methodLink (z_own 12) 257 yX12_isReal ∈ z_all := z_mA8 (List.mem_of_getElem? (i := 51) rfl) rfl
theorem lk_15_33 : Cond.methodLink (z_own 15) 33 yX12_get ∈ z_all := z_mA8 (List.mem_of_getElem? (i := 55) rfl) rfl
theorem lk_12_305 : Cond.methodLink (z_own 12) 305 yX12_wholeOf ∈ z_all := z_mA8 (List.mem_of_getElem? (i := 59) rfl) rfl
theorem lk_15_37 : Cond.methodLink (z_own 15) 37 yX12_getReal ∈ z_all := z_mA8 (List.mem_of_getElem? (i := 62) rfl) rfl
theorem lk_12_308 : Cond.methodLink (z_own 12) 308 yX12_realBits ∈ z_all := z_mA8 (List.mem_of_getElem? (i := 66) rfl) rfl
theorem lk_15_42 : Cond.methodLink (z_own 15) 42 yX12_raise ∈ z_all := z_mA8 (List.mem_of_getElem? (i := 69) rfl) rfl
theorem lk_12_311 : Cond.methodLink (z_own 12) 311 yX12_raisedCell ∈ z_all := z_mA8 (List.mem_of_getElem? (i := 73) rfl) rfl
theorem lk_15_46 : Cond.methodLink (z_own 15) 46 yX12_join ∈ z_all := z_mA8 (List.mem_of_getElem? (i := 77) rfl) rfl
theorem lk_15_51 : Cond.methodLink (z_own 15) 51 yX12_shift ∈ z_all := z_mA8 (List.mem_of_getElem? (i := 81) rfl) rfl
theorem lk_12_315 : Cond.methodLink (z_own 12) 315 yX12_isSpan ∈ z_all := z_mA8 (List.mem_of_getElem? (i := 85) rfl) rfl
theorem lk_15_55 : Cond.methodLink (z_own 15) 55 yX12_like ∈ z_all := z_mA8 (List.mem_of_getElem? (i := 88) rfl) rfl
theorem lk_15_59 : Cond.methodLink (z_own 15) 59 yX12_count ∈ z_all := z_mA8 (List.mem_of_getElem? (i := 92) rfl) rfl
theorem lk_15_64 : Cond.methodLink (z_own 15) 64 yX12_find ∈ z_all := z_mA8 (List.mem_of_getElem? (i := 96) rfl) rfl
theorem lk_15_69 : Cond.methodLink (z_own 15) 69 yX12_mean ∈ z_all := z_mA8 (List.mem_of_getElem? (i := 100) rfl) rfl
theorem lk_15_74 : Cond.methodLink (z_own 15) 74 yX12_bed ∈ z_all := z_mA8 (List.mem_of_getElem? (i := 105) rfl) rfl
theorem lk_15_78 : Cond.methodLink (z_own 15) 78 yX12_lay ∈ z_all := z_mA8 (List.mem_of_getElem? (i := 109) rfl) rfl
theorem lk_12_324 : Cond.methodLink (z_own 12) 324 yX12_isBed ∈ z_all := z_mA8 (List.mem_of_getElem? (i := 113) rfl) rfl
theorem lk_15_83 : Cond.methodLink (z_own 15) 83 yX12_spot ∈ z_all := z_mA8 (List.mem_of_getElem? (i := 117) rfl) rfl
theorem lk_12_327 : Cond.methodLink (z_own 12) 327 yX12_spotAt ∈ z_all := z_mA8 (List.mem_of_getElem? (i := 121) rfl) rfl
theorem lk_15_88 : Cond.methodLink (z_own 15) 88 yX12_setSpot ∈ z_all := z_mA8 (List.mem_of_getElem? (i := 125) rfl) rfl
theorem lk_15_92 : Cond.methodLink (z_own 15) 92 yX12_bare ∈ z_all := z_mA8 (List.mem_of_getElem? (i := 129) rfl) rfl
theorem lk_15_96 : Cond.methodLink (z_own 15) 96 yX12_thing ∈ z_all := z_mA8 (List.mem_of_getElem? (i := 133) rfl) rfl
theorem lk_15_100 : Cond.methodLink (z_own 15) 100 yX12_says ∈ z_all := z_mA8 (List.mem_of_getElem? (i := 139) rfl) rfl
theorem lk_12_353 : Cond.methodLink (z_own 12) 353 yX12_noThing ∈ z_all := z_mA8 (List.mem_of_getElem? (i := 143) rfl) rfl
theorem lk_12_356 : Cond.methodLink (z_own 12) 356 yX12_asks ∈ z_all := z_mA8 (List.mem_of_getElem? (i := 147) rfl) rfl
theorem lk_12_348 : Cond.methodLink (z_own 12) 348 yX12_has ∈ z_all := z_mA8 (List.mem_of_getElem? (i := 151) rfl) rfl
theorem lk_12_338 : Cond.methodLink (z_own 12) 338 yX12_fits ∈ z_all := z_mA8 (List.mem_of_getElem? (i := 155) rfl) rfl
theorem lk_12_350 : Cond.methodLink (z_own 12) 350 yX12_tells ∈ z_all := z_mA8 (List.mem_of_getElem? (i := 158) rfl) rfl
theorem lk_12_342 : Cond.methodLink (z_own 12) 342 yX12_signOf ∈ z_all := z_mA8 (List.mem_of_getElem? (i := 162) rfl) rfl
theorem lk_12_345 : Cond.methodLink (z_own 12) 345 yX12_weightOf ∈ z_all := z_mA8 (List.mem_of_getElem? (i := 165) rfl) rfl
theorem lk_15_104 : Cond.methodLink (z_own 15) 104 yX12_rack ∈ z_all := z_mA8 (List.mem_of_getElem? (i := 169) rfl) rfl
theorem lk_15_108 : Cond.methodLink (z_own 15) 108 yX12_hang ∈ z_all := z_mA8 (List.mem_of_getElem? (i := 174) rfl) rfl
theorem lk_12_364 : Cond.methodLink (z_own 12) 364 yX12_noRack ∈ z_all := z_mA8 (List.mem_of_getElem? (i := 178) rfl) rfl
theorem lk_15_112 : Cond.methodLink (z_own 15) 112 yX12_down ∈ z_all := z_mA8 (List.mem_of_getElem? (i := 182) rfl) rfl
theorem lk_15_116 : Cond.methodLink (z_own 15) 116 yX12_hung ∈ z_all := z_mA8 (List.mem_of_getElem? (i := 186) rfl) rfl
theorem lk_15_120 : Cond.methodLink (z_own 15) 120 yX12_asked ∈ z_all := z_mA8 (List.mem_of_getElem? (i := 190) rfl) rfl
theorem lk_15_124 : Cond.methodLink (z_own 15) 124 yX12_haul ∈ z_all := z_mA8 (List.mem_of_getElem? (i := 194) rfl) rfl
theorem lk_15_128 : Cond.methodLink (z_own 15) 128 yX12_box ∈ z_all := z_mA8 (List.mem_of_getElem? (i := 198) rfl) rfl
theorem lk_15_132 : Cond.methodLink (z_own 15) 132 yX12_isA ∈ z_all := z_mA8 (List.mem_of_getElem? (i := 203) rfl) rfl
theorem lk_12_371 : Cond.methodLink (z_own 12) 371 yX12_isOf ∈ z_all := z_mA8 (List.mem_of_getElem? (i := 208) rfl) rfl
theorem lk_15_136 : Cond.methodLink (z_own 15) 136 yX12_taken ∈ z_all := z_mA8 (List.mem_of_getElem? (i := 212) rfl) rfl
theorem lk_12_374 : Cond.methodLink (z_own 12) 374 yX12_sizeIn ∈ z_all := z_mA8 (List.mem_of_getElem? (i := 216) rfl) rfl
theorem lk_15_141 : Cond.methodLink (z_own 15) 141 yX12_used ∈ z_all := z_mA8 (List.mem_of_getElem? (i := 220) rfl) rfl
theorem lk_15_146 : Cond.methodLink (z_own 15) 146 yX12_card ∈ z_all := z_mA8 (List.mem_of_getElem? (i := 224) rfl) rfl
theorem lk_15_150 : Cond.methodLink (z_own 15) 150 yX12_field ∈ z_all := z_mA8 (List.mem_of_getElem? (i := 228) rfl) rfl
theorem lk_12_383 : Cond.methodLink (z_own 12) 383 yX12_fieldFault ∈ z_all := z_mA8 (List.mem_of_getElem? (i := 232) rfl) rfl
theorem lk_12_380 : Cond.methodLink (z_own 12) 380 yX12_noCard ∈ z_all := z_mA8 (List.mem_of_getElem? (i := 236) rfl) rfl
theorem lk_15_154 : Cond.methodLink (z_own 15) 154 yX12_fieldOf ∈ z_all := z_mA9 (List.mem_of_getElem? (i := 0) rfl) rfl
theorem lk_15_158 : Cond.methodLink (z_own 15) 158 yX12_raiseField ∈ z_all := z_mA9 (List.mem_of_getElem? (i := 4) rfl) rfl
theorem lk_15_162 : Cond.methodLink (z_own 15) 162 yX12_link ∈ z_all := z_mA9 (List.mem_of_getElem? (i := 8) rfl) rfl
theorem lk_15_166 : Cond.methodLink (z_own 15) 166 yX12_along ∈ z_all := z_mA9 (List.mem_of_getElem? (i := 12) rfl) rfl
theorem lk_15_170 : Cond.methodLink (z_own 15) 170 yX12_ring ∈ z_all := z_mA9 (List.mem_of_getElem? (i := 17) rfl) rfl
theorem lk_15_174 : Cond.methodLink (z_own 15) 174 yX12_cardAsk ∈ z_all := z_mA9 (List.mem_of_getElem? (i := 21) rfl) rfl
theorem lk_15_178 : Cond.methodLink (z_own 15) 178 yX12_copy ∈ z_all := z_mA9 (List.mem_of_getElem? (i := 25) rfl) rfl
theorem lk_15_182 : Cond.methodLink (z_own 15) 182 yX12_flow ∈ z_all := z_mA9 (List.mem_of_getElem? (i := 29) rfl) rfl
theorem lk_12_402 : Cond.methodLink (z_own 12) 402 yX12_middleOf ∈ z_all := z_mA9 (List.mem_of_getElem? (i := 36) rfl) rfl
theorem lk_12_388 : Cond.methodLink (z_own 12) 388 yX12_isAhead ∈ z_all := z_mA9 (List.mem_of_getElem? (i := 40) rfl) rfl
theorem lk_12_406 : Cond.methodLink (z_own 12) 406 yX12_flowOf ∈ z_all := z_mA9 (List.mem_of_getElem? (i := 43) rfl) rfl
theorem lk_12_392 : Cond.methodLink (z_own 12) 392 yX12_isEndless ∈ z_all := z_mA9 (List.mem_of_getElem? (i := 47) rfl) rfl
theorem lk_15_187 : Cond.methodLink (z_own 15) 187 yX12_test ∈ z_all := z_mA9 (List.mem_of_getElem? (i := 52) rfl) rfl
theorem lk_15_192 : Cond.methodLink (z_own 15) 192 yX12_quotient ∈ z_all := z_mA9 (List.mem_of_getElem? (i := 57) rfl) rfl
theorem lk_12_413 : Cond.methodLink (z_own 12) 413 yX12_held ∈ z_all := z_mA9 (List.mem_of_getElem? (i := 61) rfl) rfl
theorem lk_15_197 : Cond.methodLink (z_own 15) 197 yX12_step ∈ z_all := z_mA9 (List.mem_of_getElem? (i := 65) rfl) rfl
theorem lk_12_429 : Cond.methodLink (z_own 12) 429 yX12_isStep ∈ z_all := z_mA9 (List.mem_of_getElem? (i := 70) rfl) rfl
theorem lk_15_201 : Cond.methodLink (z_own 15) 201 yX12_wipe ∈ z_all := z_mA9 (List.mem_of_getElem? (i := 78) rfl) rfl
theorem lk_15_205 : Cond.methodLink (z_own 15) 205 yX12_act ∈ z_all := z_mA9 (List.mem_of_getElem? (i := 82) rfl) rfl
theorem lk_12_455 : Cond.methodLink (z_own 12) 455 yX12_call ∈ z_all := z_mA9 (List.mem_of_getElem? (i := 86) rfl) rfl
theorem lk_12_449 : Cond.methodLink (z_own 12) 449 yX12_out ∈ z_all := z_mA9 (List.mem_of_getElem? (i := 90) rfl) rfl
theorem lk_12_499 : Cond.methodLink (z_own 12) 499 yX12_hear ∈ z_all := z_mA9 (List.mem_of_getElem? (i := 94) rfl) rfl
theorem lk_12_462 : Cond.methodLink (z_own 12) 462 yX12_leave ∈ z_all := z_mA9 (List.mem_of_getElem? (i := 98) rfl) rfl
theorem lk_12_465 : Cond.methodLink (z_own 12) 465 yX12_last ∈ z_all := z_mA9 (List.mem_of_getElem? (i := 102) rfl) rfl
theorem lk_12_459 : Cond.methodLink (z_own 12) 459 yX12_over ∈ z_all := z_mA9 (List.mem_of_getElem? (i := 106) rfl) rfl
theorem lk_12_502 : Cond.methodLink (z_own 12) 502 yX12_go ∈ z_all := z_mA9 (List.mem_of_getElem? (i := 110) rfl) rfl
theorem lk_12_474 : Cond.methodLink (z_own 12) 474 yX12_fail ∈ z_all := z_mA9 (List.mem_of_getElem? (i := 114) rfl) rfl
theorem lk_12_478 : Cond.methodLink (z_own 12) 478 yX12_doStep ∈ z_all := z_mA9 (List.mem_of_getElem? (i := 118) rfl) rfl
theorem lk_12_481 : Cond.methodLink (z_own 12) 481 yX12_putStep ∈ z_all := z_mA9 (List.mem_of_getElem? (i := 122) rfl) rfl
theorem lk_12_491 : Cond.methodLink (z_own 12) 491 yX12_sumStep ∈ z_all := z_mA9 (List.mem_of_getElem? (i := 126) rfl) rfl
theorem lk_15_209 : Cond.methodLink (z_own 15) 209 yX12_raised ∈ z_all := z_mA9 (List.mem_of_getElem? (i := 131) rfl) rfl
theorem lk_15_214 : Cond.methodLink (z_own 15) 214 yX12_stock ∈ z_all := z_mA9 (List.mem_of_getElem? (i := 135) rfl) rfl
theorem lk_15_218 : Cond.methodLink (z_own 15) 218 yX12_gate ∈ z_all := z_mA9 (List.mem_of_getElem? (i := 139) rfl) rfl
theorem lk_15_222 : Cond.methodLink (z_own 15) 222 yX12_signal ∈ z_all := z_mA9 (List.mem_of_getElem? (i := 143) rfl) rfl
theorem lk_15_226 : Cond.methodLink (z_own 15) 226 yX12_table ∈ z_all := z_mA9 (List.mem_of_getElem? (i := 147) rfl) rfl
theorem lk_12_507 : Cond.methodLink (z_own 12) 507 yX12_lineOf ∈ z_all := z_mA9 (List.mem_of_getElem? (i := 152) rfl) rfl
theorem lk_15_230 : Cond.methodLink (z_own 15) 230 yX12_turned ∈ z_all := z_mA9 (List.mem_of_getElem? (i := 156) rfl) rfl
theorem lk_12_517 : Cond.methodLink (z_own 12) 517 yX12_levelOf ∈ z_all := z_mA9 (List.mem_of_getElem? (i := 160) rfl) rfl
theorem lk_15_234 : Cond.methodLink (z_own 15) 234 yX12_reading ∈ z_all := z_mA9 (List.mem_of_getElem? (i := 163) rfl) rfl
theorem lk_15_239 : Cond.methodLink (z_own 15) 239 yX12_word ∈ z_all := z_mA9 (List.mem_of_getElem? (i := 169) rfl) rfl
theorem lk_15_244 : Cond.methodLink (z_own 15) 244 yX12_stuck ∈ z_all := z_mA9 (List.mem_of_getElem? (i := 174) rfl) rfl
theorem lk_15_248 : Cond.methodLink (z_own 15) 248 yX12_hand ∈ z_all := z_mA9 (List.mem_of_getElem? (i := 178) rfl) rfl
theorem lk_15_252 : Cond.methodLink (z_own 15) 252 yX12_rate ∈ z_all := z_mA9 (List.mem_of_getElem? (i := 182) rfl) rfl
theorem lk_15_257 : Cond.methodLink (z_own 15) 257 yX12_run ∈ z_all := z_mA9 (List.mem_of_getElem? (i := 186) rfl) rfl
theorem lk_12_592 : Cond.methodLink (z_own 12) 592 yX12_hear1 ∈ z_all := z_mA9 (List.mem_of_getElem? (i := 194) rfl) rfl
theorem lk_12_595 : Cond.methodLink (z_own 12) 595 yX12_voice ∈ z_all := z_mA9 (List.mem_of_getElem? (i := 200) rfl) rfl
theorem lk_12_540 : Cond.methodLink (z_own 12) 540 yX12_hangsAt ∈ z_all := z_mA9 (List.mem_of_getElem? (i := 204) rfl) rfl
theorem lk_12_599 : Cond.methodLink (z_own 12) 599 yX12_steer ∈ z_all := z_mA9 (List.mem_of_getElem? (i := 208) rfl) rfl
theorem lk_12_546 : Cond.methodLink (z_own 12) 546 yX12_wished ∈ z_all := z_mA9 (List.mem_of_getElem? (i := 212) rfl) rfl
theorem lk_12_614 : Cond.methodLink (z_own 12) 614 yX12_holding ∈ z_all := z_mA9 (List.mem_of_getElem? (i := 216) rfl) rfl
theorem lk_12_552 : Cond.methodLink (z_own 12) 552 yX12_root ∈ z_all := z_mA9 (List.mem_of_getElem? (i := 221) rfl) rfl
theorem lk_12_555 : Cond.methodLink (z_own 12) 555 yX12_nextGate ∈ z_all := z_mA9 (List.mem_of_getElem? (i := 226) rfl) rfl
theorem lk_12_558 : Cond.methodLink (z_own 12) 558 yX12_targetOf ∈ z_all := z_mA9 (List.mem_of_getElem? (i := 230) rfl) rfl
theorem lk_12_602 : Cond.methodLink (z_own 12) 602 yX12_flowOn ∈ z_all := z_mA9 (List.mem_of_getElem? (i := 234) rfl) rfl
theorem lk_15_261 : Cond.methodLink (z_own 15) 261 yX12_lake ∈ z_all := z_mA10 (List.mem_of_getElem? (i := 0) rfl) rfl
theorem lk_15_265 : Cond.methodLink (z_own 15) 265 yX12_heard ∈ z_all := z_mA10 (List.mem_of_getElem? (i := 4) rfl) rfl
theorem lk_15_269 : Cond.methodLink (z_own 15) 269 yX12_moved ∈ z_all := z_mA10 (List.mem_of_getElem? (i := 8) rfl) rfl
theorem lk_15_273 : Cond.methodLink (z_own 15) 273 yX12_about ∈ z_all := z_mA10 (List.mem_of_getElem? (i := 12) rfl) rfl
theorem lk_15_278 : Cond.methodLink (z_own 15) 278 yX12_rule ∈ z_all := z_mA10 (List.mem_of_getElem? (i := 16) rfl) rfl
theorem lk_15_282 : Cond.methodLink (z_own 15) 282 yX12_ruleAt ∈ z_all := z_mA10 (List.mem_of_getElem? (i := 20) rfl) rfl
theorem lk_15_286 : Cond.methodLink (z_own 15) 286 yX12_right ∈ z_all := z_mA10 (List.mem_of_getElem? (i := 25) rfl) rfl
theorem lk_15_290 : Cond.methodLink (z_own 15) 290 yX12_part ∈ z_all := z_mA10 (List.mem_of_getElem? (i := 30) rfl) rfl
theorem lk_12_622 : Cond.methodLink (z_own 12) 622 yX12_partRank ∈ z_all := z_mA10 (List.mem_of_getElem? (i := 34) rfl) rfl
theorem lk_15_294 : Cond.methodLink (z_own 15) 294 yX12_has_ ∈ z_all := z_mA10 (List.mem_of_getElem? (i := 38) rfl) rfl
theorem lk_15_299 : Cond.methodLink (z_own 15) 299 yX12_close ∈ z_all := z_mA10 (List.mem_of_getElem? (i := 42) rfl) rfl
theorem lk_15_303 : Cond.methodLink (z_own 15) 303 yX12_hours ∈ z_all := z_mA10 (List.mem_of_getElem? (i := 46) rfl) rfl
theorem lk_15_307 : Cond.methodLink (z_own 15) 307 yX12_ahead ∈ z_all := z_mA10 (List.mem_of_getElem? (i := 51) rfl) rfl
theorem lk_12_627 : Cond.methodLink (z_own 12) 627 yX12_isFlow ∈ z_all := z_mA10 (List.mem_of_getElem? (i := 55) rfl) rfl
theorem lk_15_311 : Cond.methodLink (z_own 15) 311 yX12_release ∈ z_all := z_mA10 (List.mem_of_getElem? (i := 58) rfl) rfl
theorem lk_15_315 : Cond.methodLink (z_own 15) 315 yX12_routed ∈ z_all := z_mA10 (List.mem_of_getElem? (i := 62) rfl) rfl
theorem lk_12_633 : Cond.methodLink (z_own 12) 633 yX12_lacks ∈ z_all := z_mA10 (List.mem_of_getElem? (i := 66) rfl) rfl
theorem lk_12_636 : Cond.methodLink (z_own 12) 636 yX12_volumeAt ∈ z_all := z_mA10 (List.mem_of_getElem? (i := 70) rfl) rfl
theorem lk_15_319 : Cond.methodLink (z_own 15) 319 yX12_regret ∈ z_all := z_mA10 (List.mem_of_getElem? (i := 74) rfl) rfl
theorem lk_12_642 : Cond.methodLink (z_own 12) 642 yX12_regretOf ∈ z_all := z_mA10 (List.mem_of_getElem? (i := 78) rfl) rfl
theorem lk_15_323 : Cond.methodLink (z_own 15) 323 yX12_chosen ∈ z_all := z_mA10 (List.mem_of_getElem? (i := 83) rfl) rfl
theorem lk_15_327 : Cond.methodLink (z_own 15) 327 yX12_peak ∈ z_all := z_mA10 (List.mem_of_getElem? (i := 87) rfl) rfl
theorem lk_15_332 : Cond.methodLink (z_own 15) 332 yX12_chance ∈ z_all := z_mA10 (List.mem_of_getElem? (i := 91) rfl) rfl
theorem lk_15_336 : Cond.methodLink (z_own 15) 336 yX12_book ∈ z_all := z_mA10 (List.mem_of_getElem? (i := 95) rfl) rfl
theorem lk_12_649 : Cond.methodLink (z_own 12) 649 yX12_sumOf ∈ z_all := z_mA10 (List.mem_of_getElem? (i := 101) rfl) rfl
theorem lk_15_340 : Cond.methodLink (z_own 15) 340 yX12_pageByte ∈ z_all := z_mA10 (List.mem_of_getElem? (i := 106) rfl) rfl
theorem lk_15_344 : Cond.methodLink (z_own 15) 344 yX12_damage ∈ z_all := z_mA10 (List.mem_of_getElem? (i := 111) rfl) rfl
theorem lk_15_348 : Cond.methodLink (z_own 15) 348 yX12_tear ∈ z_all := z_mA10 (List.mem_of_getElem? (i := 115) rfl) rfl
theorem lk_15_352 : Cond.methodLink (z_own 15) 352 yX12_twin ∈ z_all := z_mA10 (List.mem_of_getElem? (i := 120) rfl) rfl
theorem lk_15_356 : Cond.methodLink (z_own 15) 356 yX12_open ∈ z_all := z_mA10 (List.mem_of_getElem? (i := 124) rfl) rfl
theorem lk_12_665 : Cond.methodLink (z_own 12) 665 yX12_stateOf ∈ z_all := z_mA10 (List.mem_of_getElem? (i := 128) rfl) rfl
theorem lk_12_659 : Cond.methodLink (z_own 12) 659 yX12_isWhole ∈ z_all := z_mA10 (List.mem_of_getElem? (i := 132) rfl) rfl
theorem lk_12_656 : Cond.methodLink (z_own 12) 656 yX12_numberOf ∈ z_all := z_mA10 (List.mem_of_getElem? (i := 136) rfl) rfl
theorem lk_12_662 : Cond.methodLink (z_own 12) 662 yX12_firstOf ∈ z_all := z_mA10 (List.mem_of_getElem? (i := 140) rfl) rfl
theorem lk_15_360 : Cond.methodLink (z_own 15) 360 yX12_opened ∈ z_all := z_mA10 (List.mem_of_getElem? (i := 144) rfl) rfl
theorem lk_12_668 : Cond.methodLink (z_own 12) 668 yX12_rowAt ∈ z_all := z_mA10 (List.mem_of_getElem? (i := 148) rfl) rfl
theorem lk_15_364 : Cond.methodLink (z_own 15) 364 yX12_lost ∈ z_all := z_mA10 (List.mem_of_getElem? (i := 153) rfl) rfl
def z_fI (q : Int32 × z_St) : Option Value × z_St := (some (.int q.1), q.2)
def z_fL (q : Int64 × z_St) : Option Value × z_St := (some (.long q.1), q.2)
def z_fD (q : UInt64 × z_St) : Option Value × z_St := (some (.double q.1), q.2)
def z_fV (q : z_St) : Option Value × z_St := (none, q)
def z_okr (ret : Option FieldType) (v : Option Value) : Prop := match ret with | none => v = none | some ty => ∃ w, v = some w ∧ narrow ty w = w ∧ (match w with | .int _ => (ty = .int ∨ ty = .boolean) | .long _ => ty = .long | .double _ => ty = .double | _ => False)
theorem z_hI (v : Option Value) (S : z_St) (X : Int32 × z_St) (h : z_rI v S = some X) : z_fI X = (v, S) ∧ z_okr (some .int) v := by
  unfold z_rI at h
  split at h
  · cases h; exact ⟨rfl, _, rfl, rfl, Or.inl rfl⟩
  · cases h
theorem z_hZ (v : Option Value) (S : z_St) (X : Int32 × z_St) (h : z_rZ v S = some X) : z_fI X = (v, S) ∧ z_okr (some .boolean) v := by
  unfold z_rZ at h
  split at h
  · unfold z_rb at h
    split at h
    · rename_i hx
      cases h
      exact ⟨rfl, _, rfl, by rcases hx with rfl | rfl <;> rfl, Or.inr rfl⟩
    · cases h
  · cases h
theorem z_hL (v : Option Value) (S : z_St) (X : Int64 × z_St) (h : z_rL v S = some X) : z_fL X = (v, S) ∧ z_okr (some .long) v := by
  unfold z_rL at h
  split at h
  · cases h; exact ⟨rfl, _, rfl, rfl, rfl⟩
  · cases h
theorem z_hD (v : Option Value) (S : z_St) (X : UInt64 × z_St) (h : z_rD v S = some X) : z_fD X = (v, S) ∧ z_okr (some .double) v := by
  unfold z_rD at h
  split at h
  · cases h; exact ⟨rfl, _, rfl, rfl, rfl⟩
  · cases h
theorem z_hV (v : Option Value) (S : z_St) (X : z_St) (h : z_rV v S = some X) : z_fV X = (v, S) ∧ z_okr none v := by
  unfold z_rV at h
  split at h
  · cases h; exact ⟨rfl, rfl⟩
  · cases h
theorem z_ivS {o dd idx dy ny : Nat} {ts : List Nat} {g : z_G} {y : MethodName} {cy : ByteArray} {ry : Option FieldType} (hS : z_Snd y cy ny ry dy g) (h1 : dy + 1 ≤ dd) (h2 : Cond.static y ∈ z_all) (h3 : z_lnk o idx y) (h4 : (parseMethodDescriptor y.desc).map (fun d => d.parameters.length) = some ts.length) : z_iok o dd (.invokestatic idx) (0 :: ts) g := Or.inl ⟨y, cy, ny, ry, dy, hS, h1, h2, h3, h4⟩
theorem z_ivV {o dd idx dy ny ci N : Nat} {T0 : u_T} {ts : List Nat} {g : z_G} {y : MethodName} {cy : ByteArray} {ry : Option FieldType} (hS : z_Snd y cy ny ry dy g) (h1 : dy + 1 ≤ dd) (h2 : Cond.instanceMethod y ∈ z_all) (h3 : Cond.selects y.cls y y ∈ z_all) (h5 : z_cls[ci]? = some (y.cls, T0, N)) (h6 : Cond.methodLink (z_own o) idx y ∈ z_all) (h4 : (parseMethodDescriptor y.desc).map (fun d => d.parameters.length) = some ts.length) : z_iok o dd (.invokevirtual idx) (1 :: (ci + 1) :: ts) g := ⟨y, cy, ny, ry, dy, ci, N, T0, hS, h1, h2, h3, h5, rfl, h6, h4⟩
theorem z_ivI {o dd idx dy ny k : Nat} {ts : List Nat} {g : z_G} {y : MethodName} {cy : ByteArray} (hS : z_Snd y cy ny none dy g) (h1 : dy + 1 ≤ dd) (h2 : y.name = "<init>") (h3 : Cond.instanceMethod y ∈ z_all) (h5 : z_lnk o idx y) (h4 : (parseMethodDescriptor y.desc).map (fun d => d.parameters.length) = some ts.length) : z_iok o dd (.invokespecial idx) (1 :: k :: ts) g := ⟨y, cy, ny, dy, hS, h1, h2, h3, h5, h4⟩
