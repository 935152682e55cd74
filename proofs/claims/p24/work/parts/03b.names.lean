set_option maxRecDepth 20000 in
theorem zi_wsL_law0_r1 : ∀ w ∈ wsL_law0_r1, w ∈ lw_tbl := fun w h => (goodIn_p wsL_law0_r1 [456, 52, 55] (by decide +kernel) (by decide +kernel) w h).1
set_option maxRecDepth 20000 in
theorem zi_wsL_law0_r2 : ∀ w ∈ wsL_law0_r2, w ∈ lw_tbl := fun w h => (goodIn_p wsL_law0_r2 [60, 63, 66, 312] (by decide +kernel) (by decide +kernel) w h).1
def wsL_law0_r3_a : List Cond := [Cond.methodLink RX3 1 objectInit, Cond.classLink RX3 7 "[[I", Cond.fieldLink RX3 9 "TaxiRankLaw$Rank" "ways" "[[I", Cond.classLink RX3 14 "[I", Cond.fieldLink RX3 16 "TaxiRankLaw$Rank" "cabs" "[[I", Cond.fieldLink RX3 19 "TaxiRankLaw$Rank" "orders" "[[I", Cond.fieldLink RX3 22 "TaxiRankLaw$Rank" "queues" "[[I", Cond.classLink RX3 25 "[[Z", Cond.arrayClass .boolean, Cond.fieldLink RX3 27 "TaxiRankLaw$Rank" "refused" "[[Z", Cond.fieldLink RX3 30 "TaxiRankLaw$Rank" "money" "[[I", Cond.fieldLink RX3 33 "TaxiRankLaw$Rank" "base" "I", Cond.fieldLink RX3 37 "TaxiRankLaw$Rank" "rate" "I", Cond.methodLink RL 95 yL_cell, Cond.static yL_cell, Cond.initialized RL, Cond.code yL_cell cL_cell 2 (some .int), Cond.constant RL 8 (790386105), Cond.methodLink RL 99 yL_act, Cond.static yL_act]
def wsL_law0_r3_b : List Cond := [Cond.classLink RL 72 "java/lang/IllegalStateException", Cond.fieldLink RL 33 "TaxiRankLaw$Rank" "now" "I", Cond.fieldLink RL 50 "TaxiRankLaw$Rank" "ways" "[[I"]
set_option maxRecDepth 20000 in
theorem zi_wsL_law0_r3_a : ∀ w ∈ wsL_law0_r3_a, w ∈ lw_tbl := fun w h => (goodIn_p wsL_law0_r3_a [363] (by decide +kernel) (by decide +kernel) w h).1
set_option maxRecDepth 20000 in
theorem zi_wsL_law0_r3_b : ∀ w ∈ wsL_law0_r3_b, w ∈ lw_tbl := fun w h => (goodIn_p wsL_law0_r3_b [] (by decide +kernel) (by decide +kernel) w h).1
set_option maxRecDepth 20000 in
theorem zi_wsL_law0_r3_c : lw_tbl[367]? = some (Cond.codeWith yL_act cL_act 10 (some .boolean) [(467, 627, 630, 72)]) := rfl
theorem zi_wsL_law0_r3 : ∀ w ∈ wsL_law0_r3, w ∈ lw_tbl := by
  have e : wsL_law0_r3 = wsL_law0_r3_a ++ ([Cond.codeWith yL_act cL_act 10 (some .boolean) [(467, 627, 630, 72)]] ++ wsL_law0_r3_b) := rfl
  rw [e]
  exact List.forall_mem_append.mpr ⟨zi_wsL_law0_r3_a, List.forall_mem_append.mpr ⟨fun w h => by rw [List.mem_singleton.mp h]; exact List.mem_of_getElem? zi_wsL_law0_r3_c, zi_wsL_law0_r3_b⟩⟩
set_option maxRecDepth 20000 in
theorem zi_wsL_law0_r4 : ∀ w ∈ wsL_law0_r4, w ∈ lw_tbl := fun w h => (goodIn_p wsL_law0_r4 [371, 376, 395, 116] (by decide +kernel) (by decide +kernel) w h).1
set_option maxRecDepth 20000 in
theorem zi_wsL_law0_r5 : ∀ w ∈ wsL_law0_r5, w ∈ lw_tbl := fun w h => (goodIn_p wsL_law0_r5 [401, 438, 442, 446] (by decide +kernel) (by decide +kernel) w h).1
set_option maxRecDepth 20000 in
theorem zi_wsL_law0_r6 : ∀ w ∈ wsL_law0_r6, w ∈ lw_tbl := fun w h => (goodIn_p wsL_law0_r6 [450, 453, 460, 463, 478] (by decide +kernel) (by decide +kernel) w h).1
set_option maxRecDepth 20000 in
theorem zi_wsL_law0_r7 : ∀ w ∈ wsL_law0_r7, w ∈ lw_tbl := fun w h => (goodIn_p wsL_law0_r7 [484, 493, 496, 500] (by decide +kernel) (by decide +kernel) w h).1
set_option maxRecDepth 20000 in
theorem zi_wsL_law0_r8 : ∀ w ∈ wsL_law0_r8, w ∈ lw_tbl := fun w h => (goodIn_p wsL_law0_r8 [507, 249, 253] (by decide +kernel) (by decide +kernel) w h).1
set_option maxRecDepth 20000 in
theorem zi_wsL_law0_r9 : ∀ w ∈ wsL_law0_r9, w ∈ lw_tbl := fun w h => (goodIn_p wsL_law0_r9 [188, 191, 194, 198, 258] (by decide +kernel) (by decide +kernel) w h).1
set_option maxRecDepth 20000 in
theorem zi_wsL_law0_r10 : ∀ w ∈ wsL_law0_r10, w ∈ lw_tbl := fun w h => (goodIn_p wsL_law0_r10 [262, 265, 268, 241, 272] (by decide +kernel) (by decide +kernel) w h).1
set_option maxRecDepth 20000 in
theorem zi_wsL_law0_r11 : ∀ w ∈ wsL_law0_r11, w ∈ lw_tbl := fun w h => (goodIn_p wsL_law0_r11 [276, 566, 570, 574, 578] (by decide +kernel) (by decide +kernel) w h).1
set_option maxRecDepth 20000 in
theorem zi_wsL_law0_r12 : ∀ w ∈ wsL_law0_r12, w ∈ lw_tbl := fun w h => (goodIn_p wsL_law0_r12 [584, 588, 112, 245, 208, 211] (by decide +kernel) (by decide +kernel) w h).1
set_option maxRecDepth 20000 in
theorem zi_wsL_law0_r13 : ∀ w ∈ wsL_law0_r13, w ∈ lw_tbl := fun w h => (goodIn_p wsL_law0_r13 [593, 238, 218, 598, 215, 603] (by decide +kernel) (by decide +kernel) w h).1
set_option maxRecDepth 20000 in
theorem zi_wsL_law0_r14 : ∀ w ∈ wsL_law0_r14, w ∈ lw_tbl := fun w h => (goodIn_p wsL_law0_r14 [284, 608, 612, 618, 622, 626] (by decide +kernel) (by decide +kernel) w h).1
set_option maxRecDepth 20000 in
theorem zi_wsL_law0_r15 : ∀ w ∈ wsL_law0_r15, w ∈ lw_tbl := fun w h => (goodIn_p wsL_law0_r15 [630, 634, 639] (by decide +kernel) (by decide +kernel) w h).1
set_option maxRecDepth 20000 in
theorem zi_wsL_law0_r16 : ∀ w ∈ wsL_law0_r16, w ∈ lw_tbl := fun w h => (goodIn_p wsL_law0_r16 [642, 646, 650, 654, 658, 663] (by decide +kernel) (by decide +kernel) w h).1
set_option maxRecDepth 20000 in
theorem zi_wsL_law0_r17 : ∀ w ∈ wsL_law0_r17, w ∈ lw_tbl := fun w h => (goodIn_p wsL_law0_r17 [668, 672, 676, 280, 288] (by decide +kernel) (by decide +kernel) w h).1
set_option maxRecDepth 20000 in
theorem zi_wsL_law0_r18 : ∀ w ∈ wsL_law0_r18, w ∈ lw_tbl := fun w h => (goodIn_p wsL_law0_r18 [291, 108, 204, 298, 302] (by decide +kernel) (by decide +kernel) w h).1
set_option maxRecDepth 20000 in
theorem zi_wsL_law0_r19 : ∀ w ∈ wsL_law0_r19, w ∈ lw_tbl := fun w h => (goodIn_p wsL_law0_r19 [307] (by decide +kernel) (by decide +kernel) w h).1
set_option maxRecDepth 20000 in
theorem zi_wsX20 : ∀ w ∈ wsX20, w ∈ lw_tbl := by decide +kernel
set_option maxRecDepth 20000 in
theorem zi_wsX30 : ∀ w ∈ wsX30, w ∈ lw_tbl := by decide +kernel
set_option maxRecDepth 20000 in
theorem zi_wsJx4a65c0 : ∀ w ∈ wsJx4a65c0, w ∈ lw_tbl := by decide +kernel
set_option maxRecDepth 20000 in
theorem zi_wsX00 : ∀ w ∈ wsX00, w ∈ lw_tbl := by decide +kernel
set_option maxRecDepth 20000 in
theorem zi_wsX10 : ∀ w ∈ wsX10, w ∈ lw_tbl := by decide +kernel
theorem wsL_law_in0 : ∀ w ∈ wsL_law0, w ∈ lw_tbl := (List.forall_mem_append.mpr ⟨(List.forall_mem_append.mpr ⟨(List.forall_mem_append.mpr ⟨(List.forall_mem_append.mpr ⟨(List.forall_mem_append.mpr ⟨(List.forall_mem_append.mpr ⟨(List.forall_mem_append.mpr ⟨zi_wsL_law0_r1, (List.forall_mem_append.mpr ⟨zi_wsL_law0_r2, (List.forall_mem_append.mpr ⟨zi_wsL_law0_r3, (List.forall_mem_append.mpr ⟨zi_wsL_law0_r4, (List.forall_mem_append.mpr ⟨zi_wsL_law0_r5, (List.forall_mem_append.mpr ⟨zi_wsL_law0_r6, (List.forall_mem_append.mpr ⟨zi_wsL_law0_r7, (List.forall_mem_append.mpr ⟨zi_wsL_law0_r8, (List.forall_mem_append.mpr ⟨zi_wsL_law0_r9, (List.forall_mem_append.mpr ⟨zi_wsL_law0_r10, (List.forall_mem_append.mpr ⟨zi_wsL_law0_r11, (List.forall_mem_append.mpr ⟨zi_wsL_law0_r12, (List.forall_mem_append.mpr ⟨zi_wsL_law0_r13, (List.forall_mem_append.mpr ⟨zi_wsL_law0_r14, (List.forall_mem_append.mpr ⟨zi_wsL_law0_r15, (List.forall_mem_append.mpr ⟨zi_wsL_law0_r16, (List.forall_mem_append.mpr ⟨zi_wsL_law0_r17, (List.forall_mem_append.mpr ⟨zi_wsL_law0_r18, zi_wsL_law0_r19⟩)⟩)⟩)⟩)⟩)⟩)⟩)⟩)⟩)⟩)⟩)⟩)⟩)⟩)⟩)⟩)⟩)⟩), zi_wsX20⟩), zi_wsX30⟩), zi_wsJx4a65c0⟩), zi_wsX00⟩), zi_wsX10⟩), fun _ h => nomatch h⟩)
