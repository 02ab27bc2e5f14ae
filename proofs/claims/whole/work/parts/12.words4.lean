theorem qh_R_init : qy_R_init.cls = qR_R ∧ qy_R_init.cls ≠ "java/lang/invoke/MethodHandle" ∧ qy_R_init.cls ≠ "java/lang/invoke/VarHandle" ∧ (parseMethodDescriptor qy_R_init.desc).map (fun d => d.parameters.length) = some 0 := by decide +kernel
def qw_C_init : List Cond := .code qy_C_init qc_C_init 3 (none) :: gG
theorem qh_C_init : qy_C_init.cls = qR_C ∧ qy_C_init.cls ≠ "java/lang/invoke/MethodHandle" ∧ qy_C_init.cls ≠ "java/lang/invoke/VarHandle" ∧ (parseMethodDescriptor qy_C_init.desc).map (fun d => d.parameters.length) = some 2 := by decide +kernel
def qw_T_init : List Cond := .code qy_T_init qc_T_init 1 (none) :: gG
theorem qh_T_init : qy_T_init.cls = qR_T ∧ qy_T_init.cls ≠ "java/lang/invoke/MethodHandle" ∧ qy_T_init.cls ≠ "java/lang/invoke/VarHandle" ∧ (parseMethodDescriptor qy_T_init.desc).map (fun d => d.parameters.length) = some 0 := by decide +kernel
def qw_F_init : List Cond := .code qy_F_init qc_F_init 3 (none) :: gG
theorem qh_F_init : qy_F_init.cls = qR_F ∧ qy_F_init.cls ≠ "java/lang/invoke/MethodHandle" ∧ qy_F_init.cls ≠ "java/lang/invoke/VarHandle" ∧ (parseMethodDescriptor qy_F_init.desc).map (fun d => d.parameters.length) = some 2 := by decide +kernel
def qw_O_init : List Cond := .code qy_O_init qc_O_init 3 (none) :: gG
theorem qh_O_init : qy_O_init.cls = qR_O ∧ qy_O_init.cls ≠ "java/lang/invoke/MethodHandle" ∧ qy_O_init.cls ≠ "java/lang/invoke/VarHandle" ∧ (parseMethodDescriptor qy_O_init.desc).map (fun d => d.parameters.length) = some 2 := by decide +kernel
def qw_H_clear : List Cond := .code qy_H_clear qc_H_clear 1 (none) :: gG
theorem qh_H_clear : qy_H_clear.cls = qR_H ∧ qy_H_clear.cls ≠ "java/lang/invoke/MethodHandle" ∧ qy_H_clear.cls ≠ "java/lang/invoke/VarHandle" ∧ (parseMethodDescriptor qy_H_clear.desc).map (fun d => d.parameters.length) = some 0 := by decide +kernel
def qw_G_forget : List Cond := .code qy_G_forget qc_G_forget 2 (none) :: gG
theorem qh_G_forget : qy_G_forget.cls = qR_G ∧ qy_G_forget.cls ≠ "java/lang/invoke/MethodHandle" ∧ qy_G_forget.cls ≠ "java/lang/invoke/VarHandle" ∧ (parseMethodDescriptor qy_G_forget.desc).map (fun d => d.parameters.length) = some 0 := by decide +kernel
def qw_R_shorten : List Cond := .code qy_R_shorten qc_R_shorten 2 (none) :: gG
theorem qh_R_shorten : qy_R_shorten.cls = qR_R ∧ qy_R_shorten.cls ≠ "java/lang/invoke/MethodHandle" ∧ qy_R_shorten.cls ≠ "java/lang/invoke/VarHandle" ∧ (parseMethodDescriptor qy_R_shorten.desc).map (fun d => d.parameters.length) = some 1 := by decide +kernel
def qw_C_forgetBehind : List Cond := .code qy_C_forgetBehind qc_C_forgetBehind 2 (none) :: gG
theorem qh_C_forgetBehind : qy_C_forgetBehind.cls = qR_C ∧ qy_C_forgetBehind.cls ≠ "java/lang/invoke/MethodHandle" ∧ qy_C_forgetBehind.cls ≠ "java/lang/invoke/VarHandle" ∧ (parseMethodDescriptor qy_C_forgetBehind.desc).map (fun d => d.parameters.length) = some 1 := by decide +kernel
def qw_J_min : List Cond := .code qy_J_min qc_J_min 2 (some .int) :: gG
theorem qh_J_min : qy_J_min.cls = "java/lang/Math" ∧ qy_J_min.cls ≠ "java/lang/invoke/MethodHandle" ∧ qy_J_min.cls ≠ "java/lang/invoke/VarHandle" ∧ (parseMethodDescriptor qy_J_min.desc).map (fun d => d.parameters.length) = some 2 := by decide +kernel
def qw_T_forget : List Cond := .code qy_T_forget qc_T_forget 1 (none) :: gG
theorem qh_T_forget : qy_T_forget.cls = qR_T ∧ qy_T_forget.cls ≠ "java/lang/invoke/MethodHandle" ∧ qy_T_forget.cls ≠ "java/lang/invoke/VarHandle" ∧ (parseMethodDescriptor qy_T_forget.desc).map (fun d => d.parameters.length) = some 0 := by decide +kernel
def qw_L_production : List Cond := .codeWith qy_L_production qc_L_production 8 (some .int) [(0, 16, 19, 13), (0, 16, 23, 15), (0, 16, 27, 17)] :: gG
theorem qh_L_production : qy_L_production.cls = qR_L ∧ qy_L_production.cls ≠ "java/lang/invoke/MethodHandle" ∧ qy_L_production.cls ≠ "java/lang/invoke/VarHandle" ∧ (parseMethodDescriptor qy_L_production.desc).map (fun d => d.parameters.length) = some 7 := by decide +kernel
def qw_H_production : List Cond := .code qy_H_production qc_H_production 6 (some .int) :: gG
theorem qh_H_production : qy_H_production.cls = qR_H ∧ qy_H_production.cls ≠ "java/lang/invoke/MethodHandle" ∧ qy_H_production.cls ≠ "java/lang/invoke/VarHandle" ∧ (parseMethodDescriptor qy_H_production.desc).map (fun d => d.parameters.length) = some 5 := by decide +kernel
def qw_H_isSymbol : List Cond := .code qy_H_isSymbol qc_H_isSymbol 1 (some .boolean) :: gG
theorem qh_H_isSymbol : qy_H_isSymbol.cls = qR_H ∧ qy_H_isSymbol.cls ≠ "java/lang/invoke/MethodHandle" ∧ qy_H_isSymbol.cls ≠ "java/lang/invoke/VarHandle" ∧ (parseMethodDescriptor qy_H_isSymbol.desc).map (fun d => d.parameters.length) = some 1 := by decide +kernel
def qw_H_areItems : List Cond := .code qy_H_areItems qc_H_areItems 4 (some .boolean) :: gG
theorem qh_H_areItems : qy_H_areItems.cls = qR_H ∧ qy_H_areItems.cls ≠ "java/lang/invoke/MethodHandle" ∧ qy_H_areItems.cls ≠ "java/lang/invoke/VarHandle" ∧ (parseMethodDescriptor qy_H_areItems.desc).map (fun d => d.parameters.length) = some 3 := by decide +kernel
def qw_H_isItem : List Cond := .code qy_H_isItem qc_H_isItem 1 (some .boolean) :: gG
theorem qh_H_isItem : qy_H_isItem.cls = qR_H ∧ qy_H_isItem.cls ≠ "java/lang/invoke/MethodHandle" ∧ qy_H_isItem.cls ≠ "java/lang/invoke/VarHandle" ∧ (parseMethodDescriptor qy_H_isItem.desc).map (fun d => d.parameters.length) = some 1 := by decide +kernel
def qw_G_isFull : List Cond := .code qy_G_isFull qc_G_isFull 1 (some .boolean) :: gG
theorem qh_G_isFull : qy_G_isFull.cls = qR_G ∧ qy_G_isFull.cls ≠ "java/lang/invoke/MethodHandle" ∧ qy_G_isFull.cls ≠ "java/lang/invoke/VarHandle" ∧ (parseMethodDescriptor qy_G_isFull.desc).map (fun d => d.parameters.length) = some 0 := by decide +kernel
def qw_H_isStep : List Cond := .code qy_H_isStep qc_H_isStep 2 (some .boolean) :: gG
theorem qh_H_isStep : qy_H_isStep.cls = qR_H ∧ qy_H_isStep.cls ≠ "java/lang/invoke/MethodHandle" ∧ qy_H_isStep.cls ≠ "java/lang/invoke/VarHandle" ∧ (parseMethodDescriptor qy_H_isStep.desc).map (fun d => d.parameters.length) = some 2 := by decide +kernel
def qw_G_wouldCircle : List Cond := .code qy_G_wouldCircle qc_G_wouldCircle 3 (some .boolean) :: gG
theorem qh_G_wouldCircle : qy_G_wouldCircle.cls = qR_G ∧ qy_G_wouldCircle.cls ≠ "java/lang/invoke/MethodHandle" ∧ qy_G_wouldCircle.cls ≠ "java/lang/invoke/VarHandle" ∧ (parseMethodDescriptor qy_G_wouldCircle.desc).map (fun d => d.parameters.length) = some 2 := by decide +kernel
def qw_G_reachedFrom : List Cond := .code qy_G_reachedFrom qc_G_reachedFrom 2 (some .int) :: gG
theorem qh_G_reachedFrom : qy_G_reachedFrom.cls = qR_G ∧ qy_G_reachedFrom.cls ≠ "java/lang/invoke/MethodHandle" ∧ qy_G_reachedFrom.cls ≠ "java/lang/invoke/VarHandle" ∧ (parseMethodDescriptor qy_G_reachedFrom.desc).map (fun d => d.parameters.length) = some 1 := by decide +kernel
def qw_H_has : List Cond := .code qy_H_has qc_H_has 2 (some .boolean) :: gG
theorem qh_H_has : qy_H_has.cls = qR_H ∧ qy_H_has.cls ≠ "java/lang/invoke/MethodHandle" ∧ qy_H_has.cls ≠ "java/lang/invoke/VarHandle" ∧ (parseMethodDescriptor qy_H_has.desc).map (fun d => d.parameters.length) = some 2 := by decide +kernel
def qw_G_learn : List Cond := .code qy_G_learn qc_G_learn 7 (some .int) :: gG
theorem qh_G_learn : qy_G_learn.cls = qR_G ∧ qy_G_learn.cls ≠ "java/lang/invoke/MethodHandle" ∧ qy_G_learn.cls ≠ "java/lang/invoke/VarHandle" ∧ (parseMethodDescriptor qy_G_learn.desc).map (fun d => d.parameters.length) = some 5 := by decide +kernel
def qw_G_learnStep : List Cond := .code qy_G_learnStep qc_G_learnStep 5 (none) :: gG
theorem qh_G_learnStep : qy_G_learnStep.cls = qR_G ∧ qy_G_learnStep.cls ≠ "java/lang/invoke/MethodHandle" ∧ qy_G_learnStep.cls ≠ "java/lang/invoke/VarHandle" ∧ (parseMethodDescriptor qy_G_learnStep.desc).map (fun d => d.parameters.length) = some 2 := by decide +kernel
def qw_G_orderBySteps : List Cond := .code qy_G_orderBySteps qc_G_orderBySteps 5 (none) :: gG
theorem qh_G_orderBySteps : qy_G_orderBySteps.cls = qR_G ∧ qy_G_orderBySteps.cls ≠ "java/lang/invoke/MethodHandle" ∧ qy_G_orderBySteps.cls ≠ "java/lang/invoke/VarHandle" ∧ (parseMethodDescriptor qy_G_orderBySteps.desc).map (fun d => d.parameters.length) = some 0 := by decide +kernel
def qw_J_bitCount : List Cond := .code qy_J_bitCount qc_J_bitCount 1 (some .int) :: gG
theorem qh_J_bitCount : qy_J_bitCount.cls = "java/lang/Integer" ∧ qy_J_bitCount.cls ≠ "java/lang/invoke/MethodHandle" ∧ qy_J_bitCount.cls ≠ "java/lang/invoke/VarHandle" ∧ (parseMethodDescriptor qy_J_bitCount.desc).map (fun d => d.parameters.length) = some 1 := by decide +kernel
def qw_G_learnFertile : List Cond := .code qy_G_learnFertile qc_G_learnFertile 3 (none) :: gG
theorem qh_G_learnFertile : qy_G_learnFertile.cls = qR_G ∧ qy_G_learnFertile.cls ≠ "java/lang/invoke/MethodHandle" ∧ qy_G_learnFertile.cls ≠ "java/lang/invoke/VarHandle" ∧ (parseMethodDescriptor qy_G_learnFertile.desc).map (fun d => d.parameters.length) = some 0 := by decide +kernel
def qw_G_isUsable : List Cond := .code qy_G_isUsable qc_G_isUsable 2 (some .boolean) :: gG
theorem qh_G_isUsable : qy_G_isUsable.cls = qR_G ∧ qy_G_isUsable.cls ≠ "java/lang/invoke/MethodHandle" ∧ qy_G_isUsable.cls ≠ "java/lang/invoke/VarHandle" ∧ (parseMethodDescriptor qy_G_isUsable.desc).map (fun d => d.parameters.length) = some 1 := by decide +kernel
def qw_G_item : List Cond := .code qy_G_item qc_G_item 4 (some .int) :: gG
theorem qh_G_item : qy_G_item.cls = qR_G ∧ qy_G_item.cls ≠ "java/lang/invoke/MethodHandle" ∧ qy_G_item.cls ≠ "java/lang/invoke/VarHandle" ∧ (parseMethodDescriptor qy_G_item.desc).map (fun d => d.parameters.length) = some 2 := by decide +kernel
def qw_G_isFertile : List Cond := .code qy_G_isFertile qc_G_isFertile 2 (some .boolean) :: gG
theorem qh_G_isFertile : qy_G_isFertile.cls = qR_G ∧ qy_G_isFertile.cls ≠ "java/lang/invoke/MethodHandle" ∧ qy_G_isFertile.cls ≠ "java/lang/invoke/VarHandle" ∧ (parseMethodDescriptor qy_G_isFertile.desc).map (fun d => d.parameters.length) = some 1 := by decide +kernel
def qw_L_put : List Cond := .codeWith qy_L_put qc_L_put 4 (some .int) [(0, 9, 12, 13), (0, 9, 15, 15)] :: gG
theorem qh_L_put : qy_L_put.cls = qR_L ∧ qy_L_put.cls ≠ "java/lang/invoke/MethodHandle" ∧ qy_L_put.cls ≠ "java/lang/invoke/VarHandle" ∧ (parseMethodDescriptor qy_L_put.desc).map (fun d => d.parameters.length) = some 3 := by decide +kernel
def qw_H_put : List Cond := .code qy_H_put qc_H_put 2 (some .int) :: gG
theorem qh_H_put : qy_H_put.cls = qR_H ∧ qy_H_put.cls ≠ "java/lang/invoke/MethodHandle" ∧ qy_H_put.cls ≠ "java/lang/invoke/VarHandle" ∧ (parseMethodDescriptor qy_H_put.desc).map (fun d => d.parameters.length) = some 1 := by decide +kernel
def qw_R_isFull : List Cond := .code qy_R_isFull qc_R_isFull 1 (some .boolean) :: gG
theorem qh_R_isFull : qy_R_isFull.cls = qR_R ∧ qy_R_isFull.cls ≠ "java/lang/invoke/MethodHandle" ∧ qy_R_isFull.cls ≠ "java/lang/invoke/VarHandle" ∧ (parseMethodDescriptor qy_R_isFull.desc).map (fun d => d.parameters.length) = some 0 := by decide +kernel
def qw_R_lengthen : List Cond := .code qy_R_lengthen qc_R_lengthen 2 (some .int) :: gG
theorem qh_R_lengthen : qy_R_lengthen.cls = qR_R ∧ qy_R_lengthen.cls ≠ "java/lang/invoke/MethodHandle" ∧ qy_R_lengthen.cls ≠ "java/lang/invoke/VarHandle" ∧ (parseMethodDescriptor qy_R_lengthen.desc).map (fun d => d.parameters.length) = some 1 := by decide +kernel
def qw_L_cut : List Cond := .codeWith qy_L_cut qc_L_cut 3 (some .int) [(0, 5, 8, 13)] :: gG
theorem qh_L_cut : qy_L_cut.cls = qR_L ∧ qy_L_cut.cls ≠ "java/lang/invoke/MethodHandle" ∧ qy_L_cut.cls ≠ "java/lang/invoke/VarHandle" ∧ (parseMethodDescriptor qy_L_cut.desc).map (fun d => d.parameters.length) = some 2 := by decide +kernel
def qw_H_cut : List Cond := .code qy_H_cut qc_H_cut 2 (none) :: gG
theorem qh_H_cut : qy_H_cut.cls = qR_H ∧ qy_H_cut.cls ≠ "java/lang/invoke/MethodHandle" ∧ qy_H_cut.cls ≠ "java/lang/invoke/VarHandle" ∧ (parseMethodDescriptor qy_H_cut.desc).map (fun d => d.parameters.length) = some 1 := by decide +kernel
def qw_R_length : List Cond := .code qy_R_length qc_R_length 1 (some .int) :: gG
theorem qh_R_length : qy_R_length.cls = qR_R ∧ qy_R_length.cls ≠ "java/lang/invoke/MethodHandle" ∧ qy_R_length.cls ≠ "java/lang/invoke/VarHandle" ∧ (parseMethodDescriptor qy_R_length.desc).map (fun d => d.parameters.length) = some 0 := by decide +kernel
def qw_L_count : List Cond := .codeWith qy_L_count qc_L_count 6 (some .int) [(0, 12, 15, 31)] :: gG
theorem qh_L_count : qy_L_count.cls = qR_L ∧ qy_L_count.cls ≠ "java/lang/invoke/MethodHandle" ∧ qy_L_count.cls ≠ "java/lang/invoke/VarHandle" ∧ (parseMethodDescriptor qy_L_count.desc).map (fun d => d.parameters.length) = some 5 := by decide +kernel
def qw_H_count : List Cond := .code qy_H_count qc_H_count 4 (some .int) :: gG
theorem qh_H_count : qy_H_count.cls = qR_H ∧ qy_H_count.cls ≠ "java/lang/invoke/MethodHandle" ∧ qy_H_count.cls ≠ "java/lang/invoke/VarHandle" ∧ (parseMethodDescriptor qy_H_count.desc).map (fun d => d.parameters.length) = some 3 := by decide +kernel
def qw_H_checkPart : List Cond := .code qy_H_checkPart qc_H_checkPart 4 (none) :: gG
theorem qh_H_checkPart : qy_H_checkPart.cls = qR_H ∧ qy_H_checkPart.cls ≠ "java/lang/invoke/MethodHandle" ∧ qy_H_checkPart.cls ≠ "java/lang/invoke/VarHandle" ∧ (parseMethodDescriptor qy_H_checkPart.desc).map (fun d => d.parameters.length) = some 3 := by decide +kernel
def qw_C_fill : List Cond := .code qy_C_fill qc_C_fill 3 (none) :: gG
theorem qh_C_fill : qy_C_fill.cls = qR_C ∧ qy_C_fill.cls ≠ "java/lang/invoke/MethodHandle" ∧ qy_C_fill.cls ≠ "java/lang/invoke/VarHandle" ∧ (parseMethodDescriptor qy_C_fill.desc).map (fun d => d.parameters.length) = some 1 := by decide +kernel
def qw_C_fillColumn : List Cond := .code qy_C_fillColumn qc_C_fillColumn 3 (none) :: gG
theorem qh_C_fillColumn : qy_C_fillColumn.cls = qR_C ∧ qy_C_fillColumn.cls ≠ "java/lang/invoke/MethodHandle" ∧ qy_C_fillColumn.cls ≠ "java/lang/invoke/VarHandle" ∧ (parseMethodDescriptor qy_C_fillColumn.desc).map (fun d => d.parameters.length) = some 1 := by decide +kernel
def qw_C_fillRests : List Cond := .code qy_C_fillRests qc_C_fillRests 4 (none) :: gG
theorem qh_C_fillRests : qy_C_fillRests.cls = qR_C ∧ qy_C_fillRests.cls ≠ "java/lang/invoke/MethodHandle" ∧ qy_C_fillRests.cls ≠ "java/lang/invoke/VarHandle" ∧ (parseMethodDescriptor qy_C_fillRests.desc).map (fun d => d.parameters.length) = some 2 := by decide +kernel
def qw_G_size : List Cond := .code qy_G_size qc_G_size 1 (some .int) :: gG
theorem qh_G_size : qy_G_size.cls = qR_G ∧ qy_G_size.cls ≠ "java/lang/invoke/MethodHandle" ∧ qy_G_size.cls ≠ "java/lang/invoke/VarHandle" ∧ (parseMethodDescriptor qy_G_size.desc).map (fun d => d.parameters.length) = some 0 := by decide +kernel
def qw_C_fillRest : List Cond := .code qy_C_fillRest qc_C_fillRest 13 (none) :: gG
theorem qh_C_fillRest : qy_C_fillRest.cls = qR_C ∧ qy_C_fillRest.cls ≠ "java/lang/invoke/MethodHandle" ∧ qy_C_fillRest.cls ≠ "java/lang/invoke/VarHandle" ∧ (parseMethodDescriptor qy_C_fillRest.desc).map (fun d => d.parameters.length) = some 3 := by decide +kernel
def qw_G_lastSecondEnd : List Cond := .code qy_G_lastSecondEnd qc_G_lastSecondEnd 3 (some .int) :: gG
theorem qh_G_lastSecondEnd : qy_G_lastSecondEnd.cls = qR_G ∧ qy_G_lastSecondEnd.cls ≠ "java/lang/invoke/MethodHandle" ∧ qy_G_lastSecondEnd.cls ≠ "java/lang/invoke/VarHandle" ∧ (parseMethodDescriptor qy_G_lastSecondEnd.desc).map (fun d => d.parameters.length) = some 2 := by decide +kernel
def qw_G_leastSecondEnd : List Cond := .code qy_G_leastSecondEnd qc_G_leastSecondEnd 4 (some .int) :: gG
theorem qh_G_leastSecondEnd : qy_G_leastSecondEnd.cls = qR_G ∧ qy_G_leastSecondEnd.cls ≠ "java/lang/invoke/MethodHandle" ∧ qy_G_leastSecondEnd.cls ≠ "java/lang/invoke/VarHandle" ∧ (parseMethodDescriptor qy_G_leastSecondEnd.desc).map (fun d => d.parameters.length) = some 3 := by decide +kernel
def qw_C_trees : List Cond := .code qy_C_trees qc_C_trees 5 (some .int) :: gG
theorem qh_C_trees : qy_C_trees.cls = qR_C ∧ qy_C_trees.cls ≠ "java/lang/invoke/MethodHandle" ∧ qy_C_trees.cls ≠ "java/lang/invoke/VarHandle" ∧ (parseMethodDescriptor qy_C_trees.desc).map (fun d => d.parameters.length) = some 3 := by decide +kernel
def qw_R_token : List Cond := .code qy_R_token qc_R_token 2 (some .int) :: gG
theorem qh_R_token : qy_R_token.cls = qR_R ∧ qy_R_token.cls ≠ "java/lang/invoke/MethodHandle" ∧ qy_R_token.cls ≠ "java/lang/invoke/VarHandle" ∧ (parseMethodDescriptor qy_R_token.desc).map (fun d => d.parameters.length) = some 1 := by decide +kernel
def qw_C_cell : List Cond := .code qy_C_cell qc_C_cell 3 (some .int) :: gG
theorem qh_C_cell : qy_C_cell.cls = qR_C ∧ qy_C_cell.cls ≠ "java/lang/invoke/MethodHandle" ∧ qy_C_cell.cls ≠ "java/lang/invoke/VarHandle" ∧ (parseMethodDescriptor qy_C_cell.desc).map (fun d => d.parameters.length) = some 3 := by decide +kernel
def qw_C_leastCost : List Cond := .code qy_C_leastCost qc_C_leastCost 5 (some .int) :: gG
theorem qh_C_leastCost : qy_C_leastCost.cls = qR_C ∧ qy_C_leastCost.cls ≠ "java/lang/invoke/MethodHandle" ∧ qy_C_leastCost.cls ≠ "java/lang/invoke/VarHandle" ∧ (parseMethodDescriptor qy_C_leastCost.desc).map (fun d => d.parameters.length) = some 3 := by decide +kernel
def qw_H_atMostMany : List Cond := .code qy_H_atMostMany qc_H_atMostMany 2 (some .int) :: gG
theorem qh_H_atMostMany : qy_H_atMostMany.cls = qR_H ∧ qy_H_atMostMany.cls ≠ "java/lang/invoke/MethodHandle" ∧ qy_H_atMostMany.cls ≠ "java/lang/invoke/VarHandle" ∧ (parseMethodDescriptor qy_H_atMostMany.desc).map (fun d => d.parameters.length) = some 1 := by decide +kernel
def qw_C_cheaper : List Cond := .code qy_C_cheaper qc_C_cheaper 2 (some .int) :: gG
theorem qh_C_cheaper : qy_C_cheaper.cls = qR_C ∧ qy_C_cheaper.cls ≠ "java/lang/invoke/MethodHandle" ∧ qy_C_cheaper.cls ≠ "java/lang/invoke/VarHandle" ∧ (parseMethodDescriptor qy_C_cheaper.desc).map (fun d => d.parameters.length) = some 2 := by decide +kernel
def qw_C_restCell : List Cond := .code qy_C_restCell qc_C_restCell 3 (some .int) :: gG
theorem qh_C_restCell : qy_C_restCell.cls = qR_C ∧ qy_C_restCell.cls ≠ "java/lang/invoke/MethodHandle" ∧ qy_C_restCell.cls ≠ "java/lang/invoke/VarHandle" ∧ (parseMethodDescriptor qy_C_restCell.desc).map (fun d => d.parameters.length) = some 2 := by decide +kernel
def qw_C_fillPart : List Cond := .code qy_C_fillPart qc_C_fillPart 4 (none) :: gG
theorem qh_C_fillPart : qy_C_fillPart.cls = qR_C ∧ qy_C_fillPart.cls ≠ "java/lang/invoke/MethodHandle" ∧ qy_C_fillPart.cls ≠ "java/lang/invoke/VarHandle" ∧ (parseMethodDescriptor qy_C_fillPart.desc).map (fun d => d.parameters.length) = some 2 := by decide +kernel
def qw_C_write : List Cond := .code qy_C_write qc_C_write 7 (none) :: gG
theorem qh_C_write : qy_C_write.cls = qR_C ∧ qy_C_write.cls ≠ "java/lang/invoke/MethodHandle" ∧ qy_C_write.cls ≠ "java/lang/invoke/VarHandle" ∧ (parseMethodDescriptor qy_C_write.desc).map (fun d => d.parameters.length) = some 5 := by decide +kernel
def qw_G_inStepOrder : List Cond := .code qy_G_inStepOrder qc_G_inStepOrder 2 (some .int) :: gG
theorem qh_G_inStepOrder : qy_G_inStepOrder.cls = qR_G ∧ qy_G_inStepOrder.cls ≠ "java/lang/invoke/MethodHandle" ∧ qy_G_inStepOrder.cls ≠ "java/lang/invoke/VarHandle" ∧ (parseMethodDescriptor qy_G_inStepOrder.desc).map (fun d => d.parameters.length) = some 1 := by decide +kernel
def qw_C_addProduction : List Cond := .code qy_C_addProduction qc_C_addProduction 14 (none) :: gG
theorem qh_C_addProduction : qy_C_addProduction.cls = qR_C ∧ qy_C_addProduction.cls ≠ "java/lang/invoke/MethodHandle" ∧ qy_C_addProduction.cls ≠ "java/lang/invoke/VarHandle" ∧ (parseMethodDescriptor qy_C_addProduction.desc).map (fun d => d.parameters.length) = some 3 := by decide +kernel
def qw_G_head : List Cond := .code qy_G_head qc_G_head 2 (some .int) :: gG
theorem qh_G_head : qy_G_head.cls = qR_G ∧ qy_G_head.cls ≠ "java/lang/invoke/MethodHandle" ∧ qy_G_head.cls ≠ "java/lang/invoke/VarHandle" ∧ (parseMethodDescriptor qy_G_head.desc).map (fun d => d.parameters.length) = some 1 := by decide +kernel
def qw_G_lastFirstEnd : List Cond := .code qy_G_lastFirstEnd qc_G_lastFirstEnd 3 (some .int) :: gG
theorem qh_G_lastFirstEnd : qy_G_lastFirstEnd.cls = qR_G ∧ qy_G_lastFirstEnd.cls ≠ "java/lang/invoke/MethodHandle" ∧ qy_G_lastFirstEnd.cls ≠ "java/lang/invoke/VarHandle" ∧ (parseMethodDescriptor qy_G_lastFirstEnd.desc).map (fun d => d.parameters.length) = some 2 := by decide +kernel
def qw_G_leastFirstEnd : List Cond := .code qy_G_leastFirstEnd qc_G_leastFirstEnd 4 (some .int) :: gG
theorem qh_G_leastFirstEnd : qy_G_leastFirstEnd.cls = qR_G ∧ qy_G_leastFirstEnd.cls ≠ "java/lang/invoke/MethodHandle" ∧ qy_G_leastFirstEnd.cls ≠ "java/lang/invoke/VarHandle" ∧ (parseMethodDescriptor qy_G_leastFirstEnd.desc).map (fun d => d.parameters.length) = some 3 := by decide +kernel
def qw_G_ownCost : List Cond := .code qy_G_ownCost qc_G_ownCost 2 (some .int) :: gG
theorem qh_G_ownCost : qy_G_ownCost.cls = qR_G ∧ qy_G_ownCost.cls ≠ "java/lang/invoke/MethodHandle" ∧ qy_G_ownCost.cls ≠ "java/lang/invoke/VarHandle" ∧ (parseMethodDescriptor qy_G_ownCost.desc).map (fun d => d.parameters.length) = some 1 := by decide +kernel
def qw_J_max : List Cond := .code qy_J_max qc_J_max 2 (some .int) :: gG
theorem qh_J_max : qy_J_max.cls = "java/lang/Math" ∧ qy_J_max.cls ≠ "java/lang/invoke/MethodHandle" ∧ qy_J_max.cls ≠ "java/lang/invoke/VarHandle" ∧ (parseMethodDescriptor qy_J_max.desc).map (fun d => d.parameters.length) = some 2 := by decide +kernel
def qw_L_cost : List Cond := .codeWith qy_L_cost qc_L_cost 6 (some .int) [(0, 12, 15, 31)] :: gG
theorem qh_L_cost : qy_L_cost.cls = qR_L ∧ qy_L_cost.cls ≠ "java/lang/invoke/MethodHandle" ∧ qy_L_cost.cls ≠ "java/lang/invoke/VarHandle" ∧ (parseMethodDescriptor qy_L_cost.desc).map (fun d => d.parameters.length) = some 5 := by decide +kernel
def qw_H_cost : List Cond := .code qy_H_cost qc_H_cost 4 (some .int) :: gG
theorem qh_H_cost : qy_H_cost.cls = qR_H ∧ qy_H_cost.cls ≠ "java/lang/invoke/MethodHandle" ∧ qy_H_cost.cls ≠ "java/lang/invoke/VarHandle" ∧ (parseMethodDescriptor qy_H_cost.desc).map (fun d => d.parameters.length) = some 3 := by decide +kernel
def qw_L_tree : List Cond := .codeWith qy_L_tree qc_L_tree 7 (some .int) [(0, 14, 17, 31), (0, 14, 21, 13), (0, 14, 25, 40)] :: gG
theorem qh_L_tree : qy_L_tree.cls = qR_L ∧ qy_L_tree.cls ≠ "java/lang/invoke/MethodHandle" ∧ qy_L_tree.cls ≠ "java/lang/invoke/VarHandle" ∧ (parseMethodDescriptor qy_L_tree.desc).map (fun d => d.parameters.length) = some 6 := by decide +kernel
def qw_H_tree : List Cond := .code qy_H_tree qc_H_tree 6 (some .int) :: gG
theorem qh_H_tree : qy_H_tree.cls = qR_H ∧ qy_H_tree.cls ≠ "java/lang/invoke/MethodHandle" ∧ qy_H_tree.cls ≠ "java/lang/invoke/VarHandle" ∧ (parseMethodDescriptor qy_H_tree.desc).map (fun d => d.parameters.length) = some 4 := by decide +kernel
def qw_F_find : List Cond := .code qy_F_find qc_F_find 10 (none) :: gG
theorem qh_F_find : qy_F_find.cls = qR_F ∧ qy_F_find.cls ≠ "java/lang/invoke/MethodHandle" ∧ qy_F_find.cls ≠ "java/lang/invoke/VarHandle" ∧ (parseMethodDescriptor qy_F_find.desc).map (fun d => d.parameters.length) = some 5 := by decide +kernel
def qw_F_pileUp : List Cond := .code qy_F_pileUp qc_F_pileUp 6 (none) :: gG
theorem qh_F_pileUp : qy_F_pileUp.cls = qR_F ∧ qy_F_pileUp.cls ≠ "java/lang/invoke/MethodHandle" ∧ qy_F_pileUp.cls ≠ "java/lang/invoke/VarHandle" ∧ (parseMethodDescriptor qy_F_pileUp.desc).map (fun d => d.parameters.length) = some 5 := by decide +kernel
def qw_F_findProduction : List Cond := .code qy_F_findProduction qc_F_findProduction 3 (some .int) :: gG
theorem qh_F_findProduction : qy_F_findProduction.cls = qR_F ∧ qy_F_findProduction.cls ≠ "java/lang/invoke/MethodHandle" ∧ qy_F_findProduction.cls ≠ "java/lang/invoke/VarHandle" ∧ (parseMethodDescriptor qy_F_findProduction.desc).map (fun d => d.parameters.length) = some 1 := by decide +kernel
def qw_F_findSplit : List Cond := .code qy_F_findSplit qc_F_findSplit 7 (some .boolean) :: gG
theorem qh_F_findSplit : qy_F_findSplit.cls = qR_F ∧ qy_F_findSplit.cls ≠ "java/lang/invoke/MethodHandle" ∧ qy_F_findSplit.cls ≠ "java/lang/invoke/VarHandle" ∧ (parseMethodDescriptor qy_F_findSplit.desc).map (fun d => d.parameters.length) = some 1 := by decide +kernel
def qw_F_isWithin : List Cond := .code qy_F_isWithin qc_F_isWithin 5 (some .boolean) :: gG
theorem qh_F_isWithin : qy_F_isWithin.cls = qR_F ∧ qy_F_isWithin.cls ≠ "java/lang/invoke/MethodHandle" ∧ qy_F_isWithin.cls ≠ "java/lang/invoke/VarHandle" ∧ (parseMethodDescriptor qy_F_isWithin.desc).map (fun d => d.parameters.length) = some 3 := by decide +kernel
def qw_F_splitTrees : List Cond := .code qy_F_splitTrees qc_F_splitTrees 6 (some .int) :: gG
theorem qh_F_splitTrees : qy_F_splitTrees.cls = qR_F ∧ qy_F_splitTrees.cls ≠ "java/lang/invoke/MethodHandle" ∧ qy_F_splitTrees.cls ≠ "java/lang/invoke/VarHandle" ∧ (parseMethodDescriptor qy_F_splitTrees.desc).map (fun d => d.parameters.length) = some 3 := by decide +kernel
def qw_F_splitCost : List Cond := .code qy_F_splitCost qc_F_splitCost 4 (some .int) :: gG
theorem qh_F_splitCost : qy_F_splitCost.cls = qR_F ∧ qy_F_splitCost.cls ≠ "java/lang/invoke/MethodHandle" ∧ qy_F_splitCost.cls ≠ "java/lang/invoke/VarHandle" ∧ (parseMethodDescriptor qy_F_splitCost.desc).map (fun d => d.parameters.length) = some 3 := by decide +kernel
def qw_T_grow : List Cond := .code qy_T_grow qc_T_grow 6 (none) :: gG
theorem qh_T_grow : qy_T_grow.cls = qR_T ∧ qy_T_grow.cls ≠ "java/lang/invoke/MethodHandle" ∧ qy_T_grow.cls ≠ "java/lang/invoke/VarHandle" ∧ (parseMethodDescriptor qy_T_grow.desc).map (fun d => d.parameters.length) = some 4 := by decide +kernel
def qw_F_pileUpItems : List Cond := .code qy_F_pileUpItems qc_F_pileUpItems 8 (none) :: gG
theorem qh_F_pileUpItems : qy_F_pileUpItems.cls = qR_F ∧ qy_F_pileUpItems.cls ≠ "java/lang/invoke/MethodHandle" ∧ qy_F_pileUpItems.cls ≠ "java/lang/invoke/VarHandle" ∧ (parseMethodDescriptor qy_F_pileUpItems.desc).map (fun d => d.parameters.length) = some 2 := by decide +kernel
def qw_T_size : List Cond := .code qy_T_size qc_T_size 1 (some .int) :: gG
theorem qh_T_size : qy_T_size.cls = qR_T ∧ qy_T_size.cls ≠ "java/lang/invoke/MethodHandle" ∧ qy_T_size.cls ≠ "java/lang/invoke/VarHandle" ∧ (parseMethodDescriptor qy_T_size.desc).map (fun d => d.parameters.length) = some 0 := by decide +kernel
def qw_L_node : List Cond := .codeWith qy_L_node qc_L_node 5 (some .int) [(0, 10, 13, 31), (0, 10, 17, 13)] :: gG
theorem qh_L_node : qy_L_node.cls = qR_L ∧ qy_L_node.cls ≠ "java/lang/invoke/MethodHandle" ∧ qy_L_node.cls ≠ "java/lang/invoke/VarHandle" ∧ (parseMethodDescriptor qy_L_node.desc).map (fun d => d.parameters.length) = some 4 := by decide +kernel
def qw_H_node : List Cond := .code qy_H_node qc_H_node 3 (some .int) :: gG
theorem qh_H_node : qy_H_node.cls = qR_H ∧ qy_H_node.cls ≠ "java/lang/invoke/MethodHandle" ∧ qy_H_node.cls ≠ "java/lang/invoke/VarHandle" ∧ (parseMethodDescriptor qy_H_node.desc).map (fun d => d.parameters.length) = some 2 := by decide +kernel
def qw_T_fact : List Cond := .code qy_T_fact qc_T_fact 4 (some .int) :: gG
theorem qh_T_fact : qy_T_fact.cls = qR_T ∧ qy_T_fact.cls ≠ "java/lang/invoke/MethodHandle" ∧ qy_T_fact.cls ≠ "java/lang/invoke/VarHandle" ∧ (parseMethodDescriptor qy_T_fact.desc).map (fun d => d.parameters.length) = some 2 := by decide +kernel
def qw_L_next : List Cond := .codeWith qy_L_next qc_L_next 4 (some .int) [(0, 9, 12, 31)] :: gG
theorem qh_L_next : qy_L_next.cls = qR_L ∧ qy_L_next.cls ≠ "java/lang/invoke/MethodHandle" ∧ qy_L_next.cls ≠ "java/lang/invoke/VarHandle" ∧ (parseMethodDescriptor qy_L_next.desc).map (fun d => d.parameters.length) = some 3 := by decide +kernel
def qw_H_next : List Cond := .code qy_H_next qc_H_next 3 (some .int) :: gG
theorem qh_H_next : qy_H_next.cls = qR_H ∧ qy_H_next.cls ≠ "java/lang/invoke/MethodHandle" ∧ qy_H_next.cls ≠ "java/lang/invoke/VarHandle" ∧ (parseMethodDescriptor qy_H_next.desc).map (fun d => d.parameters.length) = some 1 := by decide +kernel
def qw_O_tokensBehind : List Cond := .code qy_O_tokensBehind qc_O_tokensBehind 3 (some .int) :: gG
theorem qh_O_tokensBehind : qy_O_tokensBehind.cls = qR_O ∧ qy_O_tokensBehind.cls ≠ "java/lang/invoke/MethodHandle" ∧ qy_O_tokensBehind.cls ≠ "java/lang/invoke/VarHandle" ∧ (parseMethodDescriptor qy_O_tokensBehind.desc).map (fun d => d.parameters.length) = some 1 := by decide +kernel
def qw_O_lookFrom : List Cond := .code qy_O_lookFrom qc_O_lookFrom 4 (none) :: gG
theorem qh_O_lookFrom : qy_O_lookFrom.cls = qR_O ∧ qy_O_lookFrom.cls ≠ "java/lang/invoke/MethodHandle" ∧ qy_O_lookFrom.cls ≠ "java/lang/invoke/VarHandle" ∧ (parseMethodDescriptor qy_O_lookFrom.desc).map (fun d => d.parameters.length) = some 1 := by decide +kernel
def qw_O_write : List Cond := .code qy_O_write qc_O_write 5 (none) :: gG
theorem qh_O_write : qy_O_write.cls = qR_O ∧ qy_O_write.cls ≠ "java/lang/invoke/MethodHandle" ∧ qy_O_write.cls ≠ "java/lang/invoke/VarHandle" ∧ (parseMethodDescriptor qy_O_write.desc).map (fun d => d.parameters.length) = some 3 := by decide +kernel
def qw_O_cell : List Cond := .code qy_O_cell qc_O_cell 3 (some .int) :: gG
theorem qh_O_cell : qy_O_cell.cls = qR_O ∧ qy_O_cell.cls ≠ "java/lang/invoke/MethodHandle" ∧ qy_O_cell.cls ≠ "java/lang/invoke/VarHandle" ∧ (parseMethodDescriptor qy_O_cell.desc).map (fun d => d.parameters.length) = some 2 := by decide +kernel
def qw_O_nextsBehindFirst : List Cond := .code qy_O_nextsBehindFirst qc_O_nextsBehindFirst 5 (some .int) :: gG
theorem qh_O_nextsBehindFirst : qy_O_nextsBehindFirst.cls = qR_O ∧ qy_O_nextsBehindFirst.cls ≠ "java/lang/invoke/MethodHandle" ∧ qy_O_nextsBehindFirst.cls ≠ "java/lang/invoke/VarHandle" ∧ (parseMethodDescriptor qy_O_nextsBehindFirst.desc).map (fun d => d.parameters.length) = some 2 := by decide +kernel
def qw_O_itemNexts : List Cond := .code qy_O_itemNexts qc_O_itemNexts 4 (some .int) :: gG
theorem qh_O_itemNexts : qy_O_itemNexts.cls = qR_O ∧ qy_O_itemNexts.cls ≠ "java/lang/invoke/MethodHandle" ∧ qy_O_itemNexts.cls ≠ "java/lang/invoke/VarHandle" ∧ (parseMethodDescriptor qy_O_itemNexts.desc).map (fun d => d.parameters.length) = some 2 := by decide +kernel
def qw_O_nextsBehindSecond : List Cond := .code qy_O_nextsBehindSecond qc_O_nextsBehindSecond 5 (some .int) :: gG
theorem qh_O_nextsBehindSecond : qy_O_nextsBehindSecond.cls = qR_O ∧ qy_O_nextsBehindSecond.cls ≠ "java/lang/invoke/MethodHandle" ∧ qy_O_nextsBehindSecond.cls ≠ "java/lang/invoke/VarHandle" ∧ (parseMethodDescriptor qy_O_nextsBehindSecond.desc).map (fun d => d.parameters.length) = some 2 := by decide +kernel
def qw_O_addTo : List Cond := .code qy_O_addTo qc_O_addTo 4 (none) :: gG
theorem qh_O_addTo : qy_O_addTo.cls = qR_O ∧ qy_O_addTo.cls ≠ "java/lang/invoke/MethodHandle" ∧ qy_O_addTo.cls ≠ "java/lang/invoke/VarHandle" ∧ (parseMethodDescriptor qy_O_addTo.desc).map (fun d => d.parameters.length) = some 3 := by decide +kernel
def qw_O_addFirstItems : List Cond := .code qy_O_addFirstItems qc_O_addFirstItems 5 (some .boolean) :: gG
theorem qh_O_addFirstItems : qy_O_addFirstItems.cls = qR_O ∧ qy_O_addFirstItems.cls ≠ "java/lang/invoke/MethodHandle" ∧ qy_O_addFirstItems.cls ≠ "java/lang/invoke/VarHandle" ∧ (parseMethodDescriptor qy_O_addFirstItems.desc).map (fun d => d.parameters.length) = some 1 := by decide +kernel
def qw_M_init : List Cond := .code qy_M_init qc_M_init 1 (none) :: gG
theorem qh_M_init : qy_M_init.cls = qR_M ∧ qy_M_init.cls ≠ "java/lang/invoke/MethodHandle" ∧ qy_M_init.cls ≠ "java/lang/invoke/VarHandle" ∧ (parseMethodDescriptor qy_M_init.desc).map (fun d => d.parameters.length) = some 0 := by decide +kernel
def qw_M_thrown : List Cond := .code qy_M_thrown qc_M_thrown 1 (some .int) :: gG
theorem qh_M_thrown : qy_M_thrown.cls = qR_M ∧ qy_M_thrown.cls ≠ "java/lang/invoke/MethodHandle" ∧ qy_M_thrown.cls ≠ "java/lang/invoke/VarHandle" ∧ (parseMethodDescriptor qy_M_thrown.desc).map (fun d => d.parameters.length) = some 0 := by decide +kernel
def qw_M_clear : List Cond := .code qy_M_clear qc_M_clear 1 (none) :: gG
theorem qh_M_clear : qy_M_clear.cls = qR_M ∧ qy_M_clear.cls ≠ "java/lang/invoke/MethodHandle" ∧ qy_M_clear.cls ≠ "java/lang/invoke/VarHandle" ∧ (parseMethodDescriptor qy_M_clear.desc).map (fun d => d.parameters.length) = some 0 := by decide +kernel
def qw_M_production : List Cond := .code qy_M_production qc_M_production 8 (some .int) :: gG
theorem qh_M_production : qy_M_production.cls = qR_M ∧ qy_M_production.cls ≠ "java/lang/invoke/MethodHandle" ∧ qy_M_production.cls ≠ "java/lang/invoke/VarHandle" ∧ (parseMethodDescriptor qy_M_production.desc).map (fun d => d.parameters.length) = some 5 := by decide +kernel
def qw_M_in : List Cond := .code qy_M_in qc_M_in 3 (some .boolean) :: gG
theorem qh_M_in : qy_M_in.cls = qR_M ∧ qy_M_in.cls ≠ "java/lang/invoke/MethodHandle" ∧ qy_M_in.cls ≠ "java/lang/invoke/VarHandle" ∧ (parseMethodDescriptor qy_M_in.desc).map (fun d => d.parameters.length) = some 3 := by decide +kernel
def qw_M_isItem : List Cond := .code qy_M_isItem qc_M_isItem 1 (some .boolean) :: gG
theorem qh_M_isItem : qy_M_isItem.cls = qR_M ∧ qy_M_isItem.cls ≠ "java/lang/invoke/MethodHandle" ∧ qy_M_isItem.cls ≠ "java/lang/invoke/VarHandle" ∧ (parseMethodDescriptor qy_M_isItem.desc).map (fun d => d.parameters.length) = some 1 := by decide +kernel
def qw_M_leads : List Cond := .code qy_M_leads qc_M_leads 7 (some .boolean) :: gG
theorem qh_M_leads : qy_M_leads.cls = qR_M ∧ qy_M_leads.cls ≠ "java/lang/invoke/MethodHandle" ∧ qy_M_leads.cls ≠ "java/lang/invoke/VarHandle" ∧ (parseMethodDescriptor qy_M_leads.desc).map (fun d => d.parameters.length) = some 2 := by decide +kernel
def qw_M_refuse : List Cond := .code qy_M_refuse qc_M_refuse 4 (some .boolean) :: gG
theorem qh_M_refuse : qy_M_refuse.cls = qR_M ∧ qy_M_refuse.cls ≠ "java/lang/invoke/MethodHandle" ∧ qy_M_refuse.cls ≠ "java/lang/invoke/VarHandle" ∧ (parseMethodDescriptor qy_M_refuse.desc).map (fun d => d.parameters.length) = some 3 := by decide +kernel
def qw_M_put : List Cond := .code qy_M_put qc_M_put 3 (some .int) :: gG
theorem qh_M_put : qy_M_put.cls = qR_M ∧ qy_M_put.cls ≠ "java/lang/invoke/MethodHandle" ∧ qy_M_put.cls ≠ "java/lang/invoke/VarHandle" ∧ (parseMethodDescriptor qy_M_put.desc).map (fun d => d.parameters.length) = some 1 := by decide +kernel
def qw_M_cut : List Cond := .code qy_M_cut qc_M_cut 2 (none) :: gG
theorem qh_M_cut : qy_M_cut.cls = qR_M ∧ qy_M_cut.cls ≠ "java/lang/invoke/MethodHandle" ∧ qy_M_cut.cls ≠ "java/lang/invoke/VarHandle" ∧ (parseMethodDescriptor qy_M_cut.desc).map (fun d => d.parameters.length) = some 1 := by decide +kernel
def qw_M_count : List Cond := .code qy_M_count qc_M_count 4 (some .int) :: gG
theorem qh_M_count : qy_M_count.cls = qR_M ∧ qy_M_count.cls ≠ "java/lang/invoke/MethodHandle" ∧ qy_M_count.cls ≠ "java/lang/invoke/VarHandle" ∧ (parseMethodDescriptor qy_M_count.desc).map (fun d => d.parameters.length) = some 3 := by decide +kernel
def qw_M_isPart : List Cond := .code qy_M_isPart qc_M_isPart 4 (some .boolean) :: gG
theorem qh_M_isPart : qy_M_isPart.cls = qR_M ∧ qy_M_isPart.cls ≠ "java/lang/invoke/MethodHandle" ∧ qy_M_isPart.cls ≠ "java/lang/invoke/VarHandle" ∧ (parseMethodDescriptor qy_M_isPart.desc).map (fun d => d.parameters.length) = some 3 := by decide +kernel
def qw_M_know : List Cond := .code qy_M_know qc_M_know 4 (none) :: gG
theorem qh_M_know : qy_M_know.cls = qR_M ∧ qy_M_know.cls ≠ "java/lang/invoke/MethodHandle" ∧ qy_M_know.cls ≠ "java/lang/invoke/VarHandle" ∧ (parseMethodDescriptor qy_M_know.desc).map (fun d => d.parameters.length) = some 0 := by decide +kernel
def qw_M_at : List Cond := .code qy_M_at qc_M_at 3 (some .int) :: gG
theorem qh_M_at : qy_M_at.cls = qR_M ∧ qy_M_at.cls ≠ "java/lang/invoke/MethodHandle" ∧ qy_M_at.cls ≠ "java/lang/invoke/VarHandle" ∧ (parseMethodDescriptor qy_M_at.desc).map (fun d => d.parameters.length) = some 3 := by decide +kernel
def qw_M_work : List Cond := .code qy_M_work qc_M_work 10 (some .boolean) :: gG
theorem qh_M_work : qy_M_work.cls = qR_M ∧ qy_M_work.cls ≠ "java/lang/invoke/MethodHandle" ∧ qy_M_work.cls ≠ "java/lang/invoke/VarHandle" ∧ (parseMethodDescriptor qy_M_work.desc).map (fun d => d.parameters.length) = some 2 := by decide +kernel
def qw_M_begin : List Cond := .code qy_M_begin qc_M_begin 5 (none) :: gG
theorem qh_M_begin : qy_M_begin.cls = qR_M ∧ qy_M_begin.cls ≠ "java/lang/invoke/MethodHandle" ∧ qy_M_begin.cls ≠ "java/lang/invoke/VarHandle" ∧ (parseMethodDescriptor qy_M_begin.desc).map (fun d => d.parameters.length) = some 3 := by decide +kernel
def qw_M_length : List Cond := .code qy_M_length qc_M_length 2 (some .int) :: gG
theorem qh_M_length : qy_M_length.cls = qR_M ∧ qy_M_length.cls ≠ "java/lang/invoke/MethodHandle" ∧ qy_M_length.cls ≠ "java/lang/invoke/VarHandle" ∧ (parseMethodDescriptor qy_M_length.desc).map (fun d => d.parameters.length) = some 1 := by decide +kernel
def qw_M_isParted : List Cond := .code qy_M_isParted qc_M_isParted 5 (some .boolean) :: gG
theorem qh_M_isParted : qy_M_isParted.cls = qR_M ∧ qy_M_isParted.cls ≠ "java/lang/invoke/MethodHandle" ∧ qy_M_isParted.cls ≠ "java/lang/invoke/VarHandle" ∧ (parseMethodDescriptor qy_M_isParted.desc).map (fun d => d.parameters.length) = some 3 := by decide +kernel
def qw_M_ways : List Cond := .code qy_M_ways qc_M_ways 7 (some .int) :: gG
theorem qh_M_ways : qy_M_ways.cls = qR_M ∧ qy_M_ways.cls ≠ "java/lang/invoke/MethodHandle" ∧ qy_M_ways.cls ≠ "java/lang/invoke/VarHandle" ∧ (parseMethodDescriptor qy_M_ways.desc).map (fun d => d.parameters.length) = some 5 := by decide +kernel
def qw_M_many : List Cond := .code qy_M_many qc_M_many 4 (some .int) :: gG
theorem qh_M_many : qy_M_many.cls = qR_M ∧ qy_M_many.cls ≠ "java/lang/invoke/MethodHandle" ∧ qy_M_many.cls ≠ "java/lang/invoke/VarHandle" ∧ (parseMethodDescriptor qy_M_many.desc).map (fun d => d.parameters.length) = some 3 := by decide +kernel
def qw_M_times : List Cond := .code qy_M_times qc_M_times 4 (some .int) :: gG
theorem qh_M_times : qy_M_times.cls = qR_M ∧ qy_M_times.cls ≠ "java/lang/invoke/MethodHandle" ∧ qy_M_times.cls ≠ "java/lang/invoke/VarHandle" ∧ (parseMethodDescriptor qy_M_times.desc).map (fun d => d.parameters.length) = some 2 := by decide +kernel
def qw_M_plus : List Cond := .code qy_M_plus qc_M_plus 2 (some .int) :: gG
theorem qh_M_plus : qy_M_plus.cls = qR_M ∧ qy_M_plus.cls ≠ "java/lang/invoke/MethodHandle" ∧ qy_M_plus.cls ≠ "java/lang/invoke/VarHandle" ∧ (parseMethodDescriptor qy_M_plus.desc).map (fun d => d.parameters.length) = some 2 := by decide +kernel
def qw_M_price : List Cond := .code qy_M_price qc_M_price 7 (some .int) :: gG
theorem qh_M_price : qy_M_price.cls = qR_M ∧ qy_M_price.cls ≠ "java/lang/invoke/MethodHandle" ∧ qy_M_price.cls ≠ "java/lang/invoke/VarHandle" ∧ (parseMethodDescriptor qy_M_price.desc).map (fun d => d.parameters.length) = some 5 := by decide +kernel
def qw_M_cheapest : List Cond := .code qy_M_cheapest qc_M_cheapest 4 (some .int) :: gG
theorem qh_M_cheapest : qy_M_cheapest.cls = qR_M ∧ qy_M_cheapest.cls ≠ "java/lang/invoke/MethodHandle" ∧ qy_M_cheapest.cls ≠ "java/lang/invoke/VarHandle" ∧ (parseMethodDescriptor qy_M_cheapest.desc).map (fun d => d.parameters.length) = some 3 := by decide +kernel
def qw_M_sum : List Cond := .code qy_M_sum qc_M_sum 2 (some .int) :: gG
theorem qh_M_sum : qy_M_sum.cls = qR_M ∧ qy_M_sum.cls ≠ "java/lang/invoke/MethodHandle" ∧ qy_M_sum.cls ≠ "java/lang/invoke/VarHandle" ∧ (parseMethodDescriptor qy_M_sum.desc).map (fun d => d.parameters.length) = some 2 := by decide +kernel
def qw_M_goOn : List Cond := .code qy_M_goOn qc_M_goOn 5 (none) :: gG
theorem qh_M_goOn : qy_M_goOn.cls = qR_M ∧ qy_M_goOn.cls ≠ "java/lang/invoke/MethodHandle" ∧ qy_M_goOn.cls ≠ "java/lang/invoke/VarHandle" ∧ (parseMethodDescriptor qy_M_goOn.desc).map (fun d => d.parameters.length) = some 3 := by decide +kernel
def qw_M_cost : List Cond := .code qy_M_cost qc_M_cost 4 (some .int) :: gG
theorem qh_M_cost : qy_M_cost.cls = qR_M ∧ qy_M_cost.cls ≠ "java/lang/invoke/MethodHandle" ∧ qy_M_cost.cls ≠ "java/lang/invoke/VarHandle" ∧ (parseMethodDescriptor qy_M_cost.desc).map (fun d => d.parameters.length) = some 3 := by decide +kernel
def qw_M_tree : List Cond := .code qy_M_tree qc_M_tree 9 (some .int) :: gG
theorem qh_M_tree : qy_M_tree.cls = qR_M ∧ qy_M_tree.cls ≠ "java/lang/invoke/MethodHandle" ∧ qy_M_tree.cls ≠ "java/lang/invoke/VarHandle" ∧ (parseMethodDescriptor qy_M_tree.desc).map (fun d => d.parameters.length) = some 4 := by decide +kernel
def qw_M_asks : List Cond := .code qy_M_asks qc_M_asks 6 (none) :: gG
theorem qh_M_asks : qy_M_asks.cls = qR_M ∧ qy_M_asks.cls ≠ "java/lang/invoke/MethodHandle" ∧ qy_M_asks.cls ≠ "java/lang/invoke/VarHandle" ∧ (parseMethodDescriptor qy_M_asks.desc).map (fun d => d.parameters.length) = some 5 := by decide +kernel
def qw_M_one : List Cond := .code qy_M_one qc_M_one 14 (none) :: gG
theorem qh_M_one : qy_M_one.cls = qR_M ∧ qy_M_one.cls ≠ "java/lang/invoke/MethodHandle" ∧ qy_M_one.cls ≠ "java/lang/invoke/VarHandle" ∧ (parseMethodDescriptor qy_M_one.desc).map (fun d => d.parameters.length) = some 0 := by decide +kernel
def qw_M_asksItem : List Cond := .code qy_M_asksItem qc_M_asksItem 6 (none) :: gG
theorem qh_M_asksItem : qy_M_asksItem.cls = qR_M ∧ qy_M_asksItem.cls ≠ "java/lang/invoke/MethodHandle" ∧ qy_M_asksItem.cls ≠ "java/lang/invoke/VarHandle" ∧ (parseMethodDescriptor qy_M_asksItem.desc).map (fun d => d.parameters.length) = some 5 := by decide +kernel
def qw_M_node : List Cond := .code qy_M_node qc_M_node 4 (some .int) :: gG
theorem qh_M_node : qy_M_node.cls = qR_M ∧ qy_M_node.cls ≠ "java/lang/invoke/MethodHandle" ∧ qy_M_node.cls ≠ "java/lang/invoke/VarHandle" ∧ (parseMethodDescriptor qy_M_node.desc).map (fun d => d.parameters.length) = some 2 := by decide +kernel
def qw_M_next : List Cond := .code qy_M_next qc_M_next 5 (some .int) :: gG
theorem qh_M_next : qy_M_next.cls = qR_M ∧ qy_M_next.cls ≠ "java/lang/invoke/MethodHandle" ∧ qy_M_next.cls ≠ "java/lang/invoke/VarHandle" ∧ (parseMethodDescriptor qy_M_next.desc).map (fun d => d.parameters.length) = some 1 := by decide +kernel
def qw_M_findUseful : List Cond := .code qy_M_findUseful qc_M_findUseful 4 (none) :: gG
theorem qh_M_findUseful : qy_M_findUseful.cls = qR_M ∧ qy_M_findUseful.cls ≠ "java/lang/invoke/MethodHandle" ∧ qy_M_findUseful.cls ≠ "java/lang/invoke/VarHandle" ∧ (parseMethodDescriptor qy_M_findUseful.desc).map (fun d => d.parameters.length) = some 0 := by decide +kernel
def qw_M_isUseful : List Cond := .code qy_M_isUseful qc_M_isUseful 2 (some .boolean) :: gG
theorem qh_M_isUseful : qy_M_isUseful.cls = qR_M ∧ qy_M_isUseful.cls ≠ "java/lang/invoke/MethodHandle" ∧ qy_M_isUseful.cls ≠ "java/lang/invoke/VarHandle" ∧ (parseMethodDescriptor qy_M_isUseful.desc).map (fun d => d.parameters.length) = some 1 := by decide +kernel
def qw_M_wants : List Cond := .code qy_M_wants qc_M_wants 6 (none) :: gG
theorem qh_M_wants : qy_M_wants.cls = qR_M ∧ qy_M_wants.cls ≠ "java/lang/invoke/MethodHandle" ∧ qy_M_wants.cls ≠ "java/lang/invoke/VarHandle" ∧ (parseMethodDescriptor qy_M_wants.desc).map (fun d => d.parameters.length) = some 3 := by decide +kernel
def qw_M_want : List Cond := .code qy_M_want qc_M_want 4 (none) :: gG
theorem qh_M_want : qy_M_want.cls = qR_M ∧ qy_M_want.cls ≠ "java/lang/invoke/MethodHandle" ∧ qy_M_want.cls ≠ "java/lang/invoke/VarHandle" ∧ (parseMethodDescriptor qy_M_want.desc).map (fun d => d.parameters.length) = some 3 := by decide +kernel
def nestW : List Cond := [Cond.methodLinkNest qR_H 11 qy_G_init qR_H, Cond.methodLinkNest qR_H 18 qy_R_init qR_H, Cond.methodLinkNest qR_H 34 qy_T_init qR_H, Cond.methodLinkNest qR_G 75 qy_H_isSymbol qR_H, Cond.methodLinkNest qR_G 38 qy_H_has qR_H, Cond.methodLinkNest qR_G 46 qy_H_isStep qR_H, Cond.methodLinkNest qR_C 99 qy_H_atMostMany qR_H, Cond.methodLinkNest qR_F 90 qy_H_isSymbol qR_H, Cond.methodLinkNest qR_F 134 qy_H_atMostMany qR_H]
def nestN (U : State) : Prop := ∀ w ∈ nestW, va_Nw w U
theorem nw_0 : (Cond.methodLinkNest qR_H 11 qy_G_init qR_H : Cond) ∈ nestW := List.mem_of_getElem? (i := 0) rfl
theorem nw_1 : (Cond.methodLinkNest qR_H 18 qy_R_init qR_H : Cond) ∈ nestW := List.mem_of_getElem? (i := 1) rfl
theorem nw_2 : (Cond.methodLinkNest qR_H 34 qy_T_init qR_H : Cond) ∈ nestW := List.mem_of_getElem? (i := 2) rfl
theorem nw_3 : (Cond.methodLinkNest qR_G 75 qy_H_isSymbol qR_H : Cond) ∈ nestW := List.mem_of_getElem? (i := 3) rfl
theorem nw_4 : (Cond.methodLinkNest qR_G 38 qy_H_has qR_H : Cond) ∈ nestW := List.mem_of_getElem? (i := 4) rfl
theorem nw_5 : (Cond.methodLinkNest qR_G 46 qy_H_isStep qR_H : Cond) ∈ nestW := List.mem_of_getElem? (i := 5) rfl
theorem nw_6 : (Cond.methodLinkNest qR_C 99 qy_H_atMostMany qR_H : Cond) ∈ nestW := List.mem_of_getElem? (i := 6) rfl
theorem nw_7 : (Cond.methodLinkNest qR_F 90 qy_H_isSymbol qR_H : Cond) ∈ nestW := List.mem_of_getElem? (i := 7) rfl
theorem nw_8 : (Cond.methodLinkNest qR_F 134 qy_H_atMostMany qR_H : Cond) ∈ nestW := List.mem_of_getElem? (i := 8) rfl
theorem x_N {s U : State} (h : nestN s) (hW : s.WarmedH U.vm) : nestN U := by
  intro w hw
  have hw0 := h w hw
  simp only [nestW, List.mem_cons, List.not_mem_nil, or_false] at hw
  rcases hw with rfl | rfl | rfl | rfl | rfl | rfl | rfl | rfl | rfl <;> exact va_Nw.warmM hW hw0

