set_option maxRecDepth 100000 in
theorem kc_D_init : cw_D_init ∈ gl := gl_T (List.mem_append_left _ (List.mem_of_getElem? (i := 16) rfl)) rfl
set_option maxRecDepth 100000 in
theorem kc_D_shape : cw_D_shape ∈ gl := gl_T (List.mem_append_left _ (List.mem_of_getElem? (i := 58) rfl)) rfl
set_option maxRecDepth 100000 in
theorem kc_D_put : cw_D_put ∈ gl := gl_T (List.mem_append_left _ (List.mem_of_getElem? (i := 145) rfl)) rfl
set_option maxRecDepth 100000 in
theorem kc_D_drop : cw_D_drop ∈ gl := gl_T (List.mem_append_left _ (List.mem_of_getElem? (i := 170) rfl)) rfl
set_option maxRecDepth 100000 in
theorem kc_D_at : cw_D_at ∈ gl := gl_T (List.mem_append_left _ (List.mem_of_getElem? (i := 186) rfl)) rfl
set_option maxRecDepth 100000 in
theorem kc_D_size : cw_D_size ∈ gl := gl_T (List.mem_append_left _ (List.mem_of_getElem? (i := 216) rfl)) rfl
set_option maxRecDepth 100000 in
theorem kc_D_multiply : cw_D_multiply ∈ gl := gl_T (List.mem_append_left _ (List.mem_of_getElem? (i := 229) rfl)) rfl
set_option maxRecDepth 100000 in
theorem kc_D_add : cw_D_add ∈ gl := gl_T (List.mem_append_right _ (List.mem_append_left _ (List.mem_of_getElem? (i := 91) rfl))) rfl
set_option maxRecDepth 100000 in
theorem kc_D_each : cw_D_each ∈ gl := gl_T (List.mem_append_right _ (List.mem_append_left _ (List.mem_of_getElem? (i := 102) rfl))) rfl
set_option maxRecDepth 100000 in
theorem kc_D_transpose : cw_D_transpose ∈ gl := gl_T (List.mem_append_right _ (List.mem_append_left _ (List.mem_of_getElem? (i := 109) rfl))) rfl
set_option maxRecDepth 100000 in
theorem kc_D_select : cw_D_select ∈ gl := gl_T (List.mem_append_right _ (List.mem_append_left _ (List.mem_of_getElem? (i := 116) rfl))) rfl
set_option maxRecDepth 100000 in
theorem kc_D_reduce : cw_D_reduce ∈ gl := gl_T (List.mem_append_right _ (List.mem_append_left _ (List.mem_of_getElem? (i := 126) rfl))) rfl
set_option maxRecDepth 100000 in
theorem kc_D_levels : cw_D_levels ∈ gl := gl_T (List.mem_append_right _ (List.mem_append_left _ (List.mem_of_getElem? (i := 133) rfl))) rfl
set_option maxRecDepth 100000 in
theorem kc_D_paths : cw_D_paths ∈ gl := gl_T (List.mem_append_right _ (List.mem_append_left _ (List.mem_of_getElem? (i := 154) rfl))) rfl
set_option maxRecDepth 100000 in
theorem kc_D_triangles : cw_D_triangles ∈ gl := gl_T (List.mem_append_right _ (List.mem_append_left _ (List.mem_of_getElem? (i := 173) rfl))) rfl
set_option maxRecDepth 100000 in
theorem kc_D_components : cw_D_components ∈ gl := gl_T (List.mem_append_right _ (List.mem_append_left _ (List.mem_of_getElem? (i := 180) rfl))) rfl
set_option maxRecDepth 100000 in
theorem kc_D_blank : cw_D_blank ∈ gl := gl_T (List.mem_append_right _ (List.mem_append_left _ (List.mem_of_getElem? (i := 30) rfl))) rfl
set_option maxRecDepth 100000 in
theorem kc_D_keep : cw_D_keep ∈ gl := gl_T (List.mem_append_right _ (List.mem_append_left _ (List.mem_of_getElem? (i := 84) rfl))) rfl
set_option maxRecDepth 100000 in
theorem kc_D_gatherProducts : cw_D_gatherProducts ∈ gl := gl_T (List.mem_append_right _ (List.mem_append_left _ (List.mem_of_getElem? (i := 33) rfl))) rfl
set_option maxRecDepth 100000 in
theorem kc_D_gatherAll : cw_D_gatherAll ∈ gl := gl_T (List.mem_append_right _ (List.mem_append_left _ (List.mem_of_getElem? (i := 77) rfl))) rfl
set_option maxRecDepth 100000 in
theorem kc_D_gather : cw_D_gather ∈ gl := gl_T (List.mem_append_right _ (List.mem_append_left _ (List.mem_of_getElem? (i := 68) rfl))) rfl
set_option maxRecDepth 100000 in
theorem kc_D_dropZeros : cw_D_dropZeros ∈ gl := gl_T (List.mem_append_right _ (List.mem_append_left _ (List.mem_of_getElem? (i := 80) rfl))) rfl
set_option maxRecDepth 100000 in
theorem kc_D_sumOver : cw_D_sumOver ∈ gl := gl_T (List.mem_append_right _ (List.mem_append_left _ (List.mem_of_getElem? (i := 71) rfl))) rfl
set_option maxRecDepth 100000 in
theorem kc_D_productOver : cw_D_productOver ∈ gl := gl_T (List.mem_append_right _ (List.mem_append_left _ (List.mem_of_getElem? (i := 36) rfl))) rfl
set_option maxRecDepth 100000 in
theorem kc_D_plus : cw_D_plus ∈ gl := gl_T (List.mem_append_right _ (List.mem_append_left _ (List.mem_of_getElem? (i := 61) rfl))) rfl
set_option maxRecDepth 100000 in
theorem kc_D_times : cw_D_times ∈ gl := gl_T (List.mem_append_right _ (List.mem_append_left _ (List.mem_of_getElem? (i := 39) rfl))) rfl
set_option maxRecDepth 100000 in
theorem kc_D_isSelected : cw_D_isSelected ∈ gl := gl_T (List.mem_append_right _ (List.mem_append_left _ (List.mem_of_getElem? (i := 119) rfl))) rfl
set_option maxRecDepth 100000 in
theorem kc_D_enterNextLevel : cw_D_enterNextLevel ∈ gl := gl_T (List.mem_append_right _ (List.mem_append_left _ (List.mem_of_getElem? (i := 144) rfl))) rfl
set_option maxRecDepth 100000 in
theorem kc_D_enterNeighbours : cw_D_enterNeighbours ∈ gl := gl_T (List.mem_append_right _ (List.mem_append_left _ (List.mem_of_getElem? (i := 147) rfl))) rfl
set_option maxRecDepth 100000 in
theorem kc_D_shortenOver : cw_D_shortenOver ∈ gl := gl_T (List.mem_append_right _ (List.mem_append_left _ (List.mem_of_getElem? (i := 162) rfl))) rfl
set_option maxRecDepth 100000 in
theorem kc_D_spreadLeastVertices : cw_D_spreadLeastVertices ∈ gl := gl_T (List.mem_append_right _ (List.mem_append_left _ (List.mem_of_getElem? (i := 183) rfl))) rfl
set_option maxRecDepth 100000 in
theorem kc_D_isValue : cw_D_isValue ∈ gl := gl_T (List.mem_append_left _ (List.mem_of_getElem? (i := 156) rfl)) rfl
set_option maxRecDepth 100000 in
theorem kc_D_requireRegister : cw_D_requireRegister ∈ gl := gl_T (List.mem_append_left _ (List.mem_of_getElem? (i := 61) rfl)) rfl
set_option maxRecDepth 100000 in
theorem kc_D_requireSemiring : cw_D_requireSemiring ∈ gl := gl_T (List.mem_append_left _ (List.mem_of_getElem? (i := 235) rfl)) rfl
set_option maxRecDepth 100000 in
theorem kc_D_requireOperands : cw_D_requireOperands ∈ gl := gl_T (List.mem_append_left _ (List.mem_of_getElem? (i := 232) rfl)) rfl
set_option maxRecDepth 100000 in
theorem kc_D_requireMask : cw_D_requireMask ∈ gl := gl_T (List.mem_append_left _ (List.mem_of_getElem? (i := 239) rfl)) rfl
set_option maxRecDepth 100000 in
theorem kc_D_requireHow : cw_D_requireHow ∈ gl := gl_T (List.mem_append_right _ (List.mem_append_left _ (List.mem_of_getElem? (i := 2) rfl))) rfl
set_option maxRecDepth 100000 in
theorem kc_D_requireSide : cw_D_requireSide ∈ gl := gl_T (List.mem_append_left _ (List.mem_of_getElem? (i := 133) rfl)) rfl
set_option maxRecDepth 100000 in
theorem kc_D_requirePlace : cw_D_requirePlace ∈ gl := gl_T (List.mem_append_left _ (List.mem_of_getElem? (i := 149) rfl)) rfl
set_option maxRecDepth 100000 in
theorem kc_D_requireValue : cw_D_requireValue ∈ gl := gl_T (List.mem_append_left _ (List.mem_of_getElem? (i := 153) rfl)) rfl
set_option maxRecDepth 100000 in
theorem kc_D_requireEntry : cw_D_requireEntry ∈ gl := gl_T (List.mem_append_left _ (List.mem_of_getElem? (i := 189) rfl)) rfl
set_option maxRecDepth 100000 in
theorem kc_D_requireFit : cw_D_requireFit ∈ gl := gl_T (List.mem_append_right _ (List.mem_append_left _ (List.mem_of_getElem? (i := 6) rfl))) rfl
set_option maxRecDepth 100000 in
theorem kc_D_requireSameShape : cw_D_requireSameShape ∈ gl := gl_T (List.mem_append_right _ (List.mem_append_left _ (List.mem_of_getElem? (i := 95) rfl))) rfl
set_option maxRecDepth 100000 in
theorem kc_D_requireGraph : cw_D_requireGraph ∈ gl := gl_T (List.mem_append_right _ (List.mem_append_left _ (List.mem_of_getElem? (i := 137) rfl))) rfl
set_option maxRecDepth 100000 in
theorem kc_D_requireVertex : cw_D_requireVertex ∈ gl := gl_T (List.mem_append_right _ (List.mem_append_left _ (List.mem_of_getElem? (i := 140) rfl))) rfl
set_option maxRecDepth 100000 in
theorem kc_D_requireLengths : cw_D_requireLengths ∈ gl := gl_T (List.mem_append_right _ (List.mem_append_left _ (List.mem_of_getElem? (i := 157) rfl))) rfl
set_option maxRecDepth 100000 in
theorem kc_D_requireNoCircleBelowZero : cw_D_requireNoCircleBelowZero ∈ gl := gl_T (List.mem_append_right _ (List.mem_append_left _ (List.mem_of_getElem? (i := 165) rfl))) rfl
set_option maxRecDepth 100000 in
theorem kc_R_init : cw_R_init ∈ gl := gl_T (List.mem_append_right _ (List.mem_append_left _ (List.mem_of_getElem? (i := 188) rfl))) rfl
set_option maxRecDepth 100000 in
theorem kc_R_thrown : cw_R_thrown ∈ gl := gl_T (List.mem_append_right _ (List.mem_append_left _ (List.mem_of_getElem? (i := 225) rfl))) rfl
set_option maxRecDepth 100000 in
theorem kc_R_isRegister : cw_R_isRegister ∈ gl := gl_T (List.mem_append_right _ (List.mem_append_left _ (List.mem_of_getElem? (i := 232) rfl))) rfl
set_option maxRecDepth 100000 in
theorem kc_R_isRing : cw_R_isRing ∈ gl := gl_T (List.mem_append_right _ (List.mem_append_right _ (List.mem_of_getElem? (i := 28) rfl))) rfl
set_option maxRecDepth 100000 in
theorem kc_R_isValue : cw_R_isValue ∈ gl := gl_T (List.mem_append_right _ (List.mem_append_right _ (List.mem_of_getElem? (i := 3) rfl))) rfl
set_option maxRecDepth 100000 in
theorem kc_R_isPlace : cw_R_isPlace ∈ gl := gl_T (List.mem_append_right _ (List.mem_append_right _ (List.mem_of_getElem? (i := 0) rfl))) rfl
set_option maxRecDepth 100000 in
theorem kc_R_shape : cw_R_shape ∈ gl := gl_T (List.mem_append_right _ (List.mem_append_left _ (List.mem_of_getElem? (i := 229) rfl))) rfl
set_option maxRecDepth 100000 in
theorem kc_R_put : cw_R_put ∈ gl := gl_T (List.mem_append_right _ (List.mem_append_left _ (List.mem_of_getElem? (i := 236) rfl))) rfl
set_option maxRecDepth 100000 in
theorem kc_R_drop : cw_R_drop ∈ gl := gl_T (List.mem_append_right _ (List.mem_append_right _ (List.mem_of_getElem? (i := 9) rfl))) rfl
set_option maxRecDepth 100000 in
theorem kc_R_at : cw_R_at ∈ gl := gl_T (List.mem_append_right _ (List.mem_append_right _ (List.mem_of_getElem? (i := 13) rfl))) rfl
set_option maxRecDepth 100000 in
theorem kc_R_entries : cw_R_entries ∈ gl := gl_T (List.mem_append_right _ (List.mem_append_right _ (List.mem_of_getElem? (i := 21) rfl))) rfl
set_option maxRecDepth 100000 in
theorem kc_R_size : cw_R_size ∈ gl := gl_T (List.mem_append_right _ (List.mem_append_right _ (List.mem_of_getElem? (i := 17) rfl))) rfl
set_option maxRecDepth 100000 in
theorem kc_R_sum : cw_R_sum ∈ gl := gl_T (List.mem_append_right _ (List.mem_append_right _ (List.mem_of_getElem? (i := 47) rfl))) rfl
set_option maxRecDepth 100000 in
theorem kc_R_size0 : cw_R_size0 ∈ gl := gl_T (List.mem_append_right _ (List.mem_append_right _ (List.mem_of_getElem? (i := 43) rfl))) rfl
set_option maxRecDepth 100000 in
theorem kc_R_product : cw_R_product ∈ gl := gl_T (List.mem_append_right _ (List.mem_append_right _ (List.mem_of_getElem? (i := 40) rfl))) rfl
set_option maxRecDepth 100000 in
theorem kc_R_begin : cw_R_begin ∈ gl := gl_T (List.mem_append_right _ (List.mem_append_right _ (List.mem_of_getElem? (i := 32) rfl))) rfl
set_option maxRecDepth 100000 in
theorem kc_R_make : cw_R_make ∈ gl := gl_T (List.mem_append_right _ (List.mem_append_right _ (List.mem_of_getElem? (i := 51) rfl))) rfl
set_option maxRecDepth 100000 in
theorem kc_R_finish : cw_R_finish ∈ gl := gl_T (List.mem_append_right _ (List.mem_append_right _ (List.mem_of_getElem? (i := 59) rfl))) rfl
set_option maxRecDepth 100000 in
theorem kc_R_cross : cw_R_cross ∈ gl := gl_T (List.mem_append_right _ (List.mem_append_right _ (List.mem_of_getElem? (i := 36) rfl))) rfl
set_option maxRecDepth 100000 in
theorem kc_R_join : cw_R_join ∈ gl := gl_T (List.mem_append_right _ (List.mem_append_right _ (List.mem_of_getElem? (i := 55) rfl))) rfl
set_option maxRecDepth 100000 in
theorem kc_R_multiply : cw_R_multiply ∈ gl := gl_T (List.mem_append_right _ (List.mem_append_right _ (List.mem_of_getElem? (i := 25) rfl))) rfl
set_option maxRecDepth 100000 in
theorem kc_R_pair : cw_R_pair ∈ gl := gl_T (List.mem_append_right _ (List.mem_append_right _ (List.mem_of_getElem? (i := 67) rfl))) rfl
set_option maxRecDepth 100000 in
theorem kc_R_add : cw_R_add ∈ gl := gl_T (List.mem_append_right _ (List.mem_append_right _ (List.mem_of_getElem? (i := 63) rfl))) rfl
set_option maxRecDepth 100000 in
theorem kc_R_each : cw_R_each ∈ gl := gl_T (List.mem_append_right _ (List.mem_append_right _ (List.mem_of_getElem? (i := 71) rfl))) rfl
set_option maxRecDepth 100000 in
theorem kc_R_transpose : cw_R_transpose ∈ gl := gl_T (List.mem_append_right _ (List.mem_append_right _ (List.mem_of_getElem? (i := 75) rfl))) rfl
set_option maxRecDepth 100000 in
theorem kc_R_chosen : cw_R_chosen ∈ gl := gl_T (List.mem_append_right _ (List.mem_append_right _ (List.mem_of_getElem? (i := 82) rfl))) rfl
set_option maxRecDepth 100000 in
theorem kc_R_select : cw_R_select ∈ gl := gl_T (List.mem_append_right _ (List.mem_append_right _ (List.mem_of_getElem? (i := 79) rfl))) rfl
set_option maxRecDepth 100000 in
theorem kc_R_reduce : cw_R_reduce ∈ gl := gl_T (List.mem_append_right _ (List.mem_append_right _ (List.mem_of_getElem? (i := 86) rfl))) rfl
set_option maxRecDepth 100000 in
theorem kc_R_isSquare : cw_R_isSquare ∈ gl := gl_T (List.mem_append_right _ (List.mem_append_right _ (List.mem_of_getElem? (i := 94) rfl))) rfl
set_option maxRecDepth 100000 in
theorem kc_R_levels : cw_R_levels ∈ gl := gl_T (List.mem_append_right _ (List.mem_append_right _ (List.mem_of_getElem? (i := 90) rfl))) rfl
set_option maxRecDepth 100000 in
theorem kc_R_relax : cw_R_relax ∈ gl := gl_T (List.mem_append_right _ (List.mem_append_right _ (List.mem_of_getElem? (i := 104) rfl))) rfl
set_option maxRecDepth 100000 in
theorem kc_R_paths : cw_R_paths ∈ gl := gl_T (List.mem_append_right _ (List.mem_append_right _ (List.mem_of_getElem? (i := 98) rfl))) rfl
set_option maxRecDepth 100000 in
theorem kc_R_triangles : cw_R_triangles ∈ gl := gl_T (List.mem_append_right _ (List.mem_append_right _ (List.mem_of_getElem? (i := 108) rfl))) rfl
set_option maxRecDepth 100000 in
theorem kc_R_components : cw_R_components ∈ gl := gl_T (List.mem_append_right _ (List.mem_append_right _ (List.mem_of_getElem? (i := 112) rfl))) rfl
set_option maxRecDepth 100000 in
theorem kc_M_init : cw_M_init ∈ gl := gl_T (List.mem_append_left _ (List.mem_of_getElem? (i := 25) rfl)) rfl
set_option maxRecDepth 100000 in
theorem kc_M_clear : cw_M_clear ∈ gl := gl_T (List.mem_append_left _ (List.mem_of_getElem? (i := 138) rfl)) rfl
set_option maxRecDepth 100000 in
theorem kc_M_isShaped : cw_M_isShaped ∈ gl := gl_T (List.mem_append_right _ (List.mem_append_left _ (List.mem_of_getElem? (i := 26) rfl))) rfl
set_option maxRecDepth 100000 in
theorem kc_M_has : cw_M_has ∈ gl := gl_T (List.mem_append_left _ (List.mem_of_getElem? (i := 174) rfl)) rfl
set_option maxRecDepth 100000 in
theorem kc_M_value : cw_M_value ∈ gl := gl_T (List.mem_append_left _ (List.mem_of_getElem? (i := 209) rfl)) rfl
set_option maxRecDepth 100000 in
theorem kc_M_enter : cw_M_enter ∈ gl := gl_T (List.mem_append_left _ (List.mem_of_getElem? (i := 163) rfl)) rfl
set_option maxRecDepth 100000 in
theorem kc_M_remove : cw_M_remove ∈ gl := gl_T (List.mem_append_left _ (List.mem_of_getElem? (i := 178) rfl)) rfl
set_option maxRecDepth 100000 in
theorem kc_M_count : cw_M_count ∈ gl := gl_T (List.mem_append_left _ (List.mem_of_getElem? (i := 220) rfl)) rfl
set_option maxRecDepth 100000 in
theorem kc_L_shape : cw_L_shape ∈ gl := gl_T (List.mem_append_left _ (List.mem_of_getElem? (i := 53) rfl)) rfl
set_option maxRecDepth 100000 in
theorem kc_L_put : cw_L_put ∈ gl := gl_T (List.mem_append_left _ (List.mem_of_getElem? (i := 141) rfl)) rfl
set_option maxRecDepth 100000 in
theorem kc_L_drop : cw_L_drop ∈ gl := gl_T (List.mem_append_left _ (List.mem_of_getElem? (i := 166) rfl)) rfl
set_option maxRecDepth 100000 in
theorem kc_L_at : cw_L_at ∈ gl := gl_T (List.mem_append_left _ (List.mem_of_getElem? (i := 181) rfl)) rfl
set_option maxRecDepth 100000 in
theorem kc_L_size : cw_L_size ∈ gl := gl_T (List.mem_append_left _ (List.mem_of_getElem? (i := 212) rfl)) rfl
set_option maxRecDepth 100000 in
theorem kc_L_multiply : cw_L_multiply ∈ gl := gl_T (List.mem_append_left _ (List.mem_of_getElem? (i := 223) rfl)) rfl
set_option maxRecDepth 100000 in
theorem kc_L_add : cw_L_add ∈ gl := gl_T (List.mem_append_right _ (List.mem_append_left _ (List.mem_of_getElem? (i := 87) rfl))) rfl
set_option maxRecDepth 100000 in
theorem kc_L_each : cw_L_each ∈ gl := gl_T (List.mem_append_right _ (List.mem_append_left _ (List.mem_of_getElem? (i := 98) rfl))) rfl
set_option maxRecDepth 100000 in
theorem kc_L_transpose : cw_L_transpose ∈ gl := gl_T (List.mem_append_right _ (List.mem_append_left _ (List.mem_of_getElem? (i := 105) rfl))) rfl
set_option maxRecDepth 100000 in
theorem kc_L_select : cw_L_select ∈ gl := gl_T (List.mem_append_right _ (List.mem_append_left _ (List.mem_of_getElem? (i := 112) rfl))) rfl
set_option maxRecDepth 100000 in
theorem kc_L_reduce : cw_L_reduce ∈ gl := gl_T (List.mem_append_right _ (List.mem_append_left _ (List.mem_of_getElem? (i := 122) rfl))) rfl
set_option maxRecDepth 100000 in
theorem kc_L_levels : cw_L_levels ∈ gl := gl_T (List.mem_append_right _ (List.mem_append_left _ (List.mem_of_getElem? (i := 129) rfl))) rfl
set_option maxRecDepth 100000 in
theorem kc_L_paths : cw_L_paths ∈ gl := gl_T (List.mem_append_right _ (List.mem_append_left _ (List.mem_of_getElem? (i := 150) rfl))) rfl
set_option maxRecDepth 100000 in
theorem kc_L_triangles : cw_L_triangles ∈ gl := gl_T (List.mem_append_right _ (List.mem_append_left _ (List.mem_of_getElem? (i := 169) rfl))) rfl
set_option maxRecDepth 100000 in
theorem kc_L_components : cw_L_components ∈ gl := gl_T (List.mem_append_right _ (List.mem_append_left _ (List.mem_of_getElem? (i := 176) rfl))) rfl
theorem ki_L : Cond.initialized R_L ∈ gl := gl_T (List.mem_append_left _ (List.mem_of_getElem? (i := 0) (by decide +kernel))) rfl
theorem ki_D : Cond.initialized R_D ∈ gl := gl_T (List.mem_append_left _ (List.mem_of_getElem? (i := 1) (by decide +kernel))) rfl
theorem ki_M : Cond.initialized R_M ∈ gl := gl_T (List.mem_append_left _ (List.mem_of_getElem? (i := 2) (by decide +kernel))) rfl
theorem ki_R : Cond.initialized R_R ∈ gl := gl_T (List.mem_append_left _ (List.mem_of_getElem? (i := 3) (by decide +kernel))) rfl
theorem ki_Throwable : Cond.initialized "java/lang/Throwable" ∈ gl := gl_T (List.mem_append_left _ (List.mem_of_getElem? (i := 4) (by decide +kernel))) rfl
theorem ki_Exception : Cond.initialized "java/lang/Exception" ∈ gl := gl_T (List.mem_append_left _ (List.mem_of_getElem? (i := 5) (by decide +kernel))) rfl
theorem ki_RuntimeException : Cond.initialized "java/lang/RuntimeException" ∈ gl := gl_T (List.mem_append_left _ (List.mem_of_getElem? (i := 6) (by decide +kernel))) rfl
theorem ki_IllegalArgumentException : Cond.initialized "java/lang/IllegalArgumentException" ∈ gl := gl_T (List.mem_append_left _ (List.mem_of_getElem? (i := 7) (by decide +kernel))) rfl
theorem ki_NoSuchElementException : Cond.initialized "java/util/NoSuchElementException" ∈ gl := gl_T (List.mem_append_left _ (List.mem_of_getElem? (i := 8) (by decide +kernel))) rfl
theorem ki_IllegalStateException : Cond.initialized "java/lang/IllegalStateException" ∈ gl := gl_T (List.mem_append_left _ (List.mem_of_getElem? (i := 9) (by decide +kernel))) rfl
theorem ki_Math : Cond.initialized "java/lang/Math" ∈ gl := gl_T (List.mem_append_left _ (List.mem_of_getElem? (i := 10) (by decide +kernel))) rfl
theorem ki_UnsupportedOperationException : Cond.initialized "java/lang/UnsupportedOperationException" ∈ gl := gl_T (List.mem_append_left _ (List.mem_of_getElem? (i := 11) (by decide +kernel))) rfl
theorem kk_L_8 : Cond.classLink R_L 8 R_D ∈ gl := gl_T (List.mem_append_left _ (List.mem_of_getElem? (i := 12) (by decide +kernel))) rfl
theorem kn_D : Cond.instantiable R_D 2 ∈ gl := gl_T (List.mem_append_left _ (List.mem_of_getElem? (i := 13) (by decide +kernel))) rfl
theorem kl_L_73 : Cond.methodLink R_L 73 y_D_init ∈ gl := gl_T (List.mem_append_left _ (List.mem_of_getElem? (i := 14) (by decide +kernel))) rfl
theorem kin_D_init : Cond.instanceMethod y_D_init ∈ gl := gl_T (List.mem_append_left _ (List.mem_of_getElem? (i := 15) (by decide +kernel))) rfl
theorem kl_D_1 : Cond.methodLink R_D 1 ⟨"java/lang/Object", "<init>", "()V"⟩ ∈ gl := gl_T (List.mem_append_left _ (List.mem_of_getElem? (i := 17) (by decide +kernel))) rfl
theorem kk_D_9 : Cond.classLink R_D 9 R_M ∈ gl := gl_T (List.mem_append_left _ (List.mem_of_getElem? (i := 20) (by decide +kernel))) rfl
theorem kn_M : Cond.instantiable R_M 4 ∈ gl := gl_T (List.mem_append_left _ (List.mem_of_getElem? (i := 22) (by decide +kernel))) rfl
theorem kl_D_15 : Cond.methodLink R_D 15 y_M_init ∈ gl := gl_T (List.mem_append_left _ (List.mem_of_getElem? (i := 23) (by decide +kernel))) rfl
theorem kin_M_init : Cond.instanceMethod y_M_init ∈ gl := gl_T (List.mem_append_left _ (List.mem_of_getElem? (i := 24) (by decide +kernel))) rfl
theorem kl_M_3 : Cond.methodLink R_M 3 ⟨"java/lang/Object", "<init>", "()V"⟩ ∈ gl := gl_T (List.mem_append_left _ (List.mem_of_getElem? (i := 26) (by decide +kernel))) rfl
theorem kf_M_9 : Cond.fieldLink R_M 9 R_M "rows" "I" ∈ gl := gl_T (List.mem_append_left _ (List.mem_of_getElem? (i := 27) (by decide +kernel))) rfl
theorem kf_D_58 : Cond.fieldLink R_D 58 R_M "rows" "I" ∈ gl := gl_T (List.mem_append_left _ (List.mem_of_getElem? (i := 28) (by decide +kernel))) rfl
theorem kf_M_15 : Cond.fieldLink R_M 15 R_M "columns" "I" ∈ gl := gl_T (List.mem_append_left _ (List.mem_of_getElem? (i := 29) (by decide +kernel))) rfl
theorem kf_D_62 : Cond.fieldLink R_D 62 R_M "columns" "I" ∈ gl := gl_T (List.mem_append_left _ (List.mem_of_getElem? (i := 30) (by decide +kernel))) rfl
theorem kf_M_18 : Cond.fieldLink R_M 18 R_M "values" "[J" ∈ gl := gl_T (List.mem_append_left _ (List.mem_of_getElem? (i := 31) (by decide +kernel))) rfl
theorem kf_M_22 : Cond.fieldLink R_M 22 R_M "filled" "[Z" ∈ gl := gl_T (List.mem_append_left _ (List.mem_of_getElem? (i := 32) (by decide +kernel))) rfl
theorem kf_D_11 : Cond.fieldLink R_D 11 R_D "registers" "[LSemiringDesk$Matrix;" ∈ gl := gl_T (List.mem_append_left _ (List.mem_of_getElem? (i := 44) (by decide +kernel))) rfl
theorem kf_D_16 : Cond.fieldLink R_D 16 R_D "spare" "LSemiringDesk$Matrix;" ∈ gl := gl_T (List.mem_append_left _ (List.mem_of_getElem? (i := 45) (by decide +kernel))) rfl
theorem kl_L_77 : Cond.methodLink R_L 77 y_L_shape ∈ gl := gl_T (List.mem_append_left _ (List.mem_of_getElem? (i := 51) (by decide +kernel))) rfl
theorem kst_L_shape : Cond.static y_L_shape ∈ gl := gl_T (List.mem_append_left _ (List.mem_of_getElem? (i := 52) (by decide +kernel))) rfl
theorem kk_L_13 : Cond.classLink R_L 13 "java/lang/IllegalArgumentException" ∈ gl := gl_T (List.mem_append_left _ (List.mem_of_getElem? (i := 54) (by decide +kernel))) rfl
theorem kl_L_7 : Cond.methodLink R_L 7 y_D_shape ∈ gl := gl_T (List.mem_append_left _ (List.mem_of_getElem? (i := 55) (by decide +kernel))) rfl
theorem kin_D_shape : Cond.instanceMethod y_D_shape ∈ gl := gl_T (List.mem_append_left _ (List.mem_of_getElem? (i := 56) (by decide +kernel))) rfl
theorem kse_D_shape : Cond.selects R_D y_D_shape y_D_shape ∈ gl := gl_T (List.mem_append_left _ (List.mem_of_getElem? (i := 57) (by decide +kernel))) rfl
theorem kl_D_20 : Cond.methodLink R_D 20 y_D_requireRegister ∈ gl := gl_T (List.mem_append_left _ (List.mem_of_getElem? (i := 59) (by decide +kernel))) rfl
theorem kst_D_requireRegister : Cond.static y_D_requireRegister ∈ gl := gl_T (List.mem_append_left _ (List.mem_of_getElem? (i := 60) (by decide +kernel))) rfl
theorem kk_D_189 : Cond.classLink R_D 189 "java/lang/IllegalArgumentException" ∈ gl := gl_T (List.mem_append_left _ (List.mem_of_getElem? (i := 62) (by decide +kernel))) rfl
theorem kn_IllegalArgumentException : Cond.instantiable "java/lang/IllegalArgumentException" 6 ∈ gl := gl_T (List.mem_append_left _ (List.mem_of_getElem? (i := 63) (by decide +kernel))) rfl
theorem kca_IllegalArgumentException : Cond.castable "java/lang/IllegalArgumentException" "java/lang/IllegalArgumentException" ∈ gl := gl_T (List.mem_append_left _ (List.mem_of_getElem? (i := 64) (by decide +kernel))) rfl
theorem kn_Throwable : Cond.instantiable "java/lang/Throwable" 6 ∈ gl := gl_T (List.mem_append_left _ (List.mem_of_getElem? (i := 102) (by decide +kernel))) rfl
theorem kr_D_191 : Cond.stringRef R_D 191 "no such register" ∈ gl := gl_T (List.mem_append_left _ (List.mem_of_getElem? (i := 104) (by decide +kernel))) rfl
theorem kl_D_193 : Cond.methodLink R_D 193 ⟨"java/lang/IllegalArgumentException", "<init>", "(Ljava/lang/String;)V"⟩ ∈ gl := gl_T (List.mem_append_left _ (List.mem_of_getElem? (i := 105) (by decide +kernel))) rfl
theorem kl_D_24 : Cond.methodLink R_D 24 y_D_requireSide ∈ gl := gl_T (List.mem_append_left _ (List.mem_of_getElem? (i := 131) (by decide +kernel))) rfl
theorem kst_D_requireSide : Cond.static y_D_requireSide ∈ gl := gl_T (List.mem_append_left _ (List.mem_of_getElem? (i := 132) (by decide +kernel))) rfl
theorem kr_D_198 : Cond.stringRef R_D 198 "rows and columns are 1 to 8" ∈ gl := gl_T (List.mem_append_left _ (List.mem_of_getElem? (i := 134) (by decide +kernel))) rfl
theorem kl_D_27 : Cond.methodLink R_D 27 y_M_clear ∈ gl := gl_T (List.mem_append_left _ (List.mem_of_getElem? (i := 135) (by decide +kernel))) rfl
theorem kin_M_clear : Cond.instanceMethod y_M_clear ∈ gl := gl_T (List.mem_append_left _ (List.mem_of_getElem? (i := 136) (by decide +kernel))) rfl
theorem kse_M_clear : Cond.selects R_M y_M_clear y_M_clear ∈ gl := gl_T (List.mem_append_left _ (List.mem_of_getElem? (i := 137) (by decide +kernel))) rfl
theorem kl_L_89 : Cond.methodLink R_L 89 y_L_put ∈ gl := gl_T (List.mem_append_left _ (List.mem_of_getElem? (i := 139) (by decide +kernel))) rfl
theorem kst_L_put : Cond.static y_L_put ∈ gl := gl_T (List.mem_append_left _ (List.mem_of_getElem? (i := 140) (by decide +kernel))) rfl
theorem kl_L_15 : Cond.methodLink R_L 15 y_D_put ∈ gl := gl_T (List.mem_append_left _ (List.mem_of_getElem? (i := 142) (by decide +kernel))) rfl
theorem kin_D_put : Cond.instanceMethod y_D_put ∈ gl := gl_T (List.mem_append_left _ (List.mem_of_getElem? (i := 143) (by decide +kernel))) rfl
theorem kse_D_put : Cond.selects R_D y_D_put y_D_put ∈ gl := gl_T (List.mem_append_left _ (List.mem_of_getElem? (i := 144) (by decide +kernel))) rfl
theorem kl_D_31 : Cond.methodLink R_D 31 y_D_requirePlace ∈ gl := gl_T (List.mem_append_left _ (List.mem_of_getElem? (i := 146) (by decide +kernel))) rfl
theorem kin_D_requirePlace : Cond.instanceMethod y_D_requirePlace ∈ gl := gl_T (List.mem_append_left _ (List.mem_of_getElem? (i := 148) (by decide +kernel))) rfl
theorem kr_D_200 : Cond.stringRef R_D 200 "no such place" ∈ gl := gl_T (List.mem_append_left _ (List.mem_of_getElem? (i := 150) (by decide +kernel))) rfl
theorem kl_D_35 : Cond.methodLink R_D 35 y_D_requireValue ∈ gl := gl_T (List.mem_append_left _ (List.mem_of_getElem? (i := 151) (by decide +kernel))) rfl
theorem kst_D_requireValue : Cond.static y_D_requireValue ∈ gl := gl_T (List.mem_append_left _ (List.mem_of_getElem? (i := 152) (by decide +kernel))) rfl
theorem kl_D_164 : Cond.methodLink R_D 164 y_D_isValue ∈ gl := gl_T (List.mem_append_left _ (List.mem_of_getElem? (i := 154) (by decide +kernel))) rfl
theorem kst_D_isValue : Cond.static y_D_isValue ∈ gl := gl_T (List.mem_append_left _ (List.mem_of_getElem? (i := 155) (by decide +kernel))) rfl
theorem kq_D_187 : Cond.constantLong R_D 187 (-1000000000000) ∈ gl := gl_T (List.mem_append_left _ (List.mem_of_getElem? (i := 157) (by decide +kernel))) rfl
theorem kq_D_179 : Cond.constantLong R_D 179 1000000000000 ∈ gl := gl_T (List.mem_append_left _ (List.mem_of_getElem? (i := 158) (by decide +kernel))) rfl
theorem kr_D_202 : Cond.stringRef R_D 202 "the value is out of range" ∈ gl := gl_T (List.mem_append_left _ (List.mem_of_getElem? (i := 159) (by decide +kernel))) rfl
theorem kl_D_39 : Cond.methodLink R_D 39 y_M_enter ∈ gl := gl_T (List.mem_append_left _ (List.mem_of_getElem? (i := 160) (by decide +kernel))) rfl
theorem kin_M_enter : Cond.instanceMethod y_M_enter ∈ gl := gl_T (List.mem_append_left _ (List.mem_of_getElem? (i := 161) (by decide +kernel))) rfl
theorem kse_M_enter : Cond.selects R_M y_M_enter y_M_enter ∈ gl := gl_T (List.mem_append_left _ (List.mem_of_getElem? (i := 162) (by decide +kernel))) rfl
theorem kl_L_93 : Cond.methodLink R_L 93 y_L_drop ∈ gl := gl_T (List.mem_append_left _ (List.mem_of_getElem? (i := 164) (by decide +kernel))) rfl
theorem kst_L_drop : Cond.static y_L_drop ∈ gl := gl_T (List.mem_append_left _ (List.mem_of_getElem? (i := 165) (by decide +kernel))) rfl
theorem kl_L_19 : Cond.methodLink R_L 19 y_D_drop ∈ gl := gl_T (List.mem_append_left _ (List.mem_of_getElem? (i := 167) (by decide +kernel))) rfl
theorem kin_D_drop : Cond.instanceMethod y_D_drop ∈ gl := gl_T (List.mem_append_left _ (List.mem_of_getElem? (i := 168) (by decide +kernel))) rfl
theorem kse_D_drop : Cond.selects R_D y_D_drop y_D_drop ∈ gl := gl_T (List.mem_append_left _ (List.mem_of_getElem? (i := 169) (by decide +kernel))) rfl
theorem kl_D_43 : Cond.methodLink R_D 43 y_M_has ∈ gl := gl_T (List.mem_append_left _ (List.mem_of_getElem? (i := 171) (by decide +kernel))) rfl
theorem kin_M_has : Cond.instanceMethod y_M_has ∈ gl := gl_T (List.mem_append_left _ (List.mem_of_getElem? (i := 172) (by decide +kernel))) rfl
theorem kse_M_has : Cond.selects R_M y_M_has y_M_has ∈ gl := gl_T (List.mem_append_left _ (List.mem_of_getElem? (i := 173) (by decide +kernel))) rfl
theorem kl_D_47 : Cond.methodLink R_D 47 y_M_remove ∈ gl := gl_T (List.mem_append_left _ (List.mem_of_getElem? (i := 175) (by decide +kernel))) rfl
theorem kin_M_remove : Cond.instanceMethod y_M_remove ∈ gl := gl_T (List.mem_append_left _ (List.mem_of_getElem? (i := 176) (by decide +kernel))) rfl
theorem kse_M_remove : Cond.selects R_M y_M_remove y_M_remove ∈ gl := gl_T (List.mem_append_left _ (List.mem_of_getElem? (i := 177) (by decide +kernel))) rfl
theorem kl_L_97 : Cond.methodLink R_L 97 y_L_at ∈ gl := gl_T (List.mem_append_left _ (List.mem_of_getElem? (i := 179) (by decide +kernel))) rfl
theorem kst_L_at : Cond.static y_L_at ∈ gl := gl_T (List.mem_append_left _ (List.mem_of_getElem? (i := 180) (by decide +kernel))) rfl
theorem kk_L_27 : Cond.classLink R_L 27 "java/util/NoSuchElementException" ∈ gl := gl_T (List.mem_append_left _ (List.mem_of_getElem? (i := 182) (by decide +kernel))) rfl
theorem kl_L_23 : Cond.methodLink R_L 23 y_D_at ∈ gl := gl_T (List.mem_append_left _ (List.mem_of_getElem? (i := 183) (by decide +kernel))) rfl
theorem kin_D_at : Cond.instanceMethod y_D_at ∈ gl := gl_T (List.mem_append_left _ (List.mem_of_getElem? (i := 184) (by decide +kernel))) rfl
theorem kse_D_at : Cond.selects R_D y_D_at y_D_at ∈ gl := gl_T (List.mem_append_left _ (List.mem_of_getElem? (i := 185) (by decide +kernel))) rfl
theorem kl_D_50 : Cond.methodLink R_D 50 y_D_requireEntry ∈ gl := gl_T (List.mem_append_left _ (List.mem_of_getElem? (i := 187) (by decide +kernel))) rfl
theorem kst_D_requireEntry : Cond.static y_D_requireEntry ∈ gl := gl_T (List.mem_append_left _ (List.mem_of_getElem? (i := 188) (by decide +kernel))) rfl
theorem kk_D_204 : Cond.classLink R_D 204 "java/util/NoSuchElementException" ∈ gl := gl_T (List.mem_append_left _ (List.mem_of_getElem? (i := 190) (by decide +kernel))) rfl
theorem kn_NoSuchElementException : Cond.instantiable "java/util/NoSuchElementException" 6 ∈ gl := gl_T (List.mem_append_left _ (List.mem_of_getElem? (i := 191) (by decide +kernel))) rfl
theorem kca_NoSuchElementException : Cond.castable "java/util/NoSuchElementException" "java/util/NoSuchElementException" ∈ gl := gl_T (List.mem_append_left _ (List.mem_of_getElem? (i := 192) (by decide +kernel))) rfl
theorem kr_D_206 : Cond.stringRef R_D 206 "no entry" ∈ gl := gl_T (List.mem_append_left _ (List.mem_of_getElem? (i := 199) (by decide +kernel))) rfl
theorem kl_D_208 : Cond.methodLink R_D 208 ⟨"java/util/NoSuchElementException", "<init>", "(Ljava/lang/String;)V"⟩ ∈ gl := gl_T (List.mem_append_left _ (List.mem_of_getElem? (i := 200) (by decide +kernel))) rfl
theorem kl_D_54 : Cond.methodLink R_D 54 y_M_value ∈ gl := gl_T (List.mem_append_left _ (List.mem_of_getElem? (i := 206) (by decide +kernel))) rfl
theorem kin_M_value : Cond.instanceMethod y_M_value ∈ gl := gl_T (List.mem_append_left _ (List.mem_of_getElem? (i := 207) (by decide +kernel))) rfl
theorem kse_M_value : Cond.selects R_M y_M_value y_M_value ∈ gl := gl_T (List.mem_append_left _ (List.mem_of_getElem? (i := 208) (by decide +kernel))) rfl
theorem kl_L_100 : Cond.methodLink R_L 100 y_L_size ∈ gl := gl_T (List.mem_append_left _ (List.mem_of_getElem? (i := 210) (by decide +kernel))) rfl
theorem kst_L_size : Cond.static y_L_size ∈ gl := gl_T (List.mem_append_left _ (List.mem_of_getElem? (i := 211) (by decide +kernel))) rfl
theorem kl_L_29 : Cond.methodLink R_L 29 y_D_size ∈ gl := gl_T (List.mem_append_left _ (List.mem_of_getElem? (i := 213) (by decide +kernel))) rfl
theorem kin_D_size : Cond.instanceMethod y_D_size ∈ gl := gl_T (List.mem_append_left _ (List.mem_of_getElem? (i := 214) (by decide +kernel))) rfl
theorem kse_D_size : Cond.selects R_D y_D_size y_D_size ∈ gl := gl_T (List.mem_append_left _ (List.mem_of_getElem? (i := 215) (by decide +kernel))) rfl
theorem kl_D_65 : Cond.methodLink R_D 65 y_M_count ∈ gl := gl_T (List.mem_append_left _ (List.mem_of_getElem? (i := 217) (by decide +kernel))) rfl
theorem kin_M_count : Cond.instanceMethod y_M_count ∈ gl := gl_T (List.mem_append_left _ (List.mem_of_getElem? (i := 218) (by decide +kernel))) rfl
theorem kse_M_count : Cond.selects R_M y_M_count y_M_count ∈ gl := gl_T (List.mem_append_left _ (List.mem_of_getElem? (i := 219) (by decide +kernel))) rfl
theorem kl_L_104 : Cond.methodLink R_L 104 y_L_multiply ∈ gl := gl_T (List.mem_append_left _ (List.mem_of_getElem? (i := 221) (by decide +kernel))) rfl
theorem kst_L_multiply : Cond.static y_L_multiply ∈ gl := gl_T (List.mem_append_left _ (List.mem_of_getElem? (i := 222) (by decide +kernel))) rfl
theorem kk_L_37 : Cond.classLink R_L 37 "java/lang/IllegalStateException" ∈ gl := gl_T (List.mem_append_left _ (List.mem_of_getElem? (i := 224) (by decide +kernel))) rfl
theorem kk_L_39 : Cond.classLink R_L 39 "java/lang/UnsupportedOperationException" ∈ gl := gl_T (List.mem_append_left _ (List.mem_of_getElem? (i := 225) (by decide +kernel))) rfl
theorem kl_L_33 : Cond.methodLink R_L 33 y_D_multiply ∈ gl := gl_T (List.mem_append_left _ (List.mem_of_getElem? (i := 226) (by decide +kernel))) rfl
theorem kin_D_multiply : Cond.instanceMethod y_D_multiply ∈ gl := gl_T (List.mem_append_left _ (List.mem_of_getElem? (i := 227) (by decide +kernel))) rfl
theorem kse_D_multiply : Cond.selects R_D y_D_multiply y_D_multiply ∈ gl := gl_T (List.mem_append_left _ (List.mem_of_getElem? (i := 228) (by decide +kernel))) rfl
theorem kl_D_69 : Cond.methodLink R_D 69 y_D_requireOperands ∈ gl := gl_T (List.mem_append_left _ (List.mem_of_getElem? (i := 230) (by decide +kernel))) rfl
theorem kst_D_requireOperands : Cond.static y_D_requireOperands ∈ gl := gl_T (List.mem_append_left _ (List.mem_of_getElem? (i := 231) (by decide +kernel))) rfl
theorem kl_D_116 : Cond.methodLink R_D 116 y_D_requireSemiring ∈ gl := gl_T (List.mem_append_left _ (List.mem_of_getElem? (i := 233) (by decide +kernel))) rfl
theorem kst_D_requireSemiring : Cond.static y_D_requireSemiring ∈ gl := gl_T (List.mem_append_left _ (List.mem_of_getElem? (i := 234) (by decide +kernel))) rfl
theorem kr_D_194 : Cond.stringRef R_D 194 "no such semiring" ∈ gl := gl_T (List.mem_append_left _ (List.mem_of_getElem? (i := 236) (by decide +kernel))) rfl
theorem kl_D_73 : Cond.methodLink R_D 73 y_D_requireMask ∈ gl := gl_T (List.mem_append_left _ (List.mem_of_getElem? (i := 237) (by decide +kernel))) rfl
theorem kst_D_requireMask : Cond.static y_D_requireMask ∈ gl := gl_T (List.mem_append_left _ (List.mem_of_getElem? (i := 238) (by decide +kernel))) rfl
theorem kl_D_76 : Cond.methodLink R_D 76 y_D_requireHow ∈ gl := gl_T (List.mem_append_right _ (List.mem_append_left _ (List.mem_of_getElem? (i := 0) (by decide +kernel)))) rfl
theorem kst_D_requireHow : Cond.static y_D_requireHow ∈ gl := gl_T (List.mem_append_right _ (List.mem_append_left _ (List.mem_of_getElem? (i := 1) (by decide +kernel)))) rfl
theorem kr_D_196 : Cond.stringRef R_D 196 "no such how" ∈ gl := gl_T (List.mem_append_right _ (List.mem_append_left _ (List.mem_of_getElem? (i := 3) (by decide +kernel)))) rfl
theorem kl_D_79 : Cond.methodLink R_D 79 y_D_requireFit ∈ gl := gl_T (List.mem_append_right _ (List.mem_append_left _ (List.mem_of_getElem? (i := 4) (by decide +kernel)))) rfl
theorem kst_D_requireFit : Cond.static y_D_requireFit ∈ gl := gl_T (List.mem_append_right _ (List.mem_append_left _ (List.mem_of_getElem? (i := 5) (by decide +kernel)))) rfl
theorem kk_D_209 : Cond.classLink R_D 209 "java/lang/IllegalStateException" ∈ gl := gl_T (List.mem_append_right _ (List.mem_append_left _ (List.mem_of_getElem? (i := 7) (by decide +kernel)))) rfl
theorem kn_IllegalStateException : Cond.instantiable "java/lang/IllegalStateException" 6 ∈ gl := gl_T (List.mem_append_right _ (List.mem_append_left _ (List.mem_of_getElem? (i := 8) (by decide +kernel)))) rfl
theorem kca_IllegalStateException : Cond.castable "java/lang/IllegalStateException" "java/lang/IllegalStateException" ∈ gl := gl_T (List.mem_append_right _ (List.mem_append_left _ (List.mem_of_getElem? (i := 9) (by decide +kernel)))) rfl
theorem kr_D_211 : Cond.stringRef R_D 211 "rows and columns do not fit" ∈ gl := gl_T (List.mem_append_right _ (List.mem_append_left _ (List.mem_of_getElem? (i := 16) (by decide +kernel)))) rfl
theorem kl_D_213 : Cond.methodLink R_D 213 ⟨"java/lang/IllegalStateException", "<init>", "(Ljava/lang/String;)V"⟩ ∈ gl := gl_T (List.mem_append_right _ (List.mem_append_left _ (List.mem_of_getElem? (i := 17) (by decide +kernel)))) rfl
theorem kl_D_82 : Cond.methodLink R_D 82 y_M_isShaped ∈ gl := gl_T (List.mem_append_right _ (List.mem_append_left _ (List.mem_of_getElem? (i := 23) (by decide +kernel)))) rfl
theorem kin_M_isShaped : Cond.instanceMethod y_M_isShaped ∈ gl := gl_T (List.mem_append_right _ (List.mem_append_left _ (List.mem_of_getElem? (i := 24) (by decide +kernel)))) rfl
theorem kse_M_isShaped : Cond.selects R_M y_M_isShaped y_M_isShaped ∈ gl := gl_T (List.mem_append_right _ (List.mem_append_left _ (List.mem_of_getElem? (i := 25) (by decide +kernel)))) rfl
theorem kl_D_85 : Cond.methodLink R_D 85 y_D_blank ∈ gl := gl_T (List.mem_append_right _ (List.mem_append_left _ (List.mem_of_getElem? (i := 27) (by decide +kernel)))) rfl
theorem kin_D_blank : Cond.instanceMethod y_D_blank ∈ gl := gl_T (List.mem_append_right _ (List.mem_append_left _ (List.mem_of_getElem? (i := 29) (by decide +kernel)))) rfl
theorem kl_D_89 : Cond.methodLink R_D 89 y_D_gatherProducts ∈ gl := gl_T (List.mem_append_right _ (List.mem_append_left _ (List.mem_of_getElem? (i := 31) (by decide +kernel)))) rfl
theorem kst_D_gatherProducts : Cond.static y_D_gatherProducts ∈ gl := gl_T (List.mem_append_right _ (List.mem_append_left _ (List.mem_of_getElem? (i := 32) (by decide +kernel)))) rfl
theorem kl_D_108 : Cond.methodLink R_D 108 y_D_productOver ∈ gl := gl_T (List.mem_append_right _ (List.mem_append_left _ (List.mem_of_getElem? (i := 34) (by decide +kernel)))) rfl
theorem kst_D_productOver : Cond.static y_D_productOver ∈ gl := gl_T (List.mem_append_right _ (List.mem_append_left _ (List.mem_of_getElem? (i := 35) (by decide +kernel)))) rfl
theorem kl_D_161 : Cond.methodLink R_D 161 y_D_times ∈ gl := gl_T (List.mem_append_right _ (List.mem_append_left _ (List.mem_of_getElem? (i := 37) (by decide +kernel)))) rfl
theorem kst_D_times : Cond.static y_D_times ∈ gl := gl_T (List.mem_append_right _ (List.mem_append_left _ (List.mem_of_getElem? (i := 38) (by decide +kernel)))) rfl
theorem kl_D_175 : Cond.methodLink R_D 175 ⟨"java/lang/Math", "abs", "(J)J"⟩ ∈ gl := gl_T (List.mem_append_right _ (List.mem_append_left _ (List.mem_of_getElem? (i := 40) (by decide +kernel)))) rfl
theorem kst_java_lang_Math_abs : Cond.static ⟨"java/lang/Math", "abs", "(J)J"⟩ ∈ gl := gl_T (List.mem_append_right _ (List.mem_append_left _ (List.mem_of_getElem? (i := 41) (by decide +kernel)))) rfl
theorem kk_D_168 : Cond.classLink R_D 168 "java/lang/UnsupportedOperationException" ∈ gl := gl_T (List.mem_append_right _ (List.mem_append_left _ (List.mem_of_getElem? (i := 43) (by decide +kernel)))) rfl
theorem kn_UnsupportedOperationException : Cond.instantiable "java/lang/UnsupportedOperationException" 6 ∈ gl := gl_T (List.mem_append_right _ (List.mem_append_left _ (List.mem_of_getElem? (i := 44) (by decide +kernel)))) rfl
theorem kca_UnsupportedOperationException : Cond.castable "java/lang/UnsupportedOperationException" "java/lang/UnsupportedOperationException" ∈ gl := gl_T (List.mem_append_right _ (List.mem_append_left _ (List.mem_of_getElem? (i := 45) (by decide +kernel)))) rfl
theorem kr_D_181 : Cond.stringRef R_D 181 "a product is out of range" ∈ gl := gl_T (List.mem_append_right _ (List.mem_append_left _ (List.mem_of_getElem? (i := 52) (by decide +kernel)))) rfl
theorem kl_D_172 : Cond.methodLink R_D 172 ⟨"java/lang/UnsupportedOperationException", "<init>", "(Ljava/lang/String;)V"⟩ ∈ gl := gl_T (List.mem_append_right _ (List.mem_append_left _ (List.mem_of_getElem? (i := 53) (by decide +kernel)))) rfl
theorem kl_D_149 : Cond.methodLink R_D 149 y_D_plus ∈ gl := gl_T (List.mem_append_right _ (List.mem_append_left _ (List.mem_of_getElem? (i := 59) (by decide +kernel)))) rfl
theorem kst_D_plus : Cond.static y_D_plus ∈ gl := gl_T (List.mem_append_right _ (List.mem_append_left _ (List.mem_of_getElem? (i := 60) (by decide +kernel)))) rfl
theorem kr_D_170 : Cond.stringRef R_D 170 "a sum is out of range" ∈ gl := gl_T (List.mem_append_right _ (List.mem_append_left _ (List.mem_of_getElem? (i := 62) (by decide +kernel)))) rfl
theorem kl_D_153 : Cond.methodLink R_D 153 ⟨"java/lang/Math", "min", "(JJ)J"⟩ ∈ gl := gl_T (List.mem_append_right _ (List.mem_append_left _ (List.mem_of_getElem? (i := 63) (by decide +kernel)))) rfl
theorem kst_java_lang_Math_min : Cond.static ⟨"java/lang/Math", "min", "(JJ)J"⟩ ∈ gl := gl_T (List.mem_append_right _ (List.mem_append_left _ (List.mem_of_getElem? (i := 64) (by decide +kernel)))) rfl
theorem kl_D_119 : Cond.methodLink R_D 119 y_D_gather ∈ gl := gl_T (List.mem_append_right _ (List.mem_append_left _ (List.mem_of_getElem? (i := 66) (by decide +kernel)))) rfl
theorem kst_D_gather : Cond.static y_D_gather ∈ gl := gl_T (List.mem_append_right _ (List.mem_append_left _ (List.mem_of_getElem? (i := 67) (by decide +kernel)))) rfl
theorem kl_D_146 : Cond.methodLink R_D 146 y_D_sumOver ∈ gl := gl_T (List.mem_append_right _ (List.mem_append_left _ (List.mem_of_getElem? (i := 69) (by decide +kernel)))) rfl
theorem kst_D_sumOver : Cond.static y_D_sumOver ∈ gl := gl_T (List.mem_append_right _ (List.mem_append_left _ (List.mem_of_getElem? (i := 70) (by decide +kernel)))) rfl
theorem kl_D_158 : Cond.methodLink R_D 158 ⟨"java/lang/Math", "max", "(JJ)J"⟩ ∈ gl := gl_T (List.mem_append_right _ (List.mem_append_left _ (List.mem_of_getElem? (i := 72) (by decide +kernel)))) rfl
theorem kst_java_lang_Math_max : Cond.static ⟨"java/lang/Math", "max", "(JJ)J"⟩ ∈ gl := gl_T (List.mem_append_right _ (List.mem_append_left _ (List.mem_of_getElem? (i := 73) (by decide +kernel)))) rfl
theorem kl_D_93 : Cond.methodLink R_D 93 y_D_gatherAll ∈ gl := gl_T (List.mem_append_right _ (List.mem_append_left _ (List.mem_of_getElem? (i := 75) (by decide +kernel)))) rfl
theorem kst_D_gatherAll : Cond.static y_D_gatherAll ∈ gl := gl_T (List.mem_append_right _ (List.mem_append_left _ (List.mem_of_getElem? (i := 76) (by decide +kernel)))) rfl
theorem kl_D_97 : Cond.methodLink R_D 97 y_D_dropZeros ∈ gl := gl_T (List.mem_append_right _ (List.mem_append_left _ (List.mem_of_getElem? (i := 78) (by decide +kernel)))) rfl
theorem kst_D_dropZeros : Cond.static y_D_dropZeros ∈ gl := gl_T (List.mem_append_right _ (List.mem_append_left _ (List.mem_of_getElem? (i := 79) (by decide +kernel)))) rfl
theorem kl_D_101 : Cond.methodLink R_D 101 y_D_keep ∈ gl := gl_T (List.mem_append_right _ (List.mem_append_left _ (List.mem_of_getElem? (i := 81) (by decide +kernel)))) rfl
theorem kin_D_keep : Cond.instanceMethod y_D_keep ∈ gl := gl_T (List.mem_append_right _ (List.mem_append_left _ (List.mem_of_getElem? (i := 83) (by decide +kernel)))) rfl
theorem kl_L_108 : Cond.methodLink R_L 108 y_L_add ∈ gl := gl_T (List.mem_append_right _ (List.mem_append_left _ (List.mem_of_getElem? (i := 85) (by decide +kernel)))) rfl
theorem kst_L_add : Cond.static y_L_add ∈ gl := gl_T (List.mem_append_right _ (List.mem_append_left _ (List.mem_of_getElem? (i := 86) (by decide +kernel)))) rfl
theorem kl_L_41 : Cond.methodLink R_L 41 y_D_add ∈ gl := gl_T (List.mem_append_right _ (List.mem_append_left _ (List.mem_of_getElem? (i := 88) (by decide +kernel)))) rfl
theorem kin_D_add : Cond.instanceMethod y_D_add ∈ gl := gl_T (List.mem_append_right _ (List.mem_append_left _ (List.mem_of_getElem? (i := 89) (by decide +kernel)))) rfl
theorem kse_D_add : Cond.selects R_D y_D_add y_D_add ∈ gl := gl_T (List.mem_append_right _ (List.mem_append_left _ (List.mem_of_getElem? (i := 90) (by decide +kernel)))) rfl
theorem kl_D_105 : Cond.methodLink R_D 105 y_D_requireSameShape ∈ gl := gl_T (List.mem_append_right _ (List.mem_append_left _ (List.mem_of_getElem? (i := 92) (by decide +kernel)))) rfl
theorem kin_D_requireSameShape : Cond.instanceMethod y_D_requireSameShape ∈ gl := gl_T (List.mem_append_right _ (List.mem_append_left _ (List.mem_of_getElem? (i := 94) (by decide +kernel)))) rfl
theorem kl_L_112 : Cond.methodLink R_L 112 y_L_each ∈ gl := gl_T (List.mem_append_right _ (List.mem_append_left _ (List.mem_of_getElem? (i := 96) (by decide +kernel)))) rfl
theorem kst_L_each : Cond.static y_L_each ∈ gl := gl_T (List.mem_append_right _ (List.mem_append_left _ (List.mem_of_getElem? (i := 97) (by decide +kernel)))) rfl
theorem kl_L_45 : Cond.methodLink R_L 45 y_D_each ∈ gl := gl_T (List.mem_append_right _ (List.mem_append_left _ (List.mem_of_getElem? (i := 99) (by decide +kernel)))) rfl
theorem kin_D_each : Cond.instanceMethod y_D_each ∈ gl := gl_T (List.mem_append_right _ (List.mem_append_left _ (List.mem_of_getElem? (i := 100) (by decide +kernel)))) rfl
theorem kse_D_each : Cond.selects R_D y_D_each y_D_each ∈ gl := gl_T (List.mem_append_right _ (List.mem_append_left _ (List.mem_of_getElem? (i := 101) (by decide +kernel)))) rfl
theorem kl_L_115 : Cond.methodLink R_L 115 y_L_transpose ∈ gl := gl_T (List.mem_append_right _ (List.mem_append_left _ (List.mem_of_getElem? (i := 103) (by decide +kernel)))) rfl
theorem kst_L_transpose : Cond.static y_L_transpose ∈ gl := gl_T (List.mem_append_right _ (List.mem_append_left _ (List.mem_of_getElem? (i := 104) (by decide +kernel)))) rfl
theorem kl_L_48 : Cond.methodLink R_L 48 y_D_transpose ∈ gl := gl_T (List.mem_append_right _ (List.mem_append_left _ (List.mem_of_getElem? (i := 106) (by decide +kernel)))) rfl
theorem kin_D_transpose : Cond.instanceMethod y_D_transpose ∈ gl := gl_T (List.mem_append_right _ (List.mem_append_left _ (List.mem_of_getElem? (i := 107) (by decide +kernel)))) rfl
theorem kse_D_transpose : Cond.selects R_D y_D_transpose y_D_transpose ∈ gl := gl_T (List.mem_append_right _ (List.mem_append_left _ (List.mem_of_getElem? (i := 108) (by decide +kernel)))) rfl
theorem kl_L_119 : Cond.methodLink R_L 119 y_L_select ∈ gl := gl_T (List.mem_append_right _ (List.mem_append_left _ (List.mem_of_getElem? (i := 110) (by decide +kernel)))) rfl
theorem kst_L_select : Cond.static y_L_select ∈ gl := gl_T (List.mem_append_right _ (List.mem_append_left _ (List.mem_of_getElem? (i := 111) (by decide +kernel)))) rfl
theorem kl_L_52 : Cond.methodLink R_L 52 y_D_select ∈ gl := gl_T (List.mem_append_right _ (List.mem_append_left _ (List.mem_of_getElem? (i := 113) (by decide +kernel)))) rfl
theorem kin_D_select : Cond.instanceMethod y_D_select ∈ gl := gl_T (List.mem_append_right _ (List.mem_append_left _ (List.mem_of_getElem? (i := 114) (by decide +kernel)))) rfl
theorem kse_D_select : Cond.selects R_D y_D_select y_D_select ∈ gl := gl_T (List.mem_append_right _ (List.mem_append_left _ (List.mem_of_getElem? (i := 115) (by decide +kernel)))) rfl
theorem kl_D_112 : Cond.methodLink R_D 112 y_D_isSelected ∈ gl := gl_T (List.mem_append_right _ (List.mem_append_left _ (List.mem_of_getElem? (i := 117) (by decide +kernel)))) rfl
theorem kst_D_isSelected : Cond.static y_D_isSelected ∈ gl := gl_T (List.mem_append_right _ (List.mem_append_left _ (List.mem_of_getElem? (i := 118) (by decide +kernel)))) rfl
theorem kl_L_123 : Cond.methodLink R_L 123 y_L_reduce ∈ gl := gl_T (List.mem_append_right _ (List.mem_append_left _ (List.mem_of_getElem? (i := 120) (by decide +kernel)))) rfl
theorem kst_L_reduce : Cond.static y_L_reduce ∈ gl := gl_T (List.mem_append_right _ (List.mem_append_left _ (List.mem_of_getElem? (i := 121) (by decide +kernel)))) rfl
theorem kl_L_56 : Cond.methodLink R_L 56 y_D_reduce ∈ gl := gl_T (List.mem_append_right _ (List.mem_append_left _ (List.mem_of_getElem? (i := 123) (by decide +kernel)))) rfl
theorem kin_D_reduce : Cond.instanceMethod y_D_reduce ∈ gl := gl_T (List.mem_append_right _ (List.mem_append_left _ (List.mem_of_getElem? (i := 124) (by decide +kernel)))) rfl
theorem kse_D_reduce : Cond.selects R_D y_D_reduce y_D_reduce ∈ gl := gl_T (List.mem_append_right _ (List.mem_append_left _ (List.mem_of_getElem? (i := 125) (by decide +kernel)))) rfl
theorem kl_L_126 : Cond.methodLink R_L 126 y_L_levels ∈ gl := gl_T (List.mem_append_right _ (List.mem_append_left _ (List.mem_of_getElem? (i := 127) (by decide +kernel)))) rfl
theorem kst_L_levels : Cond.static y_L_levels ∈ gl := gl_T (List.mem_append_right _ (List.mem_append_left _ (List.mem_of_getElem? (i := 128) (by decide +kernel)))) rfl
theorem kl_L_60 : Cond.methodLink R_L 60 y_D_levels ∈ gl := gl_T (List.mem_append_right _ (List.mem_append_left _ (List.mem_of_getElem? (i := 130) (by decide +kernel)))) rfl
theorem kin_D_levels : Cond.instanceMethod y_D_levels ∈ gl := gl_T (List.mem_append_right _ (List.mem_append_left _ (List.mem_of_getElem? (i := 131) (by decide +kernel)))) rfl
theorem kse_D_levels : Cond.selects R_D y_D_levels y_D_levels ∈ gl := gl_T (List.mem_append_right _ (List.mem_append_left _ (List.mem_of_getElem? (i := 132) (by decide +kernel)))) rfl
theorem kl_D_123 : Cond.methodLink R_D 123 y_D_requireGraph ∈ gl := gl_T (List.mem_append_right _ (List.mem_append_left _ (List.mem_of_getElem? (i := 134) (by decide +kernel)))) rfl
theorem kin_D_requireGraph : Cond.instanceMethod y_D_requireGraph ∈ gl := gl_T (List.mem_append_right _ (List.mem_append_left _ (List.mem_of_getElem? (i := 136) (by decide +kernel)))) rfl
theorem kl_D_126 : Cond.methodLink R_D 126 y_D_requireVertex ∈ gl := gl_T (List.mem_append_right _ (List.mem_append_left _ (List.mem_of_getElem? (i := 138) (by decide +kernel)))) rfl
theorem kst_D_requireVertex : Cond.static y_D_requireVertex ∈ gl := gl_T (List.mem_append_right _ (List.mem_append_left _ (List.mem_of_getElem? (i := 139) (by decide +kernel)))) rfl
theorem kr_D_214 : Cond.stringRef R_D 214 "no such vertex" ∈ gl := gl_T (List.mem_append_right _ (List.mem_append_left _ (List.mem_of_getElem? (i := 141) (by decide +kernel)))) rfl
theorem kl_D_129 : Cond.methodLink R_D 129 y_D_enterNextLevel ∈ gl := gl_T (List.mem_append_right _ (List.mem_append_left _ (List.mem_of_getElem? (i := 142) (by decide +kernel)))) rfl
theorem kst_D_enterNextLevel : Cond.static y_D_enterNextLevel ∈ gl := gl_T (List.mem_append_right _ (List.mem_append_left _ (List.mem_of_getElem? (i := 143) (by decide +kernel)))) rfl
theorem kl_D_183 : Cond.methodLink R_D 183 y_D_enterNeighbours ∈ gl := gl_T (List.mem_append_right _ (List.mem_append_left _ (List.mem_of_getElem? (i := 145) (by decide +kernel)))) rfl
theorem kst_D_enterNeighbours : Cond.static y_D_enterNeighbours ∈ gl := gl_T (List.mem_append_right _ (List.mem_append_left _ (List.mem_of_getElem? (i := 146) (by decide +kernel)))) rfl
theorem kl_L_129 : Cond.methodLink R_L 129 y_L_paths ∈ gl := gl_T (List.mem_append_right _ (List.mem_append_left _ (List.mem_of_getElem? (i := 148) (by decide +kernel)))) rfl
theorem kst_L_paths : Cond.static y_L_paths ∈ gl := gl_T (List.mem_append_right _ (List.mem_append_left _ (List.mem_of_getElem? (i := 149) (by decide +kernel)))) rfl
theorem kl_L_64 : Cond.methodLink R_L 64 y_D_paths ∈ gl := gl_T (List.mem_append_right _ (List.mem_append_left _ (List.mem_of_getElem? (i := 151) (by decide +kernel)))) rfl
theorem kin_D_paths : Cond.instanceMethod y_D_paths ∈ gl := gl_T (List.mem_append_right _ (List.mem_append_left _ (List.mem_of_getElem? (i := 152) (by decide +kernel)))) rfl
theorem kse_D_paths : Cond.selects R_D y_D_paths y_D_paths ∈ gl := gl_T (List.mem_append_right _ (List.mem_append_left _ (List.mem_of_getElem? (i := 153) (by decide +kernel)))) rfl
theorem kl_D_132 : Cond.methodLink R_D 132 y_D_requireLengths ∈ gl := gl_T (List.mem_append_right _ (List.mem_append_left _ (List.mem_of_getElem? (i := 155) (by decide +kernel)))) rfl
theorem kst_D_requireLengths : Cond.static y_D_requireLengths ∈ gl := gl_T (List.mem_append_right _ (List.mem_append_left _ (List.mem_of_getElem? (i := 156) (by decide +kernel)))) rfl
theorem kq_D_216 : Cond.constantLong R_D 216 1000000000 ∈ gl := gl_T (List.mem_append_right _ (List.mem_append_left _ (List.mem_of_getElem? (i := 158) (by decide +kernel)))) rfl
theorem kr_D_218 : Cond.stringRef R_D 218 "a length is out of range" ∈ gl := gl_T (List.mem_append_right _ (List.mem_append_left _ (List.mem_of_getElem? (i := 159) (by decide +kernel)))) rfl
theorem kl_D_136 : Cond.methodLink R_D 136 y_D_shortenOver ∈ gl := gl_T (List.mem_append_right _ (List.mem_append_left _ (List.mem_of_getElem? (i := 160) (by decide +kernel)))) rfl
theorem kst_D_shortenOver : Cond.static y_D_shortenOver ∈ gl := gl_T (List.mem_append_right _ (List.mem_append_left _ (List.mem_of_getElem? (i := 161) (by decide +kernel)))) rfl
theorem kl_D_139 : Cond.methodLink R_D 139 y_D_requireNoCircleBelowZero ∈ gl := gl_T (List.mem_append_right _ (List.mem_append_left _ (List.mem_of_getElem? (i := 163) (by decide +kernel)))) rfl
theorem kst_D_requireNoCircleBelowZero : Cond.static y_D_requireNoCircleBelowZero ∈ gl := gl_T (List.mem_append_right _ (List.mem_append_left _ (List.mem_of_getElem? (i := 164) (by decide +kernel)))) rfl
theorem kr_D_220 : Cond.stringRef R_D 220 "a circle is shorter than 0" ∈ gl := gl_T (List.mem_append_right _ (List.mem_append_left _ (List.mem_of_getElem? (i := 166) (by decide +kernel)))) rfl
theorem kl_L_132 : Cond.methodLink R_L 132 y_L_triangles ∈ gl := gl_T (List.mem_append_right _ (List.mem_append_left _ (List.mem_of_getElem? (i := 167) (by decide +kernel)))) rfl
theorem kst_L_triangles : Cond.static y_L_triangles ∈ gl := gl_T (List.mem_append_right _ (List.mem_append_left _ (List.mem_of_getElem? (i := 168) (by decide +kernel)))) rfl
theorem kl_L_67 : Cond.methodLink R_L 67 y_D_triangles ∈ gl := gl_T (List.mem_append_right _ (List.mem_append_left _ (List.mem_of_getElem? (i := 170) (by decide +kernel)))) rfl
theorem kin_D_triangles : Cond.instanceMethod y_D_triangles ∈ gl := gl_T (List.mem_append_right _ (List.mem_append_left _ (List.mem_of_getElem? (i := 171) (by decide +kernel)))) rfl
theorem kse_D_triangles : Cond.selects R_D y_D_triangles y_D_triangles ∈ gl := gl_T (List.mem_append_right _ (List.mem_append_left _ (List.mem_of_getElem? (i := 172) (by decide +kernel)))) rfl
theorem kl_L_135 : Cond.methodLink R_L 135 y_L_components ∈ gl := gl_T (List.mem_append_right _ (List.mem_append_left _ (List.mem_of_getElem? (i := 174) (by decide +kernel)))) rfl
theorem kst_L_components : Cond.static y_L_components ∈ gl := gl_T (List.mem_append_right _ (List.mem_append_left _ (List.mem_of_getElem? (i := 175) (by decide +kernel)))) rfl
theorem kl_L_70 : Cond.methodLink R_L 70 y_D_components ∈ gl := gl_T (List.mem_append_right _ (List.mem_append_left _ (List.mem_of_getElem? (i := 177) (by decide +kernel)))) rfl
theorem kin_D_components : Cond.instanceMethod y_D_components ∈ gl := gl_T (List.mem_append_right _ (List.mem_append_left _ (List.mem_of_getElem? (i := 178) (by decide +kernel)))) rfl
theorem kse_D_components : Cond.selects R_D y_D_components y_D_components ∈ gl := gl_T (List.mem_append_right _ (List.mem_append_left _ (List.mem_of_getElem? (i := 179) (by decide +kernel)))) rfl
theorem kl_D_142 : Cond.methodLink R_D 142 y_D_spreadLeastVertices ∈ gl := gl_T (List.mem_append_right _ (List.mem_append_left _ (List.mem_of_getElem? (i := 181) (by decide +kernel)))) rfl
theorem kst_D_spreadLeastVertices : Cond.static y_D_spreadLeastVertices ∈ gl := gl_T (List.mem_append_right _ (List.mem_append_left _ (List.mem_of_getElem? (i := 182) (by decide +kernel)))) rfl
theorem kk_L_74 : Cond.classLink R_L 74 R_R ∈ gl := gl_T (List.mem_append_right _ (List.mem_append_left _ (List.mem_of_getElem? (i := 184) (by decide +kernel)))) rfl
theorem kn_R : Cond.instantiable R_R 10 ∈ gl := gl_T (List.mem_append_right _ (List.mem_append_left _ (List.mem_of_getElem? (i := 185) (by decide +kernel)))) rfl
theorem kl_L_76 : Cond.methodLink R_L 76 y_R_init ∈ gl := gl_T (List.mem_append_right _ (List.mem_append_left _ (List.mem_of_getElem? (i := 186) (by decide +kernel)))) rfl
theorem kin_R_init : Cond.instanceMethod y_R_init ∈ gl := gl_T (List.mem_append_right _ (List.mem_append_left _ (List.mem_of_getElem? (i := 187) (by decide +kernel)))) rfl
theorem kl_R_1 : Cond.methodLink R_R 1 ⟨"java/lang/Object", "<init>", "()V"⟩ ∈ gl := gl_T (List.mem_append_right _ (List.mem_append_left _ (List.mem_of_getElem? (i := 189) (by decide +kernel)))) rfl
theorem kf_R_30 : Cond.fieldLink R_R 30 R_R "thrown" "I" ∈ gl := gl_T (List.mem_append_right _ (List.mem_append_left _ (List.mem_of_getElem? (i := 190) (by decide +kernel)))) rfl
theorem kf_R_7 : Cond.fieldLink R_R 7 R_R "rows" "[I" ∈ gl := gl_T (List.mem_append_right _ (List.mem_append_left _ (List.mem_of_getElem? (i := 191) (by decide +kernel)))) rfl
theorem kf_R_13 : Cond.fieldLink R_R 13 R_R "columns" "[I" ∈ gl := gl_T (List.mem_append_right _ (List.mem_append_left _ (List.mem_of_getElem? (i := 192) (by decide +kernel)))) rfl
theorem kf_R_16 : Cond.fieldLink R_R 16 R_R "has" "[Z" ∈ gl := gl_T (List.mem_append_right _ (List.mem_append_left _ (List.mem_of_getElem? (i := 193) (by decide +kernel)))) rfl
theorem kf_R_20 : Cond.fieldLink R_R 20 R_R "value" "[J" ∈ gl := gl_T (List.mem_append_right _ (List.mem_append_left _ (List.mem_of_getElem? (i := 194) (by decide +kernel)))) rfl
theorem kf_R_65 : Cond.fieldLink R_R 65 R_R "wide" "I" ∈ gl := gl_T (List.mem_append_right _ (List.mem_append_left _ (List.mem_of_getElem? (i := 195) (by decide +kernel)))) rfl
theorem kf_R_62 : Cond.fieldLink R_R 62 R_R "high" "I" ∈ gl := gl_T (List.mem_append_right _ (List.mem_append_left _ (List.mem_of_getElem? (i := 196) (by decide +kernel)))) rfl
theorem kf_R_24 : Cond.fieldLink R_R 24 R_R "there" "[Z" ∈ gl := gl_T (List.mem_append_right _ (List.mem_append_left _ (List.mem_of_getElem? (i := 197) (by decide +kernel)))) rfl
theorem kf_R_27 : Cond.fieldLink R_R 27 R_R "made" "[J" ∈ gl := gl_T (List.mem_append_right _ (List.mem_append_left _ (List.mem_of_getElem? (i := 198) (by decide +kernel)))) rfl
theorem kf_R_54 : Cond.fieldLink R_R 54 R_R "far" "Z" ∈ gl := gl_T (List.mem_append_right _ (List.mem_append_left _ (List.mem_of_getElem? (i := 199) (by decide +kernel)))) rfl
theorem kl_L_83 : Cond.methodLink R_L 83 y_R_thrown ∈ gl := gl_T (List.mem_append_right _ (List.mem_append_left _ (List.mem_of_getElem? (i := 222) (by decide +kernel)))) rfl
theorem kin_R_thrown : Cond.instanceMethod y_R_thrown ∈ gl := gl_T (List.mem_append_right _ (List.mem_append_left _ (List.mem_of_getElem? (i := 223) (by decide +kernel)))) rfl
theorem kse_R_thrown : Cond.selects R_R y_R_thrown y_R_thrown ∈ gl := gl_T (List.mem_append_right _ (List.mem_append_left _ (List.mem_of_getElem? (i := 224) (by decide +kernel)))) rfl
theorem kl_L_82 : Cond.methodLink R_L 82 y_R_shape ∈ gl := gl_T (List.mem_append_right _ (List.mem_append_left _ (List.mem_of_getElem? (i := 226) (by decide +kernel)))) rfl
theorem kin_R_shape : Cond.instanceMethod y_R_shape ∈ gl := gl_T (List.mem_append_right _ (List.mem_append_left _ (List.mem_of_getElem? (i := 227) (by decide +kernel)))) rfl
theorem kse_R_shape : Cond.selects R_R y_R_shape y_R_shape ∈ gl := gl_T (List.mem_append_right _ (List.mem_append_left _ (List.mem_of_getElem? (i := 228) (by decide +kernel)))) rfl
theorem kl_R_38 : Cond.methodLink R_R 38 y_R_isRegister ∈ gl := gl_T (List.mem_append_right _ (List.mem_append_left _ (List.mem_of_getElem? (i := 230) (by decide +kernel)))) rfl
theorem kst_R_isRegister : Cond.static y_R_isRegister ∈ gl := gl_T (List.mem_append_right _ (List.mem_append_left _ (List.mem_of_getElem? (i := 231) (by decide +kernel)))) rfl
theorem kl_L_92 : Cond.methodLink R_L 92 y_R_put ∈ gl := gl_T (List.mem_append_right _ (List.mem_append_left _ (List.mem_of_getElem? (i := 233) (by decide +kernel)))) rfl
theorem kin_R_put : Cond.instanceMethod y_R_put ∈ gl := gl_T (List.mem_append_right _ (List.mem_append_left _ (List.mem_of_getElem? (i := 234) (by decide +kernel)))) rfl
theorem kse_R_put : Cond.selects R_R y_R_put y_R_put ∈ gl := gl_T (List.mem_append_right _ (List.mem_append_left _ (List.mem_of_getElem? (i := 235) (by decide +kernel)))) rfl
theorem kl_R_42 : Cond.methodLink R_R 42 y_R_isPlace ∈ gl := gl_T (List.mem_append_right _ (List.mem_append_left _ (List.mem_of_getElem? (i := 237) (by decide +kernel)))) rfl
theorem kin_R_isPlace : Cond.instanceMethod y_R_isPlace ∈ gl := gl_T (List.mem_append_right _ (List.mem_append_left _ (List.mem_of_getElem? (i := 239) (by decide +kernel)))) rfl
theorem kl_R_46 : Cond.methodLink R_R 46 y_R_isValue ∈ gl := gl_T (List.mem_append_right _ (List.mem_append_right _ (List.mem_of_getElem? (i := 1) (by decide +kernel)))) rfl
theorem kst_R_isValue : Cond.static y_R_isValue ∈ gl := gl_T (List.mem_append_right _ (List.mem_append_right _ (List.mem_of_getElem? (i := 2) (by decide +kernel)))) rfl
theorem kq_R_34 : Cond.constantLong R_R 34 (-1000000000000) ∈ gl := gl_T (List.mem_append_right _ (List.mem_append_right _ (List.mem_of_getElem? (i := 4) (by decide +kernel)))) rfl
theorem kq_R_36 : Cond.constantLong R_R 36 1000000000000 ∈ gl := gl_T (List.mem_append_right _ (List.mem_append_right _ (List.mem_of_getElem? (i := 5) (by decide +kernel)))) rfl
theorem kl_L_96 : Cond.methodLink R_L 96 y_R_drop ∈ gl := gl_T (List.mem_append_right _ (List.mem_append_right _ (List.mem_of_getElem? (i := 6) (by decide +kernel)))) rfl
theorem kin_R_drop : Cond.instanceMethod y_R_drop ∈ gl := gl_T (List.mem_append_right _ (List.mem_append_right _ (List.mem_of_getElem? (i := 7) (by decide +kernel)))) rfl
theorem kse_R_drop : Cond.selects R_R y_R_drop y_R_drop ∈ gl := gl_T (List.mem_append_right _ (List.mem_append_right _ (List.mem_of_getElem? (i := 8) (by decide +kernel)))) rfl
theorem kl_L_99 : Cond.methodLink R_L 99 y_R_at ∈ gl := gl_T (List.mem_append_right _ (List.mem_append_right _ (List.mem_of_getElem? (i := 10) (by decide +kernel)))) rfl
theorem kin_R_at : Cond.instanceMethod y_R_at ∈ gl := gl_T (List.mem_append_right _ (List.mem_append_right _ (List.mem_of_getElem? (i := 11) (by decide +kernel)))) rfl
theorem kse_R_at : Cond.selects R_R y_R_at y_R_at ∈ gl := gl_T (List.mem_append_right _ (List.mem_append_right _ (List.mem_of_getElem? (i := 12) (by decide +kernel)))) rfl
theorem kl_L_103 : Cond.methodLink R_L 103 y_R_size ∈ gl := gl_T (List.mem_append_right _ (List.mem_append_right _ (List.mem_of_getElem? (i := 14) (by decide +kernel)))) rfl
theorem kin_R_size : Cond.instanceMethod y_R_size ∈ gl := gl_T (List.mem_append_right _ (List.mem_append_right _ (List.mem_of_getElem? (i := 15) (by decide +kernel)))) rfl
theorem kse_R_size : Cond.selects R_R y_R_size y_R_size ∈ gl := gl_T (List.mem_append_right _ (List.mem_append_right _ (List.mem_of_getElem? (i := 16) (by decide +kernel)))) rfl
theorem kl_R_50 : Cond.methodLink R_R 50 y_R_entries ∈ gl := gl_T (List.mem_append_right _ (List.mem_append_right _ (List.mem_of_getElem? (i := 18) (by decide +kernel)))) rfl
theorem kin_R_entries : Cond.instanceMethod y_R_entries ∈ gl := gl_T (List.mem_append_right _ (List.mem_append_right _ (List.mem_of_getElem? (i := 20) (by decide +kernel)))) rfl
theorem kl_L_107 : Cond.methodLink R_L 107 y_R_multiply ∈ gl := gl_T (List.mem_append_right _ (List.mem_append_right _ (List.mem_of_getElem? (i := 22) (by decide +kernel)))) rfl
theorem kin_R_multiply : Cond.instanceMethod y_R_multiply ∈ gl := gl_T (List.mem_append_right _ (List.mem_append_right _ (List.mem_of_getElem? (i := 23) (by decide +kernel)))) rfl
theorem kse_R_multiply : Cond.selects R_R y_R_multiply y_R_multiply ∈ gl := gl_T (List.mem_append_right _ (List.mem_append_right _ (List.mem_of_getElem? (i := 24) (by decide +kernel)))) rfl
theorem kl_R_79 : Cond.methodLink R_R 79 y_R_isRing ∈ gl := gl_T (List.mem_append_right _ (List.mem_append_right _ (List.mem_of_getElem? (i := 26) (by decide +kernel)))) rfl
theorem kst_R_isRing : Cond.static y_R_isRing ∈ gl := gl_T (List.mem_append_right _ (List.mem_append_right _ (List.mem_of_getElem? (i := 27) (by decide +kernel)))) rfl
theorem kl_R_82 : Cond.methodLink R_R 82 y_R_begin ∈ gl := gl_T (List.mem_append_right _ (List.mem_append_right _ (List.mem_of_getElem? (i := 29) (by decide +kernel)))) rfl
theorem kin_R_begin : Cond.instanceMethod y_R_begin ∈ gl := gl_T (List.mem_append_right _ (List.mem_append_right _ (List.mem_of_getElem? (i := 31) (by decide +kernel)))) rfl
theorem kl_R_86 : Cond.methodLink R_R 86 y_R_cross ∈ gl := gl_T (List.mem_append_right _ (List.mem_append_right _ (List.mem_of_getElem? (i := 33) (by decide +kernel)))) rfl
theorem kin_R_cross : Cond.instanceMethod y_R_cross ∈ gl := gl_T (List.mem_append_right _ (List.mem_append_right _ (List.mem_of_getElem? (i := 35) (by decide +kernel)))) rfl
theorem kl_R_68 : Cond.methodLink R_R 68 y_R_product ∈ gl := gl_T (List.mem_append_right _ (List.mem_append_right _ (List.mem_of_getElem? (i := 37) (by decide +kernel)))) rfl
theorem kin_R_product : Cond.instanceMethod y_R_product ∈ gl := gl_T (List.mem_append_right _ (List.mem_append_right _ (List.mem_of_getElem? (i := 39) (by decide +kernel)))) rfl
theorem kl_R_58 : Cond.methodLink R_R 58 y_R_size0 ∈ gl := gl_T (List.mem_append_right _ (List.mem_append_right _ (List.mem_of_getElem? (i := 41) (by decide +kernel)))) rfl
theorem kst_R_size0 : Cond.static y_R_size0 ∈ gl := gl_T (List.mem_append_right _ (List.mem_append_right _ (List.mem_of_getElem? (i := 42) (by decide +kernel)))) rfl
theorem kl_R_72 : Cond.methodLink R_R 72 y_R_sum ∈ gl := gl_T (List.mem_append_right _ (List.mem_append_right _ (List.mem_of_getElem? (i := 44) (by decide +kernel)))) rfl
theorem kin_R_sum : Cond.instanceMethod y_R_sum ∈ gl := gl_T (List.mem_append_right _ (List.mem_append_right _ (List.mem_of_getElem? (i := 46) (by decide +kernel)))) rfl
theorem kl_R_75 : Cond.methodLink R_R 75 y_R_make ∈ gl := gl_T (List.mem_append_right _ (List.mem_append_right _ (List.mem_of_getElem? (i := 48) (by decide +kernel)))) rfl
theorem kin_R_make : Cond.instanceMethod y_R_make ∈ gl := gl_T (List.mem_append_right _ (List.mem_append_right _ (List.mem_of_getElem? (i := 50) (by decide +kernel)))) rfl
theorem kl_R_90 : Cond.methodLink R_R 90 y_R_join ∈ gl := gl_T (List.mem_append_right _ (List.mem_append_right _ (List.mem_of_getElem? (i := 52) (by decide +kernel)))) rfl
theorem kin_R_join : Cond.instanceMethod y_R_join ∈ gl := gl_T (List.mem_append_right _ (List.mem_append_right _ (List.mem_of_getElem? (i := 54) (by decide +kernel)))) rfl
theorem kl_R_93 : Cond.methodLink R_R 93 y_R_finish ∈ gl := gl_T (List.mem_append_right _ (List.mem_append_right _ (List.mem_of_getElem? (i := 56) (by decide +kernel)))) rfl
theorem kin_R_finish : Cond.instanceMethod y_R_finish ∈ gl := gl_T (List.mem_append_right _ (List.mem_append_right _ (List.mem_of_getElem? (i := 58) (by decide +kernel)))) rfl
theorem kl_L_111 : Cond.methodLink R_L 111 y_R_add ∈ gl := gl_T (List.mem_append_right _ (List.mem_append_right _ (List.mem_of_getElem? (i := 60) (by decide +kernel)))) rfl
theorem kin_R_add : Cond.instanceMethod y_R_add ∈ gl := gl_T (List.mem_append_right _ (List.mem_append_right _ (List.mem_of_getElem? (i := 61) (by decide +kernel)))) rfl
theorem kse_R_add : Cond.selects R_R y_R_add y_R_add ∈ gl := gl_T (List.mem_append_right _ (List.mem_append_right _ (List.mem_of_getElem? (i := 62) (by decide +kernel)))) rfl
theorem kl_R_97 : Cond.methodLink R_R 97 y_R_pair ∈ gl := gl_T (List.mem_append_right _ (List.mem_append_right _ (List.mem_of_getElem? (i := 64) (by decide +kernel)))) rfl
theorem kin_R_pair : Cond.instanceMethod y_R_pair ∈ gl := gl_T (List.mem_append_right _ (List.mem_append_right _ (List.mem_of_getElem? (i := 66) (by decide +kernel)))) rfl
theorem kl_L_114 : Cond.methodLink R_L 114 y_R_each ∈ gl := gl_T (List.mem_append_right _ (List.mem_append_right _ (List.mem_of_getElem? (i := 68) (by decide +kernel)))) rfl
theorem kin_R_each : Cond.instanceMethod y_R_each ∈ gl := gl_T (List.mem_append_right _ (List.mem_append_right _ (List.mem_of_getElem? (i := 69) (by decide +kernel)))) rfl
theorem kse_R_each : Cond.selects R_R y_R_each y_R_each ∈ gl := gl_T (List.mem_append_right _ (List.mem_append_right _ (List.mem_of_getElem? (i := 70) (by decide +kernel)))) rfl
theorem kl_L_118 : Cond.methodLink R_L 118 y_R_transpose ∈ gl := gl_T (List.mem_append_right _ (List.mem_append_right _ (List.mem_of_getElem? (i := 72) (by decide +kernel)))) rfl
theorem kin_R_transpose : Cond.instanceMethod y_R_transpose ∈ gl := gl_T (List.mem_append_right _ (List.mem_append_right _ (List.mem_of_getElem? (i := 73) (by decide +kernel)))) rfl
theorem kse_R_transpose : Cond.selects R_R y_R_transpose y_R_transpose ∈ gl := gl_T (List.mem_append_right _ (List.mem_append_right _ (List.mem_of_getElem? (i := 74) (by decide +kernel)))) rfl
theorem kl_L_122 : Cond.methodLink R_L 122 y_R_select ∈ gl := gl_T (List.mem_append_right _ (List.mem_append_right _ (List.mem_of_getElem? (i := 76) (by decide +kernel)))) rfl
theorem kin_R_select : Cond.instanceMethod y_R_select ∈ gl := gl_T (List.mem_append_right _ (List.mem_append_right _ (List.mem_of_getElem? (i := 77) (by decide +kernel)))) rfl
theorem kse_R_select : Cond.selects R_R y_R_select y_R_select ∈ gl := gl_T (List.mem_append_right _ (List.mem_append_right _ (List.mem_of_getElem? (i := 78) (by decide +kernel)))) rfl
theorem kl_R_101 : Cond.methodLink R_R 101 y_R_chosen ∈ gl := gl_T (List.mem_append_right _ (List.mem_append_right _ (List.mem_of_getElem? (i := 80) (by decide +kernel)))) rfl
theorem kst_R_chosen : Cond.static y_R_chosen ∈ gl := gl_T (List.mem_append_right _ (List.mem_append_right _ (List.mem_of_getElem? (i := 81) (by decide +kernel)))) rfl
theorem kl_L_125 : Cond.methodLink R_L 125 y_R_reduce ∈ gl := gl_T (List.mem_append_right _ (List.mem_append_right _ (List.mem_of_getElem? (i := 83) (by decide +kernel)))) rfl
theorem kin_R_reduce : Cond.instanceMethod y_R_reduce ∈ gl := gl_T (List.mem_append_right _ (List.mem_append_right _ (List.mem_of_getElem? (i := 84) (by decide +kernel)))) rfl
theorem kse_R_reduce : Cond.selects R_R y_R_reduce y_R_reduce ∈ gl := gl_T (List.mem_append_right _ (List.mem_append_right _ (List.mem_of_getElem? (i := 85) (by decide +kernel)))) rfl
theorem kl_L_128 : Cond.methodLink R_L 128 y_R_levels ∈ gl := gl_T (List.mem_append_right _ (List.mem_append_right _ (List.mem_of_getElem? (i := 87) (by decide +kernel)))) rfl
theorem kin_R_levels : Cond.instanceMethod y_R_levels ∈ gl := gl_T (List.mem_append_right _ (List.mem_append_right _ (List.mem_of_getElem? (i := 88) (by decide +kernel)))) rfl
theorem kse_R_levels : Cond.selects R_R y_R_levels y_R_levels ∈ gl := gl_T (List.mem_append_right _ (List.mem_append_right _ (List.mem_of_getElem? (i := 89) (by decide +kernel)))) rfl
theorem kl_R_105 : Cond.methodLink R_R 105 y_R_isSquare ∈ gl := gl_T (List.mem_append_right _ (List.mem_append_right _ (List.mem_of_getElem? (i := 91) (by decide +kernel)))) rfl
theorem kin_R_isSquare : Cond.instanceMethod y_R_isSquare ∈ gl := gl_T (List.mem_append_right _ (List.mem_append_right _ (List.mem_of_getElem? (i := 93) (by decide +kernel)))) rfl
theorem kl_L_131 : Cond.methodLink R_L 131 y_R_paths ∈ gl := gl_T (List.mem_append_right _ (List.mem_append_right _ (List.mem_of_getElem? (i := 95) (by decide +kernel)))) rfl
theorem kin_R_paths : Cond.instanceMethod y_R_paths ∈ gl := gl_T (List.mem_append_right _ (List.mem_append_right _ (List.mem_of_getElem? (i := 96) (by decide +kernel)))) rfl
theorem kse_R_paths : Cond.selects R_R y_R_paths y_R_paths ∈ gl := gl_T (List.mem_append_right _ (List.mem_append_right _ (List.mem_of_getElem? (i := 97) (by decide +kernel)))) rfl
theorem kq_R_108 : Cond.constantLong R_R 108 (-1000000000) ∈ gl := gl_T (List.mem_append_right _ (List.mem_append_right _ (List.mem_of_getElem? (i := 99) (by decide +kernel)))) rfl
theorem kq_R_110 : Cond.constantLong R_R 110 1000000000 ∈ gl := gl_T (List.mem_append_right _ (List.mem_append_right _ (List.mem_of_getElem? (i := 100) (by decide +kernel)))) rfl
theorem kl_R_112 : Cond.methodLink R_R 112 y_R_relax ∈ gl := gl_T (List.mem_append_right _ (List.mem_append_right _ (List.mem_of_getElem? (i := 101) (by decide +kernel)))) rfl
theorem kin_R_relax : Cond.instanceMethod y_R_relax ∈ gl := gl_T (List.mem_append_right _ (List.mem_append_right _ (List.mem_of_getElem? (i := 103) (by decide +kernel)))) rfl
theorem kl_L_134 : Cond.methodLink R_L 134 y_R_triangles ∈ gl := gl_T (List.mem_append_right _ (List.mem_append_right _ (List.mem_of_getElem? (i := 105) (by decide +kernel)))) rfl
theorem kin_R_triangles : Cond.instanceMethod y_R_triangles ∈ gl := gl_T (List.mem_append_right _ (List.mem_append_right _ (List.mem_of_getElem? (i := 106) (by decide +kernel)))) rfl
theorem kse_R_triangles : Cond.selects R_R y_R_triangles y_R_triangles ∈ gl := gl_T (List.mem_append_right _ (List.mem_append_right _ (List.mem_of_getElem? (i := 107) (by decide +kernel)))) rfl
theorem kl_L_137 : Cond.methodLink R_L 137 y_R_components ∈ gl := gl_T (List.mem_append_right _ (List.mem_append_right _ (List.mem_of_getElem? (i := 109) (by decide +kernel)))) rfl
theorem kin_R_components : Cond.instanceMethod y_R_components ∈ gl := gl_T (List.mem_append_right _ (List.mem_append_right _ (List.mem_of_getElem? (i := 110) (by decide +kernel)))) rfl
theorem kse_R_components : Cond.selects R_R y_R_components y_R_components ∈ gl := gl_T (List.mem_append_right _ (List.mem_append_right _ (List.mem_of_getElem? (i := 111) (by decide +kernel)))) rfl
theorem kq_L_87 : Cond.constantLong R_L 87 4294967295 ∈ gl := gl_T (List.mem_append_right _ (List.mem_append_right _ (List.mem_of_getElem? (i := 113) (by decide +kernel)))) rfl
theorem kse_D_requirePlace : Cond.selects R_D y_D_requirePlace y_D_requirePlace ∈ gl := gl_of (List.mem_append_left _ (List.mem_of_getElem? (i := 1) (by decide +kernel))) rfl
theorem kse_D_blank : Cond.selects R_D y_D_blank y_D_blank ∈ gl := gl_of (List.mem_append_left _ (List.mem_of_getElem? (i := 2) (by decide +kernel))) rfl
theorem kse_D_keep : Cond.selects R_D y_D_keep y_D_keep ∈ gl := gl_of (List.mem_append_left _ (List.mem_of_getElem? (i := 3) (by decide +kernel))) rfl
theorem kse_D_requireSameShape : Cond.selects R_D y_D_requireSameShape y_D_requireSameShape ∈ gl := gl_of (List.mem_append_left _ (List.mem_of_getElem? (i := 4) (by decide +kernel))) rfl
theorem kse_D_requireGraph : Cond.selects R_D y_D_requireGraph y_D_requireGraph ∈ gl := gl_of (List.mem_append_left _ (List.mem_of_getElem? (i := 5) (by decide +kernel))) rfl
theorem kse_R_isPlace : Cond.selects R_R y_R_isPlace y_R_isPlace ∈ gl := gl_of (List.mem_append_left _ (List.mem_of_getElem? (i := 6) (by decide +kernel))) rfl
theorem kse_R_entries : Cond.selects R_R y_R_entries y_R_entries ∈ gl := gl_of (List.mem_append_left _ (List.mem_of_getElem? (i := 7) (by decide +kernel))) rfl
theorem kse_R_begin : Cond.selects R_R y_R_begin y_R_begin ∈ gl := gl_of (List.mem_append_left _ (List.mem_of_getElem? (i := 8) (by decide +kernel))) rfl
theorem kse_R_cross : Cond.selects R_R y_R_cross y_R_cross ∈ gl := gl_of (List.mem_append_left _ (List.mem_of_getElem? (i := 9) (by decide +kernel))) rfl
theorem kse_R_product : Cond.selects R_R y_R_product y_R_product ∈ gl := gl_of (List.mem_append_left _ (List.mem_of_getElem? (i := 10) (by decide +kernel))) rfl
theorem kse_R_sum : Cond.selects R_R y_R_sum y_R_sum ∈ gl := gl_of (List.mem_append_left _ (List.mem_of_getElem? (i := 11) (by decide +kernel))) rfl
theorem kse_R_make : Cond.selects R_R y_R_make y_R_make ∈ gl := gl_of (List.mem_append_left _ (List.mem_of_getElem? (i := 12) (by decide +kernel))) rfl
theorem kse_R_join : Cond.selects R_R y_R_join y_R_join ∈ gl := gl_of (List.mem_append_left _ (List.mem_of_getElem? (i := 13) (by decide +kernel))) rfl
theorem kse_R_finish : Cond.selects R_R y_R_finish y_R_finish ∈ gl := gl_of (List.mem_append_left _ (List.mem_of_getElem? (i := 14) (by decide +kernel))) rfl
theorem kse_R_pair : Cond.selects R_R y_R_pair y_R_pair ∈ gl := gl_of (List.mem_append_left _ (List.mem_of_getElem? (i := 15) (by decide +kernel))) rfl
theorem kse_R_isSquare : Cond.selects R_R y_R_isSquare y_R_isSquare ∈ gl := gl_of (List.mem_append_left _ (List.mem_of_getElem? (i := 16) (by decide +kernel))) rfl
theorem kse_R_relax : Cond.selects R_R y_R_relax y_R_relax ∈ gl := gl_of (List.mem_append_left _ (List.mem_of_getElem? (i := 17) (by decide +kernel))) rfl
/-- the words of a static call; of a virtual one -/
def SW (own : String) (idx : Nat) (y : MethodName) (cw : Cond) (n : Nat) : Prop := Cond.methodLink own idx y ∈ gl ∧ Cond.static y ∈ gl ∧ Cond.initialized y.cls ∈ gl ∧ cw ∈ gl ∧ (y.cls ≠ "java/lang/invoke/MethodHandle" ∧ y.cls ≠ "java/lang/invoke/VarHandle") ∧ (parseMethodDescriptor y.desc).map (fun d => d.parameters.length) = some n
def VW (own : String) (idx : Nat) (y : MethodName) (cw : Cond) (n : Nat) : Prop := Cond.methodLink own idx y ∈ gl ∧ (Cond.instanceMethod y ∈ gl ∧ Cond.selects y.cls y y ∈ gl) ∧ Cond.initialized y.cls ∈ gl ∧ cw ∈ gl ∧ (y.cls ≠ "java/lang/invoke/MethodHandle" ∧ y.cls ≠ "java/lang/invoke/VarHandle") ∧ (parseMethodDescriptor y.desc).map (fun d => d.parameters.length) = some n
theorem s_D_20 : SW R_D 20 y_D_requireRegister cw_D_requireRegister 1 := ⟨kl_D_20, kst_D_requireRegister, ki_D, kc_D_requireRegister, by decide, by decide +kernel⟩
theorem s_D_24 : SW R_D 24 y_D_requireSide cw_D_requireSide 1 := ⟨kl_D_24, kst_D_requireSide, ki_D, kc_D_requireSide, by decide, by decide +kernel⟩
theorem v_D_27 : VW R_D 27 y_M_clear cw_M_clear 2 := ⟨kl_D_27, ⟨kin_M_clear, kse_M_clear⟩, ki_M, kc_M_clear, by decide, by decide +kernel⟩
theorem v_D_31 : VW R_D 31 y_D_requirePlace cw_D_requirePlace 3 := ⟨kl_D_31, ⟨kin_D_requirePlace, kse_D_requirePlace⟩, ki_D, kc_D_requirePlace, by decide, by decide +kernel⟩
theorem s_D_35 : SW R_D 35 y_D_requireValue cw_D_requireValue 1 := ⟨kl_D_35, kst_D_requireValue, ki_D, kc_D_requireValue, by decide, by decide +kernel⟩
theorem v_D_39 : VW R_D 39 y_M_enter cw_M_enter 3 := ⟨kl_D_39, ⟨kin_M_enter, kse_M_enter⟩, ki_M, kc_M_enter, by decide, by decide +kernel⟩
theorem v_D_43 : VW R_D 43 y_M_has cw_M_has 2 := ⟨kl_D_43, ⟨kin_M_has, kse_M_has⟩, ki_M, kc_M_has, by decide, by decide +kernel⟩
theorem v_D_47 : VW R_D 47 y_M_remove cw_M_remove 2 := ⟨kl_D_47, ⟨kin_M_remove, kse_M_remove⟩, ki_M, kc_M_remove, by decide, by decide +kernel⟩
theorem s_D_50 : SW R_D 50 y_D_requireEntry cw_D_requireEntry 1 := ⟨kl_D_50, kst_D_requireEntry, ki_D, kc_D_requireEntry, by decide, by decide +kernel⟩
theorem v_D_54 : VW R_D 54 y_M_value cw_M_value 2 := ⟨kl_D_54, ⟨kin_M_value, kse_M_value⟩, ki_M, kc_M_value, by decide, by decide +kernel⟩
theorem v_D_65 : VW R_D 65 y_M_count cw_M_count 0 := ⟨kl_D_65, ⟨kin_M_count, kse_M_count⟩, ki_M, kc_M_count, by decide, by decide +kernel⟩
theorem s_D_69 : SW R_D 69 y_D_requireOperands cw_D_requireOperands 4 := ⟨kl_D_69, kst_D_requireOperands, ki_D, kc_D_requireOperands, by decide, by decide +kernel⟩
theorem s_D_73 : SW R_D 73 y_D_requireMask cw_D_requireMask 1 := ⟨kl_D_73, kst_D_requireMask, ki_D, kc_D_requireMask, by decide, by decide +kernel⟩
theorem s_D_76 : SW R_D 76 y_D_requireHow cw_D_requireHow 2 := ⟨kl_D_76, kst_D_requireHow, ki_D, kc_D_requireHow, by decide, by decide +kernel⟩
theorem s_D_79 : SW R_D 79 y_D_requireFit cw_D_requireFit 1 := ⟨kl_D_79, kst_D_requireFit, ki_D, kc_D_requireFit, by decide, by decide +kernel⟩
theorem v_D_82 : VW R_D 82 y_M_isShaped cw_M_isShaped 2 := ⟨kl_D_82, ⟨kin_M_isShaped, kse_M_isShaped⟩, ki_M, kc_M_isShaped, by decide, by decide +kernel⟩
theorem v_D_85 : VW R_D 85 y_D_blank cw_D_blank 2 := ⟨kl_D_85, ⟨kin_D_blank, kse_D_blank⟩, ki_D, kc_D_blank, by decide, by decide +kernel⟩
theorem s_D_89 : SW R_D 89 y_D_gatherProducts cw_D_gatherProducts 6 := ⟨kl_D_89, kst_D_gatherProducts, ki_D, kc_D_gatherProducts, by decide, by decide +kernel⟩
theorem s_D_93 : SW R_D 93 y_D_gatherAll cw_D_gatherAll 3 := ⟨kl_D_93, kst_D_gatherAll, ki_D, kc_D_gatherAll, by decide, by decide +kernel⟩
theorem s_D_97 : SW R_D 97 y_D_dropZeros cw_D_dropZeros 2 := ⟨kl_D_97, kst_D_dropZeros, ki_D, kc_D_dropZeros, by decide, by decide +kernel⟩
theorem v_D_101 : VW R_D 101 y_D_keep cw_D_keep 1 := ⟨kl_D_101, ⟨kin_D_keep, kse_D_keep⟩, ki_D, kc_D_keep, by decide, by decide +kernel⟩
theorem v_D_105 : VW R_D 105 y_D_requireSameShape cw_D_requireSameShape 2 := ⟨kl_D_105, ⟨kin_D_requireSameShape, kse_D_requireSameShape⟩, ki_D, kc_D_requireSameShape, by decide, by decide +kernel⟩
theorem s_D_108 : SW R_D 108 y_D_productOver cw_D_productOver 3 := ⟨kl_D_108, kst_D_productOver, ki_D, kc_D_productOver, by decide, by decide +kernel⟩
theorem s_D_112 : SW R_D 112 y_D_isSelected cw_D_isSelected 5 := ⟨kl_D_112, kst_D_isSelected, ki_D, kc_D_isSelected, by decide, by decide +kernel⟩
theorem s_D_116 : SW R_D 116 y_D_requireSemiring cw_D_requireSemiring 1 := ⟨kl_D_116, kst_D_requireSemiring, ki_D, kc_D_requireSemiring, by decide, by decide +kernel⟩
theorem s_D_119 : SW R_D 119 y_D_gather cw_D_gather 5 := ⟨kl_D_119, kst_D_gather, ki_D, kc_D_gather, by decide, by decide +kernel⟩
theorem v_D_123 : VW R_D 123 y_D_requireGraph cw_D_requireGraph 1 := ⟨kl_D_123, ⟨kin_D_requireGraph, kse_D_requireGraph⟩, ki_D, kc_D_requireGraph, by decide, by decide +kernel⟩
theorem s_D_126 : SW R_D 126 y_D_requireVertex cw_D_requireVertex 2 := ⟨kl_D_126, kst_D_requireVertex, ki_D, kc_D_requireVertex, by decide, by decide +kernel⟩
theorem s_D_129 : SW R_D 129 y_D_enterNextLevel cw_D_enterNextLevel 3 := ⟨kl_D_129, kst_D_enterNextLevel, ki_D, kc_D_enterNextLevel, by decide, by decide +kernel⟩
theorem s_D_132 : SW R_D 132 y_D_requireLengths cw_D_requireLengths 1 := ⟨kl_D_132, kst_D_requireLengths, ki_D, kc_D_requireLengths, by decide, by decide +kernel⟩
theorem s_D_136 : SW R_D 136 y_D_shortenOver cw_D_shortenOver 2 := ⟨kl_D_136, kst_D_shortenOver, ki_D, kc_D_shortenOver, by decide, by decide +kernel⟩
theorem s_D_139 : SW R_D 139 y_D_requireNoCircleBelowZero cw_D_requireNoCircleBelowZero 1 := ⟨kl_D_139, kst_D_requireNoCircleBelowZero, ki_D, kc_D_requireNoCircleBelowZero, by decide, by decide +kernel⟩
theorem s_D_142 : SW R_D 142 y_D_spreadLeastVertices cw_D_spreadLeastVertices 2 := ⟨kl_D_142, kst_D_spreadLeastVertices, ki_D, kc_D_spreadLeastVertices, by decide, by decide +kernel⟩
theorem s_D_146 : SW R_D 146 y_D_sumOver cw_D_sumOver 3 := ⟨kl_D_146, kst_D_sumOver, ki_D, kc_D_sumOver, by decide, by decide +kernel⟩
theorem s_D_149 : SW R_D 149 y_D_plus cw_D_plus 2 := ⟨kl_D_149, kst_D_plus, ki_D, kc_D_plus, by decide, by decide +kernel⟩
theorem s_D_161 : SW R_D 161 y_D_times cw_D_times 2 := ⟨kl_D_161, kst_D_times, ki_D, kc_D_times, by decide, by decide +kernel⟩
theorem s_D_164 : SW R_D 164 y_D_isValue cw_D_isValue 1 := ⟨kl_D_164, kst_D_isValue, ki_D, kc_D_isValue, by decide, by decide +kernel⟩
theorem s_D_183 : SW R_D 183 y_D_enterNeighbours cw_D_enterNeighbours 4 := ⟨kl_D_183, kst_D_enterNeighbours, ki_D, kc_D_enterNeighbours, by decide, by decide +kernel⟩
theorem v_L_7 : VW R_L 7 y_D_shape cw_D_shape 3 := ⟨kl_L_7, ⟨kin_D_shape, kse_D_shape⟩, ki_D, kc_D_shape, by decide, by decide +kernel⟩
theorem v_L_15 : VW R_L 15 y_D_put cw_D_put 4 := ⟨kl_L_15, ⟨kin_D_put, kse_D_put⟩, ki_D, kc_D_put, by decide, by decide +kernel⟩
theorem v_L_19 : VW R_L 19 y_D_drop cw_D_drop 3 := ⟨kl_L_19, ⟨kin_D_drop, kse_D_drop⟩, ki_D, kc_D_drop, by decide, by decide +kernel⟩
theorem v_L_23 : VW R_L 23 y_D_at cw_D_at 3 := ⟨kl_L_23, ⟨kin_D_at, kse_D_at⟩, ki_D, kc_D_at, by decide, by decide +kernel⟩
theorem v_L_29 : VW R_L 29 y_D_size cw_D_size 1 := ⟨kl_L_29, ⟨kin_D_size, kse_D_size⟩, ki_D, kc_D_size, by decide, by decide +kernel⟩
theorem v_L_33 : VW R_L 33 y_D_multiply cw_D_multiply 6 := ⟨kl_L_33, ⟨kin_D_multiply, kse_D_multiply⟩, ki_D, kc_D_multiply, by decide, by decide +kernel⟩
theorem v_L_41 : VW R_L 41 y_D_add cw_D_add 4 := ⟨kl_L_41, ⟨kin_D_add, kse_D_add⟩, ki_D, kc_D_add, by decide, by decide +kernel⟩
theorem v_L_45 : VW R_L 45 y_D_each cw_D_each 4 := ⟨kl_L_45, ⟨kin_D_each, kse_D_each⟩, ki_D, kc_D_each, by decide, by decide +kernel⟩
theorem v_L_48 : VW R_L 48 y_D_transpose cw_D_transpose 2 := ⟨kl_L_48, ⟨kin_D_transpose, kse_D_transpose⟩, ki_D, kc_D_transpose, by decide, by decide +kernel⟩
theorem v_L_52 : VW R_L 52 y_D_select cw_D_select 4 := ⟨kl_L_52, ⟨kin_D_select, kse_D_select⟩, ki_D, kc_D_select, by decide, by decide +kernel⟩
theorem v_L_56 : VW R_L 56 y_D_reduce cw_D_reduce 2 := ⟨kl_L_56, ⟨kin_D_reduce, kse_D_reduce⟩, ki_D, kc_D_reduce, by decide, by decide +kernel⟩
theorem v_L_60 : VW R_L 60 y_D_levels cw_D_levels 3 := ⟨kl_L_60, ⟨kin_D_levels, kse_D_levels⟩, ki_D, kc_D_levels, by decide, by decide +kernel⟩
theorem v_L_64 : VW R_L 64 y_D_paths cw_D_paths 2 := ⟨kl_L_64, ⟨kin_D_paths, kse_D_paths⟩, ki_D, kc_D_paths, by decide, by decide +kernel⟩
theorem v_L_67 : VW R_L 67 y_D_triangles cw_D_triangles 1 := ⟨kl_L_67, ⟨kin_D_triangles, kse_D_triangles⟩, ki_D, kc_D_triangles, by decide, by decide +kernel⟩
theorem v_L_70 : VW R_L 70 y_D_components cw_D_components 2 := ⟨kl_L_70, ⟨kin_D_components, kse_D_components⟩, ki_D, kc_D_components, by decide, by decide +kernel⟩
theorem s_L_77 : SW R_L 77 y_L_shape cw_L_shape 4 := ⟨kl_L_77, kst_L_shape, ki_L, kc_L_shape, by decide, by decide +kernel⟩
theorem v_L_82 : VW R_L 82 y_R_shape cw_R_shape 3 := ⟨kl_L_82, ⟨kin_R_shape, kse_R_shape⟩, ki_R, kc_R_shape, by decide, by decide +kernel⟩
theorem v_L_83 : VW R_L 83 y_R_thrown cw_R_thrown 0 := ⟨kl_L_83, ⟨kin_R_thrown, kse_R_thrown⟩, ki_R, kc_R_thrown, by decide, by decide +kernel⟩
theorem s_L_89 : SW R_L 89 y_L_put cw_L_put 5 := ⟨kl_L_89, kst_L_put, ki_L, kc_L_put, by decide, by decide +kernel⟩
theorem v_L_92 : VW R_L 92 y_R_put cw_R_put 4 := ⟨kl_L_92, ⟨kin_R_put, kse_R_put⟩, ki_R, kc_R_put, by decide, by decide +kernel⟩
theorem s_L_93 : SW R_L 93 y_L_drop cw_L_drop 5 := ⟨kl_L_93, kst_L_drop, ki_L, kc_L_drop, by decide, by decide +kernel⟩
theorem v_L_96 : VW R_L 96 y_R_drop cw_R_drop 3 := ⟨kl_L_96, ⟨kin_R_drop, kse_R_drop⟩, ki_R, kc_R_drop, by decide, by decide +kernel⟩
theorem s_L_97 : SW R_L 97 y_L_at cw_L_at 5 := ⟨kl_L_97, kst_L_at, ki_L, kc_L_at, by decide, by decide +kernel⟩
theorem v_L_99 : VW R_L 99 y_R_at cw_R_at 3 := ⟨kl_L_99, ⟨kin_R_at, kse_R_at⟩, ki_R, kc_R_at, by decide, by decide +kernel⟩
theorem s_L_100 : SW R_L 100 y_L_size cw_L_size 3 := ⟨kl_L_100, kst_L_size, ki_L, kc_L_size, by decide, by decide +kernel⟩
theorem v_L_103 : VW R_L 103 y_R_size cw_R_size 1 := ⟨kl_L_103, ⟨kin_R_size, kse_R_size⟩, ki_R, kc_R_size, by decide, by decide +kernel⟩
theorem s_L_104 : SW R_L 104 y_L_multiply cw_L_multiply 8 := ⟨kl_L_104, kst_L_multiply, ki_L, kc_L_multiply, by decide, by decide +kernel⟩
theorem v_L_107 : VW R_L 107 y_R_multiply cw_R_multiply 6 := ⟨kl_L_107, ⟨kin_R_multiply, kse_R_multiply⟩, ki_R, kc_R_multiply, by decide, by decide +kernel⟩
theorem s_L_108 : SW R_L 108 y_L_add cw_L_add 6 := ⟨kl_L_108, kst_L_add, ki_L, kc_L_add, by decide, by decide +kernel⟩
theorem v_L_111 : VW R_L 111 y_R_add cw_R_add 4 := ⟨kl_L_111, ⟨kin_R_add, kse_R_add⟩, ki_R, kc_R_add, by decide, by decide +kernel⟩
theorem s_L_112 : SW R_L 112 y_L_each cw_L_each 6 := ⟨kl_L_112, kst_L_each, ki_L, kc_L_each, by decide, by decide +kernel⟩
theorem v_L_114 : VW R_L 114 y_R_each cw_R_each 4 := ⟨kl_L_114, ⟨kin_R_each, kse_R_each⟩, ki_R, kc_R_each, by decide, by decide +kernel⟩
theorem s_L_115 : SW R_L 115 y_L_transpose cw_L_transpose 4 := ⟨kl_L_115, kst_L_transpose, ki_L, kc_L_transpose, by decide, by decide +kernel⟩
theorem v_L_118 : VW R_L 118 y_R_transpose cw_R_transpose 2 := ⟨kl_L_118, ⟨kin_R_transpose, kse_R_transpose⟩, ki_R, kc_R_transpose, by decide, by decide +kernel⟩
theorem s_L_119 : SW R_L 119 y_L_select cw_L_select 6 := ⟨kl_L_119, kst_L_select, ki_L, kc_L_select, by decide, by decide +kernel⟩
theorem v_L_122 : VW R_L 122 y_R_select cw_R_select 4 := ⟨kl_L_122, ⟨kin_R_select, kse_R_select⟩, ki_R, kc_R_select, by decide, by decide +kernel⟩
theorem s_L_123 : SW R_L 123 y_L_reduce cw_L_reduce 4 := ⟨kl_L_123, kst_L_reduce, ki_L, kc_L_reduce, by decide, by decide +kernel⟩
theorem v_L_125 : VW R_L 125 y_R_reduce cw_R_reduce 2 := ⟨kl_L_125, ⟨kin_R_reduce, kse_R_reduce⟩, ki_R, kc_R_reduce, by decide, by decide +kernel⟩
theorem s_L_126 : SW R_L 126 y_L_levels cw_L_levels 5 := ⟨kl_L_126, kst_L_levels, ki_L, kc_L_levels, by decide, by decide +kernel⟩
theorem v_L_128 : VW R_L 128 y_R_levels cw_R_levels 3 := ⟨kl_L_128, ⟨kin_R_levels, kse_R_levels⟩, ki_R, kc_R_levels, by decide, by decide +kernel⟩
theorem s_L_129 : SW R_L 129 y_L_paths cw_L_paths 4 := ⟨kl_L_129, kst_L_paths, ki_L, kc_L_paths, by decide, by decide +kernel⟩
theorem v_L_131 : VW R_L 131 y_R_paths cw_R_paths 2 := ⟨kl_L_131, ⟨kin_R_paths, kse_R_paths⟩, ki_R, kc_R_paths, by decide, by decide +kernel⟩
theorem s_L_132 : SW R_L 132 y_L_triangles cw_L_triangles 3 := ⟨kl_L_132, kst_L_triangles, ki_L, kc_L_triangles, by decide, by decide +kernel⟩
theorem v_L_134 : VW R_L 134 y_R_triangles cw_R_triangles 1 := ⟨kl_L_134, ⟨kin_R_triangles, kse_R_triangles⟩, ki_R, kc_R_triangles, by decide, by decide +kernel⟩
theorem s_L_135 : SW R_L 135 y_L_components cw_L_components 4 := ⟨kl_L_135, kst_L_components, ki_L, kc_L_components, by decide, by decide +kernel⟩
theorem v_L_137 : VW R_L 137 y_R_components cw_R_components 2 := ⟨kl_L_137, ⟨kin_R_components, kse_R_components⟩, ki_R, kc_R_components, by decide, by decide +kernel⟩
theorem s_R_38 : SW R_R 38 y_R_isRegister cw_R_isRegister 1 := ⟨kl_R_38, kst_R_isRegister, ki_R, kc_R_isRegister, by decide, by decide +kernel⟩
theorem v_R_42 : VW R_R 42 y_R_isPlace cw_R_isPlace 3 := ⟨kl_R_42, ⟨kin_R_isPlace, kse_R_isPlace⟩, ki_R, kc_R_isPlace, by decide, by decide +kernel⟩
theorem s_R_46 : SW R_R 46 y_R_isValue cw_R_isValue 1 := ⟨kl_R_46, kst_R_isValue, ki_R, kc_R_isValue, by decide, by decide +kernel⟩
theorem v_R_50 : VW R_R 50 y_R_entries cw_R_entries 1 := ⟨kl_R_50, ⟨kin_R_entries, kse_R_entries⟩, ki_R, kc_R_entries, by decide, by decide +kernel⟩
theorem s_R_58 : SW R_R 58 y_R_size0 cw_R_size0 1 := ⟨kl_R_58, kst_R_size0, ki_R, kc_R_size0, by decide, by decide +kernel⟩
theorem v_R_68 : VW R_R 68 y_R_product cw_R_product 3 := ⟨kl_R_68, ⟨kin_R_product, kse_R_product⟩, ki_R, kc_R_product, by decide, by decide +kernel⟩
theorem v_R_72 : VW R_R 72 y_R_sum cw_R_sum 3 := ⟨kl_R_72, ⟨kin_R_sum, kse_R_sum⟩, ki_R, kc_R_sum, by decide, by decide +kernel⟩
theorem v_R_75 : VW R_R 75 y_R_make cw_R_make 3 := ⟨kl_R_75, ⟨kin_R_make, kse_R_make⟩, ki_R, kc_R_make, by decide, by decide +kernel⟩
theorem s_R_79 : SW R_R 79 y_R_isRing cw_R_isRing 1 := ⟨kl_R_79, kst_R_isRing, ki_R, kc_R_isRing, by decide, by decide +kernel⟩
theorem v_R_82 : VW R_R 82 y_R_begin cw_R_begin 2 := ⟨kl_R_82, ⟨kin_R_begin, kse_R_begin⟩, ki_R, kc_R_begin, by decide, by decide +kernel⟩
theorem v_R_86 : VW R_R 86 y_R_cross cw_R_cross 5 := ⟨kl_R_86, ⟨kin_R_cross, kse_R_cross⟩, ki_R, kc_R_cross, by decide, by decide +kernel⟩
theorem v_R_90 : VW R_R 90 y_R_join cw_R_join 2 := ⟨kl_R_90, ⟨kin_R_join, kse_R_join⟩, ki_R, kc_R_join, by decide, by decide +kernel⟩
theorem v_R_93 : VW R_R 93 y_R_finish cw_R_finish 2 := ⟨kl_R_93, ⟨kin_R_finish, kse_R_finish⟩, ki_R, kc_R_finish, by decide, by decide +kernel⟩
theorem v_R_97 : VW R_R 97 y_R_pair cw_R_pair 4 := ⟨kl_R_97, ⟨kin_R_pair, kse_R_pair⟩, ki_R, kc_R_pair, by decide, by decide +kernel⟩
theorem s_R_101 : SW R_R 101 y_R_chosen cw_R_chosen 5 := ⟨kl_R_101, kst_R_chosen, ki_R, kc_R_chosen, by decide, by decide +kernel⟩
theorem v_R_105 : VW R_R 105 y_R_isSquare cw_R_isSquare 1 := ⟨kl_R_105, ⟨kin_R_isSquare, kse_R_isSquare⟩, ki_R, kc_R_isSquare, by decide, by decide +kernel⟩
theorem v_R_112 : VW R_R 112 y_R_relax cw_R_relax 0 := ⟨kl_R_112, ⟨kin_R_relax, kse_R_relax⟩, ki_R, kc_R_relax, by decide, by decide +kernel⟩
