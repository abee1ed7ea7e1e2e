/-! words of the tables (by names.py) -/
def gw_l : List Cond := lw_tbl.filter goodWord
theorem gw_in {w : Cond} (h : w ∈ tables_1) (hg : goodWord w = true) : w ∈ gw_l := List.mem_filter.mpr ⟨List.mem_append_right _ h, hg⟩
theorem gw_sel {q : MethodName × Nat} (h : q ∈ lw_privs) (hg : goodWord (Cond.selects q.1.cls q.1 q.1) = true) : Cond.selects q.1.cls q.1 q.1 ∈ gw_l := List.mem_filter.mpr ⟨List.mem_append_left _ (List.mem_map.mpr ⟨q, h, rfl⟩), hg⟩
theorem gw_good : GoodIn gw_l gw_l := fun w hw => ⟨hw, good_of_word (List.mem_filter.mp hw).2⟩
theorem gw_sub {c d : Cond} (h : d ∈ gw_l) : GoodIn (c :: gw_l) (d :: gw_l) := by
  intro w hw
  rcases List.mem_cons.mp hw with rfl | hw
  · exact ⟨List.mem_cons_of_mem _ h, good_of_word (List.mem_filter.mp h).2⟩
  · exact ⟨List.mem_cons_of_mem _ hw, good_of_word (List.mem_filter.mp hw).2⟩
theorem gz_L : Cond.initialized "BindingBenchLaw" ∈ gw_l := gw_in (List.mem_of_getElem? (i := 0) (by decide +kernel)) rfl
theorem gz_B : Cond.initialized "BindingBench" ∈ gw_l := gw_in (List.mem_of_getElem? (i := 1) (by decide +kernel)) rfl
theorem gz_T : Cond.initialized "BindingBench$Term" ∈ gw_l := gw_in (List.mem_of_getElem? (i := 2) (by decide +kernel)) rfl
theorem gz_S : Cond.initialized "BindingBench$Workshop" ∈ gw_l := gw_in (List.mem_of_getElem? (i := 3) (by decide +kernel)) rfl
theorem gz_W : Cond.initialized "BindingBench$Walk" ∈ gw_l := gw_in (List.mem_of_getElem? (i := 4) (by decide +kernel)) rfl
theorem gz_X : Cond.initialized "BindingBench$Text" ∈ gw_l := gw_in (List.mem_of_getElem? (i := 5) (by decide +kernel)) rfl
theorem gz_M : Cond.initialized "BindingBenchModel" ∈ gw_l := gw_in (List.mem_of_getElem? (i := 6) (by decide +kernel)) rfl
theorem gz_Ja : Cond.initialized "java/util/Arrays" ∈ gw_l := gw_in (List.mem_of_getElem? (i := 7) (by decide +kernel)) rfl
theorem gz_Jt : Cond.initialized "java/lang/Throwable" ∈ gw_l := gw_in (List.mem_of_getElem? (i := 8) (by decide +kernel)) rfl
theorem gz_Je : Cond.initialized "java/lang/Exception" ∈ gw_l := gw_in (List.mem_of_getElem? (i := 9) (by decide +kernel)) rfl
theorem gz_Jr : Cond.initialized "java/lang/RuntimeException" ∈ gw_l := gw_in (List.mem_of_getElem? (i := 10) (by decide +kernel)) rfl
theorem gz_Jn : Cond.initialized "java/util/NoSuchElementException" ∈ gw_l := gw_in (List.mem_of_getElem? (i := 11) (by decide +kernel)) rfl
theorem gz_Js : Cond.initialized "java/lang/System" ∈ gw_l := gw_in (List.mem_of_getElem? (i := 12) (by decide +kernel)) rfl
theorem gz_Jm : Cond.initialized "java/lang/Math" ∈ gw_l := gw_in (List.mem_of_getElem? (i := 13) (by decide +kernel)) rfl
theorem gz_Ji : Cond.initialized "java/lang/IllegalStateException" ∈ gw_l := gw_in (List.mem_of_getElem? (i := 14) (by decide +kernel)) rfl
theorem gz_Jg : Cond.initialized "java/lang/IllegalArgumentException" ∈ gw_l := gw_in (List.mem_of_getElem? (i := 15) (by decide +kernel)) rfl
theorem gz_Jh : Cond.initialized "java/lang/ArithmeticException" ∈ gw_l := gw_in (List.mem_of_getElem? (i := 16) (by decide +kernel)) rfl
theorem gz_Jl : Cond.initialized "java/lang/Long" ∈ gw_l := gw_in (List.mem_of_getElem? (i := 17) (by decide +kernel)) rfl
theorem gz_Jx : Cond.initialized "java/lang/IndexOutOfBoundsException" ∈ gw_l := gw_in (List.mem_of_getElem? (i := 18) (by decide +kernel)) rfl
theorem gk_L8 : Cond.classLink "BindingBenchLaw" 8 "BindingBench" ∈ gw_l := gw_in (List.mem_of_getElem? (i := 19) (by decide +kernel)) rfl
theorem gn_B : Cond.instantiable "BindingBench" 3 ∈ gw_l := gw_in (List.mem_of_getElem? (i := 20) (by decide +kernel)) rfl
theorem gm_L68 : Cond.methodLink "BindingBenchLaw" 68 yB_init ∈ gw_l := gw_in (List.mem_of_getElem? (i := 21) (by decide +kernel)) rfl
theorem gi_B_init : Cond.instanceMethod yB_init ∈ gw_l := gw_in (List.mem_of_getElem? (i := 22) (by decide +kernel)) rfl
theorem gc_B_init : Cond.code yB_init cB_init 2 none ∈ gw_l := gw_in (List.mem_of_getElem? (i := 23) (by decide +kernel)) rfl
theorem gm_B1 : Cond.methodLink "BindingBench" 1 objectInit ∈ gw_l := gw_in (List.mem_of_getElem? (i := 24) (by decide +kernel)) rfl
theorem gi_O_init : Cond.instanceMethod objectInit ∈ gw_l := gw_in (List.mem_of_getElem? (i := 25) (by decide +kernel)) rfl
theorem gc_O_init : Cond.code objectInit object_method_1_code 1 none ∈ gw_l := gw_in (List.mem_of_getElem? (i := 26) (by decide +kernel)) rfl
theorem gk_B9 : Cond.classLink "BindingBench" 9 "BindingBench$Term" ∈ gw_l := gw_in (List.mem_of_getElem? (i := 27) (by decide +kernel)) rfl
theorem gn_T : Cond.instantiable "BindingBench$Term" 2 ∈ gw_l := gw_in (List.mem_of_getElem? (i := 29) (by decide +kernel)) rfl
theorem gm_B15 : Cond.methodLink "BindingBench" 15 yT_init ∈ gw_l := gw_in (List.mem_of_getElem? (i := 30) (by decide +kernel)) rfl
theorem gi_T_init : Cond.instanceMethod yT_init ∈ gw_l := gw_in (List.mem_of_getElem? (i := 31) (by decide +kernel)) rfl
theorem gc_T_init : Cond.code yT_init cT_init 2 none ∈ gw_l := gw_in (List.mem_of_getElem? (i := 32) (by decide +kernel)) rfl
theorem gm_T3 : Cond.methodLink "BindingBench$Term" 3 objectInit ∈ gw_l := gw_in (List.mem_of_getElem? (i := 33) (by decide +kernel)) rfl
theorem gf_T9 : Cond.fieldLink "BindingBench$Term" 9 "BindingBench$Term" "cells" "[I" ∈ gw_l := gw_in (List.mem_of_getElem? (i := 34) (by decide +kernel)) rfl
theorem gf_T15 : Cond.fieldLink "BindingBench$Term" 15 "BindingBench$Term" "size" "I" ∈ gw_l := gw_in (List.mem_of_getElem? (i := 37) (by decide +kernel)) rfl
theorem gl_T_cells : Cond.lays "BindingBench$Term" "BindingBench$Term" "cells" "[I" ∈ gw_l := gw_in (List.mem_of_getElem? (i := 41) (by decide +kernel)) rfl
theorem gl_T_size : Cond.lays "BindingBench$Term" "BindingBench$Term" "size" "I" ∈ gw_l := gw_in (List.mem_of_getElem? (i := 43) (by decide +kernel)) rfl
theorem ga_int : Cond.arrayClass .int ∈ gw_l := gw_in (List.mem_of_getElem? (i := 46) (by decide +kernel)) rfl
theorem gk_B18 : Cond.classLink "BindingBench" 18 "BindingBench$Workshop" ∈ gw_l := gw_in (List.mem_of_getElem? (i := 47) (by decide +kernel)) rfl
theorem gn_S : Cond.instantiable "BindingBench$Workshop" 5 ∈ gw_l := gw_in (List.mem_of_getElem? (i := 48) (by decide +kernel)) rfl
theorem gm_B20 : Cond.methodLink "BindingBench" 20 yS_init ∈ gw_l := gw_in (List.mem_of_getElem? (i := 49) (by decide +kernel)) rfl
theorem gi_S_init : Cond.instanceMethod yS_init ∈ gw_l := gw_in (List.mem_of_getElem? (i := 50) (by decide +kernel)) rfl
theorem gc_S_init : Cond.code yS_init cS_init 1 none ∈ gw_l := gw_in (List.mem_of_getElem? (i := 51) (by decide +kernel)) rfl
theorem gm_S3 : Cond.methodLink "BindingBench$Workshop" 3 objectInit ∈ gw_l := gw_in (List.mem_of_getElem? (i := 52) (by decide +kernel)) rfl
theorem gk_S9 : Cond.classLink "BindingBench$Workshop" 9 "BindingBench$Term" ∈ gw_l := gw_in (List.mem_of_getElem? (i := 53) (by decide +kernel)) rfl
theorem gm_S11 : Cond.methodLink "BindingBench$Workshop" 11 yT_init ∈ gw_l := gw_in (List.mem_of_getElem? (i := 54) (by decide +kernel)) rfl
theorem gk_S23 : Cond.classLink "BindingBench$Workshop" 23 "BindingBench$Walk" ∈ gw_l := gw_in (List.mem_of_getElem? (i := 55) (by decide +kernel)) rfl
theorem gn_W : Cond.instantiable "BindingBench$Walk" 5 ∈ gw_l := gw_in (List.mem_of_getElem? (i := 56) (by decide +kernel)) rfl
theorem gm_S25 : Cond.methodLink "BindingBench$Workshop" 25 yW_init ∈ gw_l := gw_in (List.mem_of_getElem? (i := 57) (by decide +kernel)) rfl
theorem gi_W_init : Cond.instanceMethod yW_init ∈ gw_l := gw_in (List.mem_of_getElem? (i := 58) (by decide +kernel)) rfl
theorem gc_W_init : Cond.code yW_init cW_init 3 none ∈ gw_l := gw_in (List.mem_of_getElem? (i := 59) (by decide +kernel)) rfl
theorem gm_W3 : Cond.methodLink "BindingBench$Walk" 3 objectInit ∈ gw_l := gw_in (List.mem_of_getElem? (i := 60) (by decide +kernel)) rfl
theorem gf_W9 : Cond.fieldLink "BindingBench$Walk" 9 "BindingBench$Walk" "forApplied" "I" ∈ gw_l := gw_in (List.mem_of_getElem? (i := 61) (by decide +kernel)) rfl
theorem gf_W15 : Cond.fieldLink "BindingBench$Walk" 15 "BindingBench$Walk" "forFunction" "I" ∈ gw_l := gw_in (List.mem_of_getElem? (i := 62) (by decide +kernel)) rfl
theorem gf_W18 : Cond.fieldLink "BindingBench$Walk" 18 "BindingBench$Walk" "waiting" "[I" ∈ gw_l := gw_in (List.mem_of_getElem? (i := 63) (by decide +kernel)) rfl
theorem gf_W22 : Cond.fieldLink "BindingBench$Walk" 22 "BindingBench$Walk" "height" "I" ∈ gw_l := gw_in (List.mem_of_getElem? (i := 64) (by decide +kernel)) rfl
theorem gf_W25 : Cond.fieldLink "BindingBench$Walk" 25 "BindingBench$Walk" "count" "I" ∈ gw_l := gw_in (List.mem_of_getElem? (i := 65) (by decide +kernel)) rfl
theorem gl_W_forApplied : Cond.laysFinal "BindingBench$Walk" "BindingBench$Walk" "forApplied" "I" ∈ gw_l := gw_in (List.mem_of_getElem? (i := 68) (by decide +kernel)) rfl
theorem gl_W_forFunction : Cond.laysFinal "BindingBench$Walk" "BindingBench$Walk" "forFunction" "I" ∈ gw_l := gw_in (List.mem_of_getElem? (i := 70) (by decide +kernel)) rfl
theorem gl_W_waiting : Cond.laysFinal "BindingBench$Walk" "BindingBench$Walk" "waiting" "[I" ∈ gw_l := gw_in (List.mem_of_getElem? (i := 72) (by decide +kernel)) rfl
theorem gl_W_height : Cond.lays "BindingBench$Walk" "BindingBench$Walk" "height" "I" ∈ gw_l := gw_in (List.mem_of_getElem? (i := 74) (by decide +kernel)) rfl
theorem gl_W_count : Cond.lays "BindingBench$Walk" "BindingBench$Walk" "count" "I" ∈ gw_l := gw_in (List.mem_of_getElem? (i := 76) (by decide +kernel)) rfl
theorem gf_S14 : Cond.fieldLink "BindingBench$Workshop" 14 "BindingBench$Workshop" "made" "LBindingBench$Term;" ∈ gw_l := gw_in (List.mem_of_getElem? (i := 79) (by decide +kernel)) rfl
theorem gf_S20 : Cond.fieldLink "BindingBench$Workshop" 20 "BindingBench$Workshop" "spare" "LBindingBench$Term;" ∈ gw_l := gw_in (List.mem_of_getElem? (i := 80) (by decide +kernel)) rfl
theorem gf_S28 : Cond.fieldLink "BindingBench$Workshop" 28 "BindingBench$Workshop" "levels" "LBindingBench$Walk;" ∈ gw_l := gw_in (List.mem_of_getElem? (i := 81) (by decide +kernel)) rfl
theorem gf_S32 : Cond.fieldLink "BindingBench$Workshop" 32 "BindingBench$Workshop" "binders" "LBindingBench$Walk;" ∈ gw_l := gw_in (List.mem_of_getElem? (i := 82) (by decide +kernel)) rfl
theorem gf_S35 : Cond.fieldLink "BindingBench$Workshop" 35 "BindingBench$Workshop" "innerBinders" "LBindingBench$Walk;" ∈ gw_l := gw_in (List.mem_of_getElem? (i := 83) (by decide +kernel)) rfl
theorem gl_S_made : Cond.lays "BindingBench$Workshop" "BindingBench$Workshop" "made" "LBindingBench$Term;" ∈ gw_l := gw_in (List.mem_of_getElem? (i := 84) (by decide +kernel)) rfl
theorem gl_S_spare : Cond.lays "BindingBench$Workshop" "BindingBench$Workshop" "spare" "LBindingBench$Term;" ∈ gw_l := gw_in (List.mem_of_getElem? (i := 86) (by decide +kernel)) rfl
theorem gl_S_levels : Cond.laysFinal "BindingBench$Workshop" "BindingBench$Workshop" "levels" "LBindingBench$Walk;" ∈ gw_l := gw_in (List.mem_of_getElem? (i := 88) (by decide +kernel)) rfl
theorem gl_S_binders : Cond.laysFinal "BindingBench$Workshop" "BindingBench$Workshop" "binders" "LBindingBench$Walk;" ∈ gw_l := gw_in (List.mem_of_getElem? (i := 90) (by decide +kernel)) rfl
theorem gl_S_innerBinders : Cond.laysFinal "BindingBench$Workshop" "BindingBench$Workshop" "innerBinders" "LBindingBench$Walk;" ∈ gw_l := gw_in (List.mem_of_getElem? (i := 92) (by decide +kernel)) rfl
theorem gk_B25 : Cond.classLink "BindingBench" 25 "BindingBench$Text" ∈ gw_l := gw_in (List.mem_of_getElem? (i := 95) (by decide +kernel)) rfl
theorem gn_X : Cond.instantiable "BindingBench$Text" 3 ∈ gw_l := gw_in (List.mem_of_getElem? (i := 96) (by decide +kernel)) rfl
theorem gm_B27 : Cond.methodLink "BindingBench" 27 yX_init ∈ gw_l := gw_in (List.mem_of_getElem? (i := 97) (by decide +kernel)) rfl
theorem gi_X_init : Cond.instanceMethod yX_init ∈ gw_l := gw_in (List.mem_of_getElem? (i := 98) (by decide +kernel)) rfl
theorem gc_X_init : Cond.code yX_init cX_init 1 none ∈ gw_l := gw_in (List.mem_of_getElem? (i := 99) (by decide +kernel)) rfl
theorem gm_X3 : Cond.methodLink "BindingBench$Text" 3 objectInit ∈ gw_l := gw_in (List.mem_of_getElem? (i := 100) (by decide +kernel)) rfl
theorem gk_X19 : Cond.classLink "BindingBench$Text" 19 "BindingBench$Walk" ∈ gw_l := gw_in (List.mem_of_getElem? (i := 101) (by decide +kernel)) rfl
theorem gm_X21 : Cond.methodLink "BindingBench$Text" 21 yW_init ∈ gw_l := gw_in (List.mem_of_getElem? (i := 102) (by decide +kernel)) rfl
theorem gf_X9 : Cond.fieldLink "BindingBench$Text" 9 "BindingBench$Text" "bytes" "[B" ∈ gw_l := gw_in (List.mem_of_getElem? (i := 103) (by decide +kernel)) rfl
theorem gf_X15 : Cond.fieldLink "BindingBench$Text" 15 "BindingBench$Text" "length" "I" ∈ gw_l := gw_in (List.mem_of_getElem? (i := 105) (by decide +kernel)) rfl
theorem gf_X24 : Cond.fieldLink "BindingBench$Text" 24 "BindingBench$Text" "brackets" "LBindingBench$Walk;" ∈ gw_l := gw_in (List.mem_of_getElem? (i := 107) (by decide +kernel)) rfl
theorem gl_X_bytes : Cond.lays "BindingBench$Text" "BindingBench$Text" "bytes" "[B" ∈ gw_l := gw_in (List.mem_of_getElem? (i := 108) (by decide +kernel)) rfl
theorem gl_X_length : Cond.lays "BindingBench$Text" "BindingBench$Text" "length" "I" ∈ gw_l := gw_in (List.mem_of_getElem? (i := 110) (by decide +kernel)) rfl
theorem gl_X_brackets : Cond.laysFinal "BindingBench$Text" "BindingBench$Text" "brackets" "LBindingBench$Walk;" ∈ gw_l := gw_in (List.mem_of_getElem? (i := 112) (by decide +kernel)) rfl
theorem ga_byte : Cond.arrayClass .byte ∈ gw_l := gw_in (List.mem_of_getElem? (i := 115) (by decide +kernel)) rfl
theorem gf_B11 : Cond.fieldLink "BindingBench" 11 "BindingBench" "registers" "[LBindingBench$Term;" ∈ gw_l := gw_in (List.mem_of_getElem? (i := 116) (by decide +kernel)) rfl
theorem gf_B21 : Cond.fieldLink "BindingBench" 21 "BindingBench" "workshop" "LBindingBench$Workshop;" ∈ gw_l := gw_in (List.mem_of_getElem? (i := 117) (by decide +kernel)) rfl
theorem gf_B28 : Cond.fieldLink "BindingBench" 28 "BindingBench" "text" "LBindingBench$Text;" ∈ gw_l := gw_in (List.mem_of_getElem? (i := 118) (by decide +kernel)) rfl
theorem gl_B_registers : Cond.laysFinal "BindingBench" "BindingBench" "registers" "[LBindingBench$Term;" ∈ gw_l := gw_in (List.mem_of_getElem? (i := 119) (by decide +kernel)) rfl
theorem gl_B_workshop : Cond.laysFinal "BindingBench" "BindingBench" "workshop" "LBindingBench$Workshop;" ∈ gw_l := gw_in (List.mem_of_getElem? (i := 121) (by decide +kernel)) rfl
theorem gl_B_text : Cond.laysFinal "BindingBench" "BindingBench" "text" "LBindingBench$Text;" ∈ gw_l := gw_in (List.mem_of_getElem? (i := 123) (by decide +kernel)) rfl
theorem gm_L72 : Cond.methodLink "BindingBenchLaw" 72 yL_free ∈ gw_l := gw_in (List.mem_of_getElem? (i := 126) (by decide +kernel)) rfl
theorem gt_L_free : Cond.static yL_free ∈ gw_l := gw_in (List.mem_of_getElem? (i := 127) (by decide +kernel)) rfl
theorem gc_L_free : Cond.codeWith yL_free cL_free 4 (some .int) [(0, 6, 9, 13)] ∈ gw_l := gw_in (List.mem_of_getElem? (i := 128) (by decide +kernel)) rfl
theorem gk_L13 : Cond.classLink "BindingBenchLaw" 13 "java/util/NoSuchElementException" ∈ gw_l := gw_in (List.mem_of_getElem? (i := 129) (by decide +kernel)) rfl
theorem gm_L7 : Cond.methodLink "BindingBenchLaw" 7 yB_free ∈ gw_l := gw_in (List.mem_of_getElem? (i := 130) (by decide +kernel)) rfl
theorem gi_B_free : Cond.instanceMethod yB_free ∈ gw_l := gw_in (List.mem_of_getElem? (i := 131) (by decide +kernel)) rfl
theorem gs_B_B_free : Cond.selects "BindingBench" yB_free yB_free ∈ gw_l := gw_in (List.mem_of_getElem? (i := 132) (by decide +kernel)) rfl
theorem gc_B_free : Cond.code yB_free cB_free 4 none ∈ gw_l := gw_in (List.mem_of_getElem? (i := 133) (by decide +kernel)) rfl
theorem gm_B32 : Cond.methodLink "BindingBench" 32 yB_register ∈ gw_l := gw_in (List.mem_of_getElem? (i := 134) (by decide +kernel)) rfl
theorem gi_B_register : Cond.instanceMethod yB_register ∈ gw_l := gw_in (List.mem_of_getElem? (i := 136) (by decide +kernel)) rfl
theorem gc_B_register : Cond.code yB_register cB_register 2 (some (.object "BindingBench$Term")) ∈ gw_l := gw_in (List.mem_of_getElem? (i := 137) (by decide +kernel)) rfl
theorem gk_B133 : Cond.classLink "BindingBench" 133 "java/util/NoSuchElementException" ∈ gw_l := gw_in (List.mem_of_getElem? (i := 138) (by decide +kernel)) rfl
theorem gn_Jn : Cond.instantiable "java/util/NoSuchElementException" 6 ∈ gw_l := gw_in (List.mem_of_getElem? (i := 139) (by decide +kernel)) rfl
theorem gs_Jn_Jt_fillInStackTrace : Cond.selects "java/util/NoSuchElementException" (⟨"java/lang/Throwable", "fillInStackTrace", "(I)Ljava/lang/Throwable;"⟩ : MethodName) (⟨"java/lang/Throwable", "fillInStackTrace", "(I)Ljava/lang/Throwable;"⟩ : MethodName) ∈ gw_l := gw_in (List.mem_of_getElem? (i := 147) (by decide +kernel)) rfl
theorem gs_Jn_Jt_fillInStackTrace_148 : Cond.selects "java/util/NoSuchElementException" (⟨"java/lang/Throwable", "fillInStackTrace", "()Ljava/lang/Throwable;"⟩ : MethodName) (⟨"java/lang/Throwable", "fillInStackTrace", "()Ljava/lang/Throwable;"⟩ : MethodName) ∈ gw_l := gw_in (List.mem_of_getElem? (i := 148) (by decide +kernel)) rfl
theorem gl_Jn_cause : Cond.lays "java/util/NoSuchElementException" "java/lang/Throwable" "cause" "Ljava/lang/Throwable;" ∈ gw_l := gw_in (List.mem_of_getElem? (i := 149) (by decide +kernel)) rfl
theorem gl_Jt_cause : Cond.lays "java/lang/Throwable" "java/lang/Throwable" "cause" "Ljava/lang/Throwable;" ∈ gw_l := gw_in (List.mem_of_getElem? (i := 150) (by decide +kernel)) rfl
theorem gl_Jn_stackTrace : Cond.lays "java/util/NoSuchElementException" "java/lang/Throwable" "stackTrace" "[Ljava/lang/StackTraceElement;" ∈ gw_l := gw_in (List.mem_of_getElem? (i := 151) (by decide +kernel)) rfl
theorem gl_Jt_stackTrace : Cond.lays "java/lang/Throwable" "java/lang/Throwable" "stackTrace" "[Ljava/lang/StackTraceElement;" ∈ gw_l := gw_in (List.mem_of_getElem? (i := 152) (by decide +kernel)) rfl
theorem gl_Jn_suppressedExceptions : Cond.lays "java/util/NoSuchElementException" "java/lang/Throwable" "suppressedExceptions" "Ljava/util/List;" ∈ gw_l := gw_in (List.mem_of_getElem? (i := 153) (by decide +kernel)) rfl
theorem gl_Jt_suppressedExceptions : Cond.lays "java/lang/Throwable" "java/lang/Throwable" "suppressedExceptions" "Ljava/util/List;" ∈ gw_l := gw_in (List.mem_of_getElem? (i := 154) (by decide +kernel)) rfl
theorem gl_Jn_detailMessage : Cond.lays "java/util/NoSuchElementException" "java/lang/Throwable" "detailMessage" "Ljava/lang/String;" ∈ gw_l := gw_in (List.mem_of_getElem? (i := 155) (by decide +kernel)) rfl
theorem gl_Jt_detailMessage : Cond.lays "java/lang/Throwable" "java/lang/Throwable" "detailMessage" "Ljava/lang/String;" ∈ gw_l := gw_in (List.mem_of_getElem? (i := 156) (by decide +kernel)) rfl
theorem gl_Jn_backtrace : Cond.lays "java/util/NoSuchElementException" "java/lang/Throwable" "backtrace" "Ljava/lang/Object;" ∈ gw_l := gw_in (List.mem_of_getElem? (i := 157) (by decide +kernel)) rfl
theorem gl_Jt_backtrace : Cond.lays "java/lang/Throwable" "java/lang/Throwable" "backtrace" "Ljava/lang/Object;" ∈ gw_l := gw_in (List.mem_of_getElem? (i := 158) (by decide +kernel)) rfl
theorem gf_Jt198 : Cond.fieldLink "java/lang/Throwable" 198 "java/lang/Throwable" "backtrace" "Ljava/lang/Object;" ∈ gw_l := gw_in (List.mem_of_getElem? (i := 159) (by decide +kernel)) rfl
theorem gi_Jt_init : Cond.instanceMethod (⟨"java/lang/Throwable", "<init>", "()V"⟩ : MethodName) ∈ gw_l := gw_in (List.mem_of_getElem? (i := 161) (by decide +kernel)) rfl
theorem gc_Jt_init : Cond.code (⟨"java/lang/Throwable", "<init>", "()V"⟩ : MethodName) prog_19_method_1_code 1 none ∈ gw_l := gw_in (List.mem_of_getElem? (i := 162) (by decide +kernel)) rfl
theorem gm_Jt1 : Cond.methodLink "java/lang/Throwable" 1 objectInit ∈ gw_l := gw_in (List.mem_of_getElem? (i := 163) (by decide +kernel)) rfl
theorem gf_Jt13 : Cond.fieldLink "java/lang/Throwable" 13 "java/lang/Throwable" "UNASSIGNED_STACK" "[Ljava/lang/StackTraceElement;" ∈ gw_l := gw_in (List.mem_of_getElem? (i := 164) (by decide +kernel)) rfl
theorem gf_Jt20 : Cond.fieldLink "java/lang/Throwable" 20 "java/lang/Throwable" "SUPPRESSED_SENTINEL" "Ljava/util/List;" ∈ gw_l := gw_in (List.mem_of_getElem? (i := 166) (by decide +kernel)) rfl
theorem gm_Jt27 : Cond.methodLink "java/lang/Throwable" 27 (⟨"java/lang/Throwable", "fillInStackTrace", "()Ljava/lang/Throwable;"⟩ : MethodName) ∈ gw_l := gw_in (List.mem_of_getElem? (i := 168) (by decide +kernel)) rfl
theorem gi_Jt_fillInStackTrace : Cond.instanceMethod (⟨"java/lang/Throwable", "fillInStackTrace", "()Ljava/lang/Throwable;"⟩ : MethodName) ∈ gw_l := gw_in (List.mem_of_getElem? (i := 169) (by decide +kernel)) rfl
theorem gs_Jh_Jt_fillInStackTrace : Cond.selects "java/lang/ArithmeticException" (⟨"java/lang/Throwable", "fillInStackTrace", "()Ljava/lang/Throwable;"⟩ : MethodName) (⟨"java/lang/Throwable", "fillInStackTrace", "()Ljava/lang/Throwable;"⟩ : MethodName) ∈ gw_l := gw_in (List.mem_of_getElem? (i := 171) (by decide +kernel)) rfl
theorem gs_Jg_Jt_fillInStackTrace : Cond.selects "java/lang/IllegalArgumentException" (⟨"java/lang/Throwable", "fillInStackTrace", "()Ljava/lang/Throwable;"⟩ : MethodName) (⟨"java/lang/Throwable", "fillInStackTrace", "()Ljava/lang/Throwable;"⟩ : MethodName) ∈ gw_l := gw_in (List.mem_of_getElem? (i := 172) (by decide +kernel)) rfl
theorem gs_Ji_Jt_fillInStackTrace : Cond.selects "java/lang/IllegalStateException" (⟨"java/lang/Throwable", "fillInStackTrace", "()Ljava/lang/Throwable;"⟩ : MethodName) (⟨"java/lang/Throwable", "fillInStackTrace", "()Ljava/lang/Throwable;"⟩ : MethodName) ∈ gw_l := gw_in (List.mem_of_getElem? (i := 173) (by decide +kernel)) rfl
theorem gs_Jx_Jt_fillInStackTrace : Cond.selects "java/lang/IndexOutOfBoundsException" (⟨"java/lang/Throwable", "fillInStackTrace", "()Ljava/lang/Throwable;"⟩ : MethodName) (⟨"java/lang/Throwable", "fillInStackTrace", "()Ljava/lang/Throwable;"⟩ : MethodName) ∈ gw_l := gw_in (List.mem_of_getElem? (i := 174) (by decide +kernel)) rfl
theorem gm_Jt202 : Cond.methodLink "java/lang/Throwable" 202 (⟨"java/lang/Throwable", "fillInStackTrace", "(I)Ljava/lang/Throwable;"⟩ : MethodName) ∈ gw_l := gw_in (List.mem_of_getElem? (i := 176) (by decide +kernel)) rfl
theorem gi_Jt_fillInStackTrace_178 : Cond.instanceMethod (⟨"java/lang/Throwable", "fillInStackTrace", "(I)Ljava/lang/Throwable;"⟩ : MethodName) ∈ gw_l := gw_in (List.mem_of_getElem? (i := 178) (by decide +kernel)) rfl
theorem gn_Jt : Cond.instantiable "java/lang/Throwable" 6 ∈ gw_l := gw_in (List.mem_of_getElem? (i := 179) (by decide +kernel)) rfl
theorem gv_Jt_fillInStackTrace : Cond.native (⟨"java/lang/Throwable", "fillInStackTrace", "(I)Ljava/lang/Throwable;"⟩ : MethodName) ∈ gw_l := gw_in (List.mem_of_getElem? (i := 180) (by decide +kernel)) rfl
theorem gm_B137 : Cond.methodLink "BindingBench" 137 (⟨"java/util/NoSuchElementException", "<init>", "(Ljava/lang/String;)V"⟩ : MethodName) ∈ gw_l := gw_in (List.mem_of_getElem? (i := 182) (by decide +kernel)) rfl
theorem gi_Jn_initS : Cond.instanceMethod (⟨"java/util/NoSuchElementException", "<init>", "(Ljava/lang/String;)V"⟩ : MethodName) ∈ gw_l := gw_in (List.mem_of_getElem? (i := 183) (by decide +kernel)) rfl
theorem gc_Jn_initS : Cond.code (⟨"java/util/NoSuchElementException", "<init>", "(Ljava/lang/String;)V"⟩ : MethodName) prog_21_method_4_code 2 none ∈ gw_l := gw_in (List.mem_of_getElem? (i := 184) (by decide +kernel)) rfl
theorem gm_Jn13 : Cond.methodLink "java/util/NoSuchElementException" 13 (⟨"java/lang/RuntimeException", "<init>", "(Ljava/lang/String;)V"⟩ : MethodName) ∈ gw_l := gw_in (List.mem_of_getElem? (i := 185) (by decide +kernel)) rfl
theorem gi_Jr_initS : Cond.instanceMethod (⟨"java/lang/RuntimeException", "<init>", "(Ljava/lang/String;)V"⟩ : MethodName) ∈ gw_l := gw_in (List.mem_of_getElem? (i := 186) (by decide +kernel)) rfl
theorem gc_Jr_initS : Cond.code (⟨"java/lang/RuntimeException", "<init>", "(Ljava/lang/String;)V"⟩ : MethodName) prog_16_method_2_code 2 none ∈ gw_l := gw_in (List.mem_of_getElem? (i := 187) (by decide +kernel)) rfl
theorem gm_Jr7 : Cond.methodLink "java/lang/RuntimeException" 7 (⟨"java/lang/Exception", "<init>", "(Ljava/lang/String;)V"⟩ : MethodName) ∈ gw_l := gw_in (List.mem_of_getElem? (i := 188) (by decide +kernel)) rfl
theorem gi_Je_initS : Cond.instanceMethod (⟨"java/lang/Exception", "<init>", "(Ljava/lang/String;)V"⟩ : MethodName) ∈ gw_l := gw_in (List.mem_of_getElem? (i := 189) (by decide +kernel)) rfl
theorem gc_Je_initS : Cond.code (⟨"java/lang/Exception", "<init>", "(Ljava/lang/String;)V"⟩ : MethodName) prog_10_method_2_code 2 none ∈ gw_l := gw_in (List.mem_of_getElem? (i := 190) (by decide +kernel)) rfl
theorem gm_Je7 : Cond.methodLink "java/lang/Exception" 7 (⟨"java/lang/Throwable", "<init>", "(Ljava/lang/String;)V"⟩ : MethodName) ∈ gw_l := gw_in (List.mem_of_getElem? (i := 191) (by decide +kernel)) rfl
theorem gi_Jt_initS : Cond.instanceMethod (⟨"java/lang/Throwable", "<init>", "(Ljava/lang/String;)V"⟩ : MethodName) ∈ gw_l := gw_in (List.mem_of_getElem? (i := 192) (by decide +kernel)) rfl
theorem gc_Jt_initS : Cond.code (⟨"java/lang/Throwable", "<init>", "(Ljava/lang/String;)V"⟩ : MethodName) prog_19_method_2_code 2 none ∈ gw_l := gw_in (List.mem_of_getElem? (i := 193) (by decide +kernel)) rfl
theorem gf_Jt198_194 : Cond.fieldLink "java/lang/Throwable" 198 "java/lang/Throwable" "backtrace" "Ljava/lang/Object;" ∈ gw_l := gw_in (List.mem_of_getElem? (i := 194) (by decide +kernel)) rfl
theorem gf_Jt31 : Cond.fieldLink "java/lang/Throwable" 31 "java/lang/Throwable" "detailMessage" "Ljava/lang/String;" ∈ gw_l := gw_in (List.mem_of_getElem? (i := 195) (by decide +kernel)) rfl
theorem gf_Jt7 : Cond.fieldLink "java/lang/Throwable" 7 "java/lang/Throwable" "cause" "Ljava/lang/Throwable;" ∈ gw_l := gw_in (List.mem_of_getElem? (i := 196) (by decide +kernel)) rfl
theorem gf_Jt17 : Cond.fieldLink "java/lang/Throwable" 17 "java/lang/Throwable" "stackTrace" "[Ljava/lang/StackTraceElement;" ∈ gw_l := gw_in (List.mem_of_getElem? (i := 197) (by decide +kernel)) rfl
theorem gf_Jt24 : Cond.fieldLink "java/lang/Throwable" 24 "java/lang/Throwable" "suppressedExceptions" "Ljava/util/List;" ∈ gw_l := gw_in (List.mem_of_getElem? (i := 198) (by decide +kernel)) rfl
theorem gl_Jn_depth : Cond.lays "java/util/NoSuchElementException" "java/lang/Throwable" "depth" "I" ∈ gw_l := gw_in (List.mem_of_getElem? (i := 203) (by decide +kernel)) rfl
theorem gm_B36 : Cond.methodLink "BindingBench" 36 yB_checkFree ∈ gw_l := gw_in (List.mem_of_getElem? (i := 207) (by decide +kernel)) rfl
theorem gt_B_checkFree : Cond.static yB_checkFree ∈ gw_l := gw_in (List.mem_of_getElem? (i := 208) (by decide +kernel)) rfl
theorem gc_B_checkFree : Cond.code yB_checkFree cB_checkFree 1 none ∈ gw_l := gw_in (List.mem_of_getElem? (i := 209) (by decide +kernel)) rfl
theorem gm_B39 : Cond.methodLink "BindingBench" 39 yT_becomeFree ∈ gw_l := gw_in (List.mem_of_getElem? (i := 211) (by decide +kernel)) rfl
theorem gi_T_becomeFree : Cond.instanceMethod yT_becomeFree ∈ gw_l := gw_in (List.mem_of_getElem? (i := 212) (by decide +kernel)) rfl
theorem gs_T_T_becomeFree : Cond.selects "BindingBench$Term" yT_becomeFree yT_becomeFree ∈ gw_l := gw_in (List.mem_of_getElem? (i := 213) (by decide +kernel)) rfl
theorem gc_T_becomeFree : Cond.code yT_becomeFree cT_becomeFree 2 none ∈ gw_l := gw_in (List.mem_of_getElem? (i := 214) (by decide +kernel)) rfl
theorem gm_L82 : Cond.methodLink "BindingBenchLaw" 82 yL_apply ∈ gw_l := gw_in (List.mem_of_getElem? (i := 215) (by decide +kernel)) rfl
theorem gt_L_apply : Cond.static yL_apply ∈ gw_l := gw_in (List.mem_of_getElem? (i := 216) (by decide +kernel)) rfl
theorem gc_L_apply : Cond.codeWith yL_apply cL_apply 6 (some .int) [(0, 12, 15, 13), (0, 12, 19, 19)] ∈ gw_l := gw_in (List.mem_of_getElem? (i := 217) (by decide +kernel)) rfl
theorem gk_L19 : Cond.classLink "BindingBenchLaw" 19 "java/lang/IllegalStateException" ∈ gw_l := gw_in (List.mem_of_getElem? (i := 218) (by decide +kernel)) rfl
theorem gm_L15 : Cond.methodLink "BindingBenchLaw" 15 yB_apply ∈ gw_l := gw_in (List.mem_of_getElem? (i := 219) (by decide +kernel)) rfl
theorem gi_B_apply : Cond.instanceMethod yB_apply ∈ gw_l := gw_in (List.mem_of_getElem? (i := 220) (by decide +kernel)) rfl
theorem gs_B_B_apply : Cond.selects "BindingBench" yB_apply yB_apply ∈ gw_l := gw_in (List.mem_of_getElem? (i := 221) (by decide +kernel)) rfl
theorem gc_B_apply : Cond.code yB_apply cB_apply 5 (some .int) ∈ gw_l := gw_in (List.mem_of_getElem? (i := 222) (by decide +kernel)) rfl
theorem gm_B42 : Cond.methodLink "BindingBench" 42 yS_join ∈ gw_l := gw_in (List.mem_of_getElem? (i := 223) (by decide +kernel)) rfl
theorem gi_S_join : Cond.instanceMethod yS_join ∈ gw_l := gw_in (List.mem_of_getElem? (i := 224) (by decide +kernel)) rfl
theorem gs_S_S_join : Cond.selects "BindingBench$Workshop" yS_join yS_join ∈ gw_l := gw_in (List.mem_of_getElem? (i := 225) (by decide +kernel)) rfl
theorem gc_S_join : Cond.code yS_join cS_join 3 (some (.object "BindingBench$Term")) ∈ gw_l := gw_in (List.mem_of_getElem? (i := 226) (by decide +kernel)) rfl
theorem gm_S38 : Cond.methodLink "BindingBench$Workshop" 38 yT_clear ∈ gw_l := gw_in (List.mem_of_getElem? (i := 227) (by decide +kernel)) rfl
theorem gi_T_clear : Cond.instanceMethod yT_clear ∈ gw_l := gw_in (List.mem_of_getElem? (i := 228) (by decide +kernel)) rfl
theorem gs_T_T_clear : Cond.selects "BindingBench$Term" yT_clear yT_clear ∈ gw_l := gw_in (List.mem_of_getElem? (i := 229) (by decide +kernel)) rfl
theorem gc_T_clear : Cond.code yT_clear cT_clear 1 none ∈ gw_l := gw_in (List.mem_of_getElem? (i := 230) (by decide +kernel)) rfl
theorem gm_S41 : Cond.methodLink "BindingBench$Workshop" 41 yT_add ∈ gw_l := gw_in (List.mem_of_getElem? (i := 231) (by decide +kernel)) rfl
theorem gi_T_add : Cond.instanceMethod yT_add ∈ gw_l := gw_in (List.mem_of_getElem? (i := 232) (by decide +kernel)) rfl
theorem gs_T_T_add : Cond.selects "BindingBench$Term" yT_add yT_add ∈ gw_l := gw_in (List.mem_of_getElem? (i := 233) (by decide +kernel)) rfl
theorem gc_T_add : Cond.code yT_add cT_add 2 none ∈ gw_l := gw_in (List.mem_of_getElem? (i := 234) (by decide +kernel)) rfl
theorem gm_S48 : Cond.methodLink "BindingBench$Workshop" 48 yT_addAll ∈ gw_l := gw_in (List.mem_of_getElem? (i := 235) (by decide +kernel)) rfl
theorem gi_T_addAll : Cond.instanceMethod yT_addAll ∈ gw_l := gw_in (List.mem_of_getElem? (i := 236) (by decide +kernel)) rfl
theorem gs_T_T_addAll : Cond.selects "BindingBench$Term" yT_addAll yT_addAll ∈ gw_l := gw_in (List.mem_of_getElem? (i := 237) (by decide +kernel)) rfl
theorem gc_T_addAll : Cond.code yT_addAll cT_addAll 4 none ∈ gw_l := gw_in (List.mem_of_getElem? (i := 238) (by decide +kernel)) rfl
theorem gm_T38 : Cond.methodLink "BindingBench$Term" 38 yT_takes ∈ gw_l := gw_in (List.mem_of_getElem? (i := 239) (by decide +kernel)) rfl
theorem gi_T_takes : Cond.instanceMethod yT_takes ∈ gw_l := gw_in (List.mem_of_getElem? (i := 240) (by decide +kernel)) rfl
theorem gs_T_T_takes : Cond.selects "BindingBench$Term" yT_takes yT_takes ∈ gw_l := gw_in (List.mem_of_getElem? (i := 241) (by decide +kernel)) rfl
theorem gc_T_takes : Cond.code yT_takes cT_takes 2 (some .boolean) ∈ gw_l := gw_in (List.mem_of_getElem? (i := 242) (by decide +kernel)) rfl
theorem gm_T23 : Cond.methodLink "BindingBench$Term" 23 arraycopyName ∈ gw_l := gw_in (List.mem_of_getElem? (i := 243) (by decide +kernel)) rfl
theorem gt_Js_arraycopy : Cond.static arraycopyName ∈ gw_l := gw_in (List.mem_of_getElem? (i := 244) (by decide +kernel)) rfl
theorem gv_Js_arraycopy : Cond.native arraycopyName ∈ gw_l := gw_in (List.mem_of_getElem? (i := 245) (by decide +kernel)) rfl
theorem gm_S52 : Cond.methodLink "BindingBench$Workshop" 52 yS_checked ∈ gw_l := gw_in (List.mem_of_getElem? (i := 246) (by decide +kernel)) rfl
theorem gi_S_checked : Cond.instanceMethod yS_checked ∈ gw_l := gw_in (List.mem_of_getElem? (i := 248) (by decide +kernel)) rfl
theorem gc_S_checked : Cond.code yS_checked cS_checked 1 (some (.object "BindingBench$Term")) ∈ gw_l := gw_in (List.mem_of_getElem? (i := 249) (by decide +kernel)) rfl
theorem gm_S113 : Cond.methodLink "BindingBench$Workshop" 113 yS_isTooDeep ∈ gw_l := gw_in (List.mem_of_getElem? (i := 250) (by decide +kernel)) rfl
theorem gi_S_isTooDeep : Cond.instanceMethod yS_isTooDeep ∈ gw_l := gw_in (List.mem_of_getElem? (i := 252) (by decide +kernel)) rfl
theorem gc_S_isTooDeep : Cond.code yS_isTooDeep cS_isTooDeep 2 (some .boolean) ∈ gw_l := gw_in (List.mem_of_getElem? (i := 253) (by decide +kernel)) rfl
theorem gm_S122 : Cond.methodLink "BindingBench$Workshop" 122 yS_depth ∈ gw_l := gw_in (List.mem_of_getElem? (i := 254) (by decide +kernel)) rfl
theorem gi_S_depth : Cond.instanceMethod yS_depth ∈ gw_l := gw_in (List.mem_of_getElem? (i := 255) (by decide +kernel)) rfl
theorem gs_S_S_depth : Cond.selects "BindingBench$Workshop" yS_depth yS_depth ∈ gw_l := gw_in (List.mem_of_getElem? (i := 256) (by decide +kernel)) rfl
theorem gc_S_depth : Cond.code yS_depth cS_depth 4 (some .int) ∈ gw_l := gw_in (List.mem_of_getElem? (i := 257) (by decide +kernel)) rfl
theorem gm_S56 : Cond.methodLink "BindingBench$Workshop" 56 yW_start ∈ gw_l := gw_in (List.mem_of_getElem? (i := 258) (by decide +kernel)) rfl
theorem gi_W_start : Cond.instanceMethod yW_start ∈ gw_l := gw_in (List.mem_of_getElem? (i := 259) (by decide +kernel)) rfl
theorem gs_W_W_start : Cond.selects "BindingBench$Walk" yW_start yW_start ∈ gw_l := gw_in (List.mem_of_getElem? (i := 260) (by decide +kernel)) rfl
theorem gc_W_start : Cond.code yW_start cW_start 1 none ∈ gw_l := gw_in (List.mem_of_getElem? (i := 261) (by decide +kernel)) rfl
theorem gm_S92 : Cond.methodLink "BindingBench$Workshop" 92 (⟨"java/lang/Math", "max", "(II)I"⟩ : MethodName) ∈ gw_l := gw_in (List.mem_of_getElem? (i := 262) (by decide +kernel)) rfl
theorem gt_Jm_max : Cond.static (⟨"java/lang/Math", "max", "(II)I"⟩ : MethodName) ∈ gw_l := gw_in (List.mem_of_getElem? (i := 263) (by decide +kernel)) rfl
theorem gc_Jm_max : Cond.code (⟨"java/lang/Math", "max", "(II)I"⟩ : MethodName) prog_15_method_65_code 2 (some .int) ∈ gw_l := gw_in (List.mem_of_getElem? (i := 264) (by decide +kernel)) rfl
theorem gm_S66 : Cond.methodLink "BindingBench$Workshop" 66 yW_pass ∈ gw_l := gw_in (List.mem_of_getElem? (i := 265) (by decide +kernel)) rfl
theorem gi_W_pass : Cond.instanceMethod yW_pass ∈ gw_l := gw_in (List.mem_of_getElem? (i := 266) (by decide +kernel)) rfl
theorem gs_W_W_pass : Cond.selects "BindingBench$Walk" yW_pass yW_pass ∈ gw_l := gw_in (List.mem_of_getElem? (i := 267) (by decide +kernel)) rfl
theorem gc_W_pass : Cond.code yW_pass cW_pass 2 none ∈ gw_l := gw_in (List.mem_of_getElem? (i := 268) (by decide +kernel)) rfl
theorem gk_S117 : Cond.classLink "BindingBench$Workshop" 117 "java/lang/IllegalStateException" ∈ gw_l := gw_in (List.mem_of_getElem? (i := 269) (by decide +kernel)) rfl
theorem gn_Ji : Cond.instantiable "java/lang/IllegalStateException" 6 ∈ gw_l := gw_in (List.mem_of_getElem? (i := 270) (by decide +kernel)) rfl
theorem gs_Ji_Jt_fillInStackTrace_272 : Cond.selects "java/lang/IllegalStateException" (⟨"java/lang/Throwable", "fillInStackTrace", "(I)Ljava/lang/Throwable;"⟩ : MethodName) (⟨"java/lang/Throwable", "fillInStackTrace", "(I)Ljava/lang/Throwable;"⟩ : MethodName) ∈ gw_l := gw_in (List.mem_of_getElem? (i := 272) (by decide +kernel)) rfl
theorem gl_Ji_cause : Cond.lays "java/lang/IllegalStateException" "java/lang/Throwable" "cause" "Ljava/lang/Throwable;" ∈ gw_l := gw_in (List.mem_of_getElem? (i := 273) (by decide +kernel)) rfl
theorem gl_Ji_stackTrace : Cond.lays "java/lang/IllegalStateException" "java/lang/Throwable" "stackTrace" "[Ljava/lang/StackTraceElement;" ∈ gw_l := gw_in (List.mem_of_getElem? (i := 274) (by decide +kernel)) rfl
theorem gl_Ji_suppressedExceptions : Cond.lays "java/lang/IllegalStateException" "java/lang/Throwable" "suppressedExceptions" "Ljava/util/List;" ∈ gw_l := gw_in (List.mem_of_getElem? (i := 275) (by decide +kernel)) rfl
theorem gl_Ji_detailMessage : Cond.lays "java/lang/IllegalStateException" "java/lang/Throwable" "detailMessage" "Ljava/lang/String;" ∈ gw_l := gw_in (List.mem_of_getElem? (i := 276) (by decide +kernel)) rfl
theorem gl_Ji_backtrace : Cond.lays "java/lang/IllegalStateException" "java/lang/Throwable" "backtrace" "Ljava/lang/Object;" ∈ gw_l := gw_in (List.mem_of_getElem? (i := 277) (by decide +kernel)) rfl
theorem gm_S121 : Cond.methodLink "BindingBench$Workshop" 121 (⟨"java/lang/IllegalStateException", "<init>", "(Ljava/lang/String;)V"⟩ : MethodName) ∈ gw_l := gw_in (List.mem_of_getElem? (i := 279) (by decide +kernel)) rfl
theorem gi_Ji_initS : Cond.instanceMethod (⟨"java/lang/IllegalStateException", "<init>", "(Ljava/lang/String;)V"⟩ : MethodName) ∈ gw_l := gw_in (List.mem_of_getElem? (i := 280) (by decide +kernel)) rfl
theorem gc_Ji_initS : Cond.code (⟨"java/lang/IllegalStateException", "<init>", "(Ljava/lang/String;)V"⟩ : MethodName) prog_12_method_2_code 2 none ∈ gw_l := gw_in (List.mem_of_getElem? (i := 281) (by decide +kernel)) rfl
theorem gm_Ji7 : Cond.methodLink "java/lang/IllegalStateException" 7 (⟨"java/lang/RuntimeException", "<init>", "(Ljava/lang/String;)V"⟩ : MethodName) ∈ gw_l := gw_in (List.mem_of_getElem? (i := 282) (by decide +kernel)) rfl
theorem gl_Ji_depth : Cond.lays "java/lang/IllegalStateException" "java/lang/Throwable" "depth" "I" ∈ gw_l := gw_in (List.mem_of_getElem? (i := 283) (by decide +kernel)) rfl
theorem gm_B46 : Cond.methodLink "BindingBench" 46 yT_become ∈ gw_l := gw_in (List.mem_of_getElem? (i := 285) (by decide +kernel)) rfl
theorem gi_T_become : Cond.instanceMethod yT_become ∈ gw_l := gw_in (List.mem_of_getElem? (i := 286) (by decide +kernel)) rfl
theorem gs_T_T_become : Cond.selects "BindingBench$Term" yT_become yT_become ∈ gw_l := gw_in (List.mem_of_getElem? (i := 287) (by decide +kernel)) rfl
theorem gc_T_become : Cond.code yT_become cT_become 2 (some .int) ∈ gw_l := gw_in (List.mem_of_getElem? (i := 288) (by decide +kernel)) rfl
theorem gm_T19 : Cond.methodLink "BindingBench$Term" 19 yT_reserve ∈ gw_l := gw_in (List.mem_of_getElem? (i := 289) (by decide +kernel)) rfl
theorem gi_T_reserve : Cond.instanceMethod yT_reserve ∈ gw_l := gw_in (List.mem_of_getElem? (i := 291) (by decide +kernel)) rfl
theorem gc_T_reserve : Cond.code yT_reserve cT_reserve 2 none ∈ gw_l := gw_in (List.mem_of_getElem? (i := 292) (by decide +kernel)) rfl
theorem gm_T29 : Cond.methodLink "BindingBench$Term" 29 (⟨"java/lang/Math", "max", "(II)I"⟩ : MethodName) ∈ gw_l := gw_in (List.mem_of_getElem? (i := 293) (by decide +kernel)) rfl
theorem gm_T35 : Cond.methodLink "BindingBench$Term" 35 (⟨"java/lang/Math", "min", "(II)I"⟩ : MethodName) ∈ gw_l := gw_in (List.mem_of_getElem? (i := 294) (by decide +kernel)) rfl
theorem gt_Jm_min : Cond.static (⟨"java/lang/Math", "min", "(II)I"⟩ : MethodName) ∈ gw_l := gw_in (List.mem_of_getElem? (i := 295) (by decide +kernel)) rfl
theorem gc_Jm_min : Cond.code (⟨"java/lang/Math", "min", "(II)I"⟩ : MethodName) prog_15_method_69_code 2 (some .int) ∈ gw_l := gw_in (List.mem_of_getElem? (i := 296) (by decide +kernel)) rfl
theorem gm_L86 : Cond.methodLink "BindingBenchLaw" 86 yL_bind ∈ gw_l := gw_in (List.mem_of_getElem? (i := 297) (by decide +kernel)) rfl
theorem gt_L_bind : Cond.static yL_bind ∈ gw_l := gw_in (List.mem_of_getElem? (i := 298) (by decide +kernel)) rfl
theorem gc_L_bind : Cond.codeWith yL_bind cL_bind 6 (some .int) [(0, 12, 15, 13), (0, 12, 19, 19)] ∈ gw_l := gw_in (List.mem_of_getElem? (i := 299) (by decide +kernel)) rfl
theorem gm_L21 : Cond.methodLink "BindingBenchLaw" 21 yB_bind ∈ gw_l := gw_in (List.mem_of_getElem? (i := 300) (by decide +kernel)) rfl
theorem gi_B_bind : Cond.instanceMethod yB_bind ∈ gw_l := gw_in (List.mem_of_getElem? (i := 301) (by decide +kernel)) rfl
theorem gs_B_B_bind : Cond.selects "BindingBench" yB_bind yB_bind ∈ gw_l := gw_in (List.mem_of_getElem? (i := 302) (by decide +kernel)) rfl
theorem gc_B_bind : Cond.code yB_bind cB_bind 6 (some .int) ∈ gw_l := gw_in (List.mem_of_getElem? (i := 303) (by decide +kernel)) rfl
theorem gm_B50 : Cond.methodLink "BindingBench" 50 yS_close ∈ gw_l := gw_in (List.mem_of_getElem? (i := 304) (by decide +kernel)) rfl
theorem gi_S_close : Cond.instanceMethod yS_close ∈ gw_l := gw_in (List.mem_of_getElem? (i := 305) (by decide +kernel)) rfl
theorem gs_S_S_close : Cond.selects "BindingBench$Workshop" yS_close yS_close ∈ gw_l := gw_in (List.mem_of_getElem? (i := 306) (by decide +kernel)) rfl
theorem gc_S_close : Cond.code yS_close cS_close 5 (some (.object "BindingBench$Term")) ∈ gw_l := gw_in (List.mem_of_getElem? (i := 307) (by decide +kernel)) rfl
theorem gm_L89 : Cond.methodLink "BindingBenchLaw" 89 yL_put ∈ gw_l := gw_in (List.mem_of_getElem? (i := 308) (by decide +kernel)) rfl
theorem gt_L_put : Cond.static yL_put ∈ gw_l := gw_in (List.mem_of_getElem? (i := 309) (by decide +kernel)) rfl
theorem gc_L_put : Cond.codeWith yL_put cL_put 7 (some .int) [(0, 14, 17, 13), (0, 14, 21, 19)] ∈ gw_l := gw_in (List.mem_of_getElem? (i := 310) (by decide +kernel)) rfl
theorem gm_L24 : Cond.methodLink "BindingBenchLaw" 24 yB_put ∈ gw_l := gw_in (List.mem_of_getElem? (i := 311) (by decide +kernel)) rfl
theorem gi_B_put : Cond.instanceMethod yB_put ∈ gw_l := gw_in (List.mem_of_getElem? (i := 312) (by decide +kernel)) rfl
theorem gs_B_B_put : Cond.selects "BindingBench" yB_put yB_put ∈ gw_l := gw_in (List.mem_of_getElem? (i := 313) (by decide +kernel)) rfl
theorem gc_B_put : Cond.code yB_put cB_put 7 (some .int) ∈ gw_l := gw_in (List.mem_of_getElem? (i := 314) (by decide +kernel)) rfl
theorem gm_B54 : Cond.methodLink "BindingBench" 54 yS_replace ∈ gw_l := gw_in (List.mem_of_getElem? (i := 315) (by decide +kernel)) rfl
theorem gi_S_replace : Cond.instanceMethod yS_replace ∈ gw_l := gw_in (List.mem_of_getElem? (i := 316) (by decide +kernel)) rfl
theorem gs_S_S_replace : Cond.selects "BindingBench$Workshop" yS_replace yS_replace ∈ gw_l := gw_in (List.mem_of_getElem? (i := 317) (by decide +kernel)) rfl
theorem gc_S_replace : Cond.code yS_replace cS_replace 5 (some (.object "BindingBench$Term")) ∈ gw_l := gw_in (List.mem_of_getElem? (i := 318) (by decide +kernel)) rfl
theorem gm_L93 : Cond.methodLink "BindingBenchLaw" 93 yL_open ∈ gw_l := gw_in (List.mem_of_getElem? (i := 319) (by decide +kernel)) rfl
theorem gt_L_open : Cond.static yL_open ∈ gw_l := gw_in (List.mem_of_getElem? (i := 320) (by decide +kernel)) rfl
theorem gc_L_open : Cond.codeWith yL_open cL_open 6 (some .int) [(0, 12, 15, 13), (0, 12, 19, 31), (0, 12, 23, 19)] ∈ gw_l := gw_in (List.mem_of_getElem? (i := 321) (by decide +kernel)) rfl
theorem gk_L31 : Cond.classLink "BindingBenchLaw" 31 "java/lang/IllegalArgumentException" ∈ gw_l := gw_in (List.mem_of_getElem? (i := 322) (by decide +kernel)) rfl
theorem gm_L28 : Cond.methodLink "BindingBenchLaw" 28 yB_open ∈ gw_l := gw_in (List.mem_of_getElem? (i := 323) (by decide +kernel)) rfl
theorem gi_B_open : Cond.instanceMethod yB_open ∈ gw_l := gw_in (List.mem_of_getElem? (i := 324) (by decide +kernel)) rfl
theorem gs_B_B_open : Cond.selects "BindingBench" yB_open yB_open ∈ gw_l := gw_in (List.mem_of_getElem? (i := 325) (by decide +kernel)) rfl
theorem gc_B_open : Cond.code yB_open cB_open 7 (some .int) ∈ gw_l := gw_in (List.mem_of_getElem? (i := 326) (by decide +kernel)) rfl
theorem gm_B58 : Cond.methodLink "BindingBench" 58 yT_first ∈ gw_l := gw_in (List.mem_of_getElem? (i := 327) (by decide +kernel)) rfl
theorem gi_T_first : Cond.instanceMethod yT_first ∈ gw_l := gw_in (List.mem_of_getElem? (i := 328) (by decide +kernel)) rfl
theorem gs_T_T_first : Cond.selects "BindingBench$Term" yT_first yT_first ∈ gw_l := gw_in (List.mem_of_getElem? (i := 329) (by decide +kernel)) rfl
theorem gc_T_first : Cond.code yT_first cT_first 1 (some .int) ∈ gw_l := gw_in (List.mem_of_getElem? (i := 330) (by decide +kernel)) rfl
theorem gk_B62 : Cond.classLink "BindingBench" 62 "java/lang/IllegalArgumentException" ∈ gw_l := gw_in (List.mem_of_getElem? (i := 331) (by decide +kernel)) rfl
theorem gn_Jg : Cond.instantiable "java/lang/IllegalArgumentException" 6 ∈ gw_l := gw_in (List.mem_of_getElem? (i := 332) (by decide +kernel)) rfl
theorem gs_Jg_Jt_fillInStackTrace_334 : Cond.selects "java/lang/IllegalArgumentException" (⟨"java/lang/Throwable", "fillInStackTrace", "(I)Ljava/lang/Throwable;"⟩ : MethodName) (⟨"java/lang/Throwable", "fillInStackTrace", "(I)Ljava/lang/Throwable;"⟩ : MethodName) ∈ gw_l := gw_in (List.mem_of_getElem? (i := 334) (by decide +kernel)) rfl
theorem gl_Jg_cause : Cond.lays "java/lang/IllegalArgumentException" "java/lang/Throwable" "cause" "Ljava/lang/Throwable;" ∈ gw_l := gw_in (List.mem_of_getElem? (i := 335) (by decide +kernel)) rfl
theorem gl_Jg_stackTrace : Cond.lays "java/lang/IllegalArgumentException" "java/lang/Throwable" "stackTrace" "[Ljava/lang/StackTraceElement;" ∈ gw_l := gw_in (List.mem_of_getElem? (i := 336) (by decide +kernel)) rfl
theorem gl_Jg_suppressedExceptions : Cond.lays "java/lang/IllegalArgumentException" "java/lang/Throwable" "suppressedExceptions" "Ljava/util/List;" ∈ gw_l := gw_in (List.mem_of_getElem? (i := 337) (by decide +kernel)) rfl
theorem gl_Jg_detailMessage : Cond.lays "java/lang/IllegalArgumentException" "java/lang/Throwable" "detailMessage" "Ljava/lang/String;" ∈ gw_l := gw_in (List.mem_of_getElem? (i := 338) (by decide +kernel)) rfl
theorem gl_Jg_backtrace : Cond.lays "java/lang/IllegalArgumentException" "java/lang/Throwable" "backtrace" "Ljava/lang/Object;" ∈ gw_l := gw_in (List.mem_of_getElem? (i := 339) (by decide +kernel)) rfl
theorem gm_B66 : Cond.methodLink "BindingBench" 66 (⟨"java/lang/IllegalArgumentException", "<init>", "(Ljava/lang/String;)V"⟩ : MethodName) ∈ gw_l := gw_in (List.mem_of_getElem? (i := 341) (by decide +kernel)) rfl
theorem gi_Jg_initS : Cond.instanceMethod (⟨"java/lang/IllegalArgumentException", "<init>", "(Ljava/lang/String;)V"⟩ : MethodName) ∈ gw_l := gw_in (List.mem_of_getElem? (i := 342) (by decide +kernel)) rfl
theorem gc_Jg_initS : Cond.code (⟨"java/lang/IllegalArgumentException", "<init>", "(Ljava/lang/String;)V"⟩ : MethodName) prog_11_method_2_code 2 none ∈ gw_l := gw_in (List.mem_of_getElem? (i := 343) (by decide +kernel)) rfl
theorem gm_Jg7 : Cond.methodLink "java/lang/IllegalArgumentException" 7 (⟨"java/lang/RuntimeException", "<init>", "(Ljava/lang/String;)V"⟩ : MethodName) ∈ gw_l := gw_in (List.mem_of_getElem? (i := 344) (by decide +kernel)) rfl
theorem gl_Jg_depth : Cond.lays "java/lang/IllegalArgumentException" "java/lang/Throwable" "depth" "I" ∈ gw_l := gw_in (List.mem_of_getElem? (i := 345) (by decide +kernel)) rfl
theorem gm_B69 : Cond.methodLink "BindingBench" 69 yS_fill ∈ gw_l := gw_in (List.mem_of_getElem? (i := 347) (by decide +kernel)) rfl
theorem gi_S_fill : Cond.instanceMethod yS_fill ∈ gw_l := gw_in (List.mem_of_getElem? (i := 348) (by decide +kernel)) rfl
theorem gs_S_S_fill : Cond.selects "BindingBench$Workshop" yS_fill yS_fill ∈ gw_l := gw_in (List.mem_of_getElem? (i := 349) (by decide +kernel)) rfl
theorem gc_S_fill : Cond.code yS_fill cS_fill 3 (some (.object "BindingBench$Term")) ∈ gw_l := gw_in (List.mem_of_getElem? (i := 350) (by decide +kernel)) rfl
theorem gm_S69 : Cond.methodLink "BindingBench$Workshop" 69 yS_addFilled ∈ gw_l := gw_in (List.mem_of_getElem? (i := 351) (by decide +kernel)) rfl
theorem gi_S_addFilled : Cond.instanceMethod yS_addFilled ∈ gw_l := gw_in (List.mem_of_getElem? (i := 353) (by decide +kernel)) rfl
theorem gc_S_addFilled : Cond.code yS_addFilled cS_addFilled 10 none ∈ gw_l := gw_in (List.mem_of_getElem? (i := 354) (by decide +kernel)) rfl
theorem gm_S105 : Cond.methodLink "BindingBench$Workshop" 105 yS_addRaised ∈ gw_l := gw_in (List.mem_of_getElem? (i := 355) (by decide +kernel)) rfl
theorem gi_S_addRaised : Cond.instanceMethod yS_addRaised ∈ gw_l := gw_in (List.mem_of_getElem? (i := 357) (by decide +kernel)) rfl
theorem gc_S_addRaised : Cond.code yS_addRaised cS_addRaised 7 none ∈ gw_l := gw_in (List.mem_of_getElem? (i := 358) (by decide +kernel)) rfl
theorem gm_S109 : Cond.methodLink "BindingBench$Workshop" 109 yT_takes ∈ gw_l := gw_in (List.mem_of_getElem? (i := 359) (by decide +kernel)) rfl
theorem gm_L96 : Cond.methodLink "BindingBenchLaw" 96 yL_part ∈ gw_l := gw_in (List.mem_of_getElem? (i := 360) (by decide +kernel)) rfl
theorem gt_L_part : Cond.static yL_part ∈ gw_l := gw_in (List.mem_of_getElem? (i := 361) (by decide +kernel)) rfl
theorem gc_L_part : Cond.codeWith yL_part cL_part 5 (some .int) [(0, 7, 10, 13), (0, 7, 14, 31)] ∈ gw_l := gw_in (List.mem_of_getElem? (i := 362) (by decide +kernel)) rfl
theorem gm_L33 : Cond.methodLink "BindingBenchLaw" 33 yB_part ∈ gw_l := gw_in (List.mem_of_getElem? (i := 363) (by decide +kernel)) rfl
theorem gi_B_part : Cond.instanceMethod yB_part ∈ gw_l := gw_in (List.mem_of_getElem? (i := 364) (by decide +kernel)) rfl
theorem gs_B_B_part : Cond.selects "BindingBench" yB_part yB_part ∈ gw_l := gw_in (List.mem_of_getElem? (i := 365) (by decide +kernel)) rfl
theorem gc_B_part : Cond.code yB_part cB_part 6 none ∈ gw_l := gw_in (List.mem_of_getElem? (i := 366) (by decide +kernel)) rfl
theorem gm_B74 : Cond.methodLink "BindingBench" 74 yS_cut ∈ gw_l := gw_in (List.mem_of_getElem? (i := 368) (by decide +kernel)) rfl
theorem gi_S_cut : Cond.instanceMethod yS_cut ∈ gw_l := gw_in (List.mem_of_getElem? (i := 369) (by decide +kernel)) rfl
theorem gs_S_S_cut : Cond.selects "BindingBench$Workshop" yS_cut yS_cut ∈ gw_l := gw_in (List.mem_of_getElem? (i := 370) (by decide +kernel)) rfl
theorem gc_S_cut : Cond.code yS_cut cS_cut 4 (some (.object "BindingBench$Term")) ∈ gw_l := gw_in (List.mem_of_getElem? (i := 371) (by decide +kernel)) rfl
theorem gm_S73 : Cond.methodLink "BindingBench$Workshop" 73 yT_endOf ∈ gw_l := gw_in (List.mem_of_getElem? (i := 372) (by decide +kernel)) rfl
theorem gi_T_endOf : Cond.instanceMethod yT_endOf ∈ gw_l := gw_in (List.mem_of_getElem? (i := 373) (by decide +kernel)) rfl
theorem gs_T_T_endOf : Cond.selects "BindingBench$Term" yT_endOf yT_endOf ∈ gw_l := gw_in (List.mem_of_getElem? (i := 374) (by decide +kernel)) rfl
theorem gc_T_endOf : Cond.code yT_endOf cT_endOf 4 (some .int) ∈ gw_l := gw_in (List.mem_of_getElem? (i := 375) (by decide +kernel)) rfl
theorem gm_L100 : Cond.methodLink "BindingBenchLaw" 100 yL_step ∈ gw_l := gw_in (List.mem_of_getElem? (i := 376) (by decide +kernel)) rfl
theorem gt_L_step : Cond.static yL_step ∈ gw_l := gw_in (List.mem_of_getElem? (i := 377) (by decide +kernel)) rfl
theorem gc_L_step : Cond.codeWith yL_step cL_step 5 (some .int) [(0, 17, 20, 13), (0, 17, 24, 19)] ∈ gw_l := gw_in (List.mem_of_getElem? (i := 378) (by decide +kernel)) rfl
theorem gm_L37 : Cond.methodLink "BindingBenchLaw" 37 yB_step ∈ gw_l := gw_in (List.mem_of_getElem? (i := 379) (by decide +kernel)) rfl
theorem gi_B_step : Cond.instanceMethod yB_step ∈ gw_l := gw_in (List.mem_of_getElem? (i := 380) (by decide +kernel)) rfl
theorem gs_B_B_step : Cond.selects "BindingBench" yB_step yB_step ∈ gw_l := gw_in (List.mem_of_getElem? (i := 381) (by decide +kernel)) rfl
theorem gc_B_step : Cond.code yB_step cB_step 6 (some .boolean) ∈ gw_l := gw_in (List.mem_of_getElem? (i := 382) (by decide +kernel)) rfl
theorem gm_B78 : Cond.methodLink "BindingBench" 78 yT_firstRedex ∈ gw_l := gw_in (List.mem_of_getElem? (i := 383) (by decide +kernel)) rfl
theorem gi_T_firstRedex : Cond.instanceMethod yT_firstRedex ∈ gw_l := gw_in (List.mem_of_getElem? (i := 384) (by decide +kernel)) rfl
theorem gs_T_T_firstRedex : Cond.selects "BindingBench$Term" yT_firstRedex yT_firstRedex ∈ gw_l := gw_in (List.mem_of_getElem? (i := 385) (by decide +kernel)) rfl
theorem gc_T_firstRedex : Cond.code yT_firstRedex cT_firstRedex 3 (some .int) ∈ gw_l := gw_in (List.mem_of_getElem? (i := 386) (by decide +kernel)) rfl
theorem gm_T42 : Cond.methodLink "BindingBench$Term" 42 yT_isRedex ∈ gw_l := gw_in (List.mem_of_getElem? (i := 387) (by decide +kernel)) rfl
theorem gi_T_isRedex : Cond.instanceMethod yT_isRedex ∈ gw_l := gw_in (List.mem_of_getElem? (i := 389) (by decide +kernel)) rfl
theorem gc_T_isRedex : Cond.code yT_isRedex cT_isRedex 2 (some .boolean) ∈ gw_l := gw_in (List.mem_of_getElem? (i := 390) (by decide +kernel)) rfl
theorem gm_B82 : Cond.methodLink "BindingBench" 82 yS_contract ∈ gw_l := gw_in (List.mem_of_getElem? (i := 391) (by decide +kernel)) rfl
theorem gi_S_contract : Cond.instanceMethod yS_contract ∈ gw_l := gw_in (List.mem_of_getElem? (i := 392) (by decide +kernel)) rfl
theorem gs_S_S_contract : Cond.selects "BindingBench$Workshop" yS_contract yS_contract ∈ gw_l := gw_in (List.mem_of_getElem? (i := 393) (by decide +kernel)) rfl
theorem gc_S_contract : Cond.code yS_contract cS_contract 5 (some (.object "BindingBench$Term")) ∈ gw_l := gw_in (List.mem_of_getElem? (i := 394) (by decide +kernel)) rfl
theorem gm_L104 : Cond.methodLink "BindingBenchLaw" 104 yL_head ∈ gw_l := gw_in (List.mem_of_getElem? (i := 395) (by decide +kernel)) rfl
theorem gt_L_head : Cond.static yL_head ∈ gw_l := gw_in (List.mem_of_getElem? (i := 396) (by decide +kernel)) rfl
theorem gc_L_head : Cond.codeWith yL_head cL_head 5 (some .int) [(0, 10, 13, 13), (0, 10, 17, 19), (0, 10, 21, 45)] ∈ gw_l := gw_in (List.mem_of_getElem? (i := 397) (by decide +kernel)) rfl
theorem gk_L45 : Cond.classLink "BindingBenchLaw" 45 "java/lang/ArithmeticException" ∈ gw_l := gw_in (List.mem_of_getElem? (i := 398) (by decide +kernel)) rfl
theorem gm_L41 : Cond.methodLink "BindingBenchLaw" 41 yB_head ∈ gw_l := gw_in (List.mem_of_getElem? (i := 399) (by decide +kernel)) rfl
theorem gi_B_head : Cond.instanceMethod yB_head ∈ gw_l := gw_in (List.mem_of_getElem? (i := 400) (by decide +kernel)) rfl
theorem gs_B_B_head : Cond.selects "BindingBench" yB_head yB_head ∈ gw_l := gw_in (List.mem_of_getElem? (i := 401) (by decide +kernel)) rfl
theorem gc_B_head : Cond.code yB_head cB_head 5 (some .int) ∈ gw_l := gw_in (List.mem_of_getElem? (i := 402) (by decide +kernel)) rfl
theorem gm_B85 : Cond.methodLink "BindingBench" 85 yS_reduce ∈ gw_l := gw_in (List.mem_of_getElem? (i := 403) (by decide +kernel)) rfl
theorem gi_S_reduce : Cond.instanceMethod yS_reduce ∈ gw_l := gw_in (List.mem_of_getElem? (i := 404) (by decide +kernel)) rfl
theorem gs_S_S_reduce : Cond.selects "BindingBench$Workshop" yS_reduce yS_reduce ∈ gw_l := gw_in (List.mem_of_getElem? (i := 405) (by decide +kernel)) rfl
theorem gc_S_reduce : Cond.code yS_reduce cS_reduce 7 (some .int) ∈ gw_l := gw_in (List.mem_of_getElem? (i := 406) (by decide +kernel)) rfl
theorem gm_S77 : Cond.methodLink "BindingBench$Workshop" 77 yT_become ∈ gw_l := gw_in (List.mem_of_getElem? (i := 407) (by decide +kernel)) rfl
theorem gm_S81 : Cond.methodLink "BindingBench$Workshop" 81 yT_headRedex ∈ gw_l := gw_in (List.mem_of_getElem? (i := 408) (by decide +kernel)) rfl
theorem gi_T_headRedex : Cond.instanceMethod yT_headRedex ∈ gw_l := gw_in (List.mem_of_getElem? (i := 409) (by decide +kernel)) rfl
theorem gs_T_T_headRedex : Cond.selects "BindingBench$Term" yT_headRedex yT_headRedex ∈ gw_l := gw_in (List.mem_of_getElem? (i := 410) (by decide +kernel)) rfl
theorem gc_T_headRedex : Cond.code yT_headRedex cT_headRedex 2 (some .int) ∈ gw_l := gw_in (List.mem_of_getElem? (i := 411) (by decide +kernel)) rfl
theorem gm_S85 : Cond.methodLink "BindingBench$Workshop" 85 yT_firstRedex ∈ gw_l := gw_in (List.mem_of_getElem? (i := 412) (by decide +kernel)) rfl
theorem gm_S88 : Cond.methodLink "BindingBench$Workshop" 88 yS_contract ∈ gw_l := gw_in (List.mem_of_getElem? (i := 413) (by decide +kernel)) rfl
theorem gk_S98 : Cond.classLink "BindingBench$Workshop" 98 "java/lang/ArithmeticException" ∈ gw_l := gw_in (List.mem_of_getElem? (i := 414) (by decide +kernel)) rfl
theorem gn_Jh : Cond.instantiable "java/lang/ArithmeticException" 6 ∈ gw_l := gw_in (List.mem_of_getElem? (i := 415) (by decide +kernel)) rfl
theorem gs_Jh_Jt_fillInStackTrace_417 : Cond.selects "java/lang/ArithmeticException" (⟨"java/lang/Throwable", "fillInStackTrace", "(I)Ljava/lang/Throwable;"⟩ : MethodName) (⟨"java/lang/Throwable", "fillInStackTrace", "(I)Ljava/lang/Throwable;"⟩ : MethodName) ∈ gw_l := gw_in (List.mem_of_getElem? (i := 417) (by decide +kernel)) rfl
theorem gl_Jh_cause : Cond.lays "java/lang/ArithmeticException" "java/lang/Throwable" "cause" "Ljava/lang/Throwable;" ∈ gw_l := gw_in (List.mem_of_getElem? (i := 418) (by decide +kernel)) rfl
theorem gl_Jh_stackTrace : Cond.lays "java/lang/ArithmeticException" "java/lang/Throwable" "stackTrace" "[Ljava/lang/StackTraceElement;" ∈ gw_l := gw_in (List.mem_of_getElem? (i := 419) (by decide +kernel)) rfl
theorem gl_Jh_suppressedExceptions : Cond.lays "java/lang/ArithmeticException" "java/lang/Throwable" "suppressedExceptions" "Ljava/util/List;" ∈ gw_l := gw_in (List.mem_of_getElem? (i := 420) (by decide +kernel)) rfl
theorem gl_Jh_detailMessage : Cond.lays "java/lang/ArithmeticException" "java/lang/Throwable" "detailMessage" "Ljava/lang/String;" ∈ gw_l := gw_in (List.mem_of_getElem? (i := 421) (by decide +kernel)) rfl
theorem gl_Jh_backtrace : Cond.lays "java/lang/ArithmeticException" "java/lang/Throwable" "backtrace" "Ljava/lang/Object;" ∈ gw_l := gw_in (List.mem_of_getElem? (i := 422) (by decide +kernel)) rfl
theorem gm_S102 : Cond.methodLink "BindingBench$Workshop" 102 (⟨"java/lang/ArithmeticException", "<init>", "(Ljava/lang/String;)V"⟩ : MethodName) ∈ gw_l := gw_in (List.mem_of_getElem? (i := 424) (by decide +kernel)) rfl
theorem gi_Jh_initS : Cond.instanceMethod (⟨"java/lang/ArithmeticException", "<init>", "(Ljava/lang/String;)V"⟩ : MethodName) ∈ gw_l := gw_in (List.mem_of_getElem? (i := 425) (by decide +kernel)) rfl
theorem gc_Jh_initS : Cond.code (⟨"java/lang/ArithmeticException", "<init>", "(Ljava/lang/String;)V"⟩ : MethodName) prog_8_method_2_code 2 none ∈ gw_l := gw_in (List.mem_of_getElem? (i := 426) (by decide +kernel)) rfl
theorem gm_Jh7 : Cond.methodLink "java/lang/ArithmeticException" 7 (⟨"java/lang/RuntimeException", "<init>", "(Ljava/lang/String;)V"⟩ : MethodName) ∈ gw_l := gw_in (List.mem_of_getElem? (i := 427) (by decide +kernel)) rfl
theorem gl_Jh_depth : Cond.lays "java/lang/ArithmeticException" "java/lang/Throwable" "depth" "I" ∈ gw_l := gw_in (List.mem_of_getElem? (i := 428) (by decide +kernel)) rfl
theorem gm_B89 : Cond.methodLink "BindingBench" 89 yS_reduced ∈ gw_l := gw_in (List.mem_of_getElem? (i := 430) (by decide +kernel)) rfl
theorem gi_S_reduced : Cond.instanceMethod yS_reduced ∈ gw_l := gw_in (List.mem_of_getElem? (i := 431) (by decide +kernel)) rfl
theorem gs_S_S_reduced : Cond.selects "BindingBench$Workshop" yS_reduced yS_reduced ∈ gw_l := gw_in (List.mem_of_getElem? (i := 432) (by decide +kernel)) rfl
theorem gc_S_reduced : Cond.code yS_reduced cS_reduced 1 (some (.object "BindingBench$Term")) ∈ gw_l := gw_in (List.mem_of_getElem? (i := 433) (by decide +kernel)) rfl
theorem gm_L107 : Cond.methodLink "BindingBenchLaw" 107 yL_normal ∈ gw_l := gw_in (List.mem_of_getElem? (i := 434) (by decide +kernel)) rfl
theorem gt_L_normal : Cond.static yL_normal ∈ gw_l := gw_in (List.mem_of_getElem? (i := 435) (by decide +kernel)) rfl
theorem gc_L_normal : Cond.codeWith yL_normal cL_normal 5 (some .int) [(0, 10, 13, 13), (0, 10, 17, 19), (0, 10, 21, 45)] ∈ gw_l := gw_in (List.mem_of_getElem? (i := 436) (by decide +kernel)) rfl
theorem gm_L47 : Cond.methodLink "BindingBenchLaw" 47 yB_normal ∈ gw_l := gw_in (List.mem_of_getElem? (i := 437) (by decide +kernel)) rfl
theorem gi_B_normal : Cond.instanceMethod yB_normal ∈ gw_l := gw_in (List.mem_of_getElem? (i := 438) (by decide +kernel)) rfl
theorem gs_B_B_normal : Cond.selects "BindingBench" yB_normal yB_normal ∈ gw_l := gw_in (List.mem_of_getElem? (i := 439) (by decide +kernel)) rfl
theorem gc_B_normal : Cond.code yB_normal cB_normal 5 (some .int) ∈ gw_l := gw_in (List.mem_of_getElem? (i := 440) (by decide +kernel)) rfl
theorem gm_L110 : Cond.methodLink "BindingBenchLaw" 110 yL_same ∈ gw_l := gw_in (List.mem_of_getElem? (i := 441) (by decide +kernel)) rfl
theorem gt_L_same : Cond.static yL_same ∈ gw_l := gw_in (List.mem_of_getElem? (i := 442) (by decide +kernel)) rfl
theorem gc_L_same : Cond.codeWith yL_same cL_same 5 (some .int) [(0, 17, 20, 13)] ∈ gw_l := gw_in (List.mem_of_getElem? (i := 443) (by decide +kernel)) rfl
theorem gm_L50 : Cond.methodLink "BindingBenchLaw" 50 yB_same ∈ gw_l := gw_in (List.mem_of_getElem? (i := 444) (by decide +kernel)) rfl
theorem gi_B_same : Cond.instanceMethod yB_same ∈ gw_l := gw_in (List.mem_of_getElem? (i := 445) (by decide +kernel)) rfl
theorem gs_B_B_same : Cond.selects "BindingBench" yB_same yB_same ∈ gw_l := gw_in (List.mem_of_getElem? (i := 446) (by decide +kernel)) rfl
theorem gc_B_same : Cond.code yB_same cB_same 3 (some .boolean) ∈ gw_l := gw_in (List.mem_of_getElem? (i := 447) (by decide +kernel)) rfl
theorem gm_B93 : Cond.methodLink "BindingBench" 93 yT_equalTo ∈ gw_l := gw_in (List.mem_of_getElem? (i := 448) (by decide +kernel)) rfl
theorem gi_T_equalTo : Cond.instanceMethod yT_equalTo ∈ gw_l := gw_in (List.mem_of_getElem? (i := 449) (by decide +kernel)) rfl
theorem gs_T_T_equalTo : Cond.selects "BindingBench$Term" yT_equalTo yT_equalTo ∈ gw_l := gw_in (List.mem_of_getElem? (i := 450) (by decide +kernel)) rfl
theorem gc_T_equalTo : Cond.code yT_equalTo cT_equalTo 3 (some .boolean) ∈ gw_l := gw_in (List.mem_of_getElem? (i := 451) (by decide +kernel)) rfl
theorem gm_L113 : Cond.methodLink "BindingBenchLaw" 113 yL_about ∈ gw_l := gw_in (List.mem_of_getElem? (i := 452) (by decide +kernel)) rfl
theorem gt_L_about : Cond.static yL_about ∈ gw_l := gw_in (List.mem_of_getElem? (i := 453) (by decide +kernel)) rfl
theorem gc_L_about : Cond.codeWith yL_about cL_about 5 (some .int) [(0, 10, 13, 13), (0, 10, 17, 31)] ∈ gw_l := gw_in (List.mem_of_getElem? (i := 454) (by decide +kernel)) rfl
theorem gm_L53 : Cond.methodLink "BindingBenchLaw" 53 yB_about ∈ gw_l := gw_in (List.mem_of_getElem? (i := 455) (by decide +kernel)) rfl
theorem gi_B_about : Cond.instanceMethod yB_about ∈ gw_l := gw_in (List.mem_of_getElem? (i := 456) (by decide +kernel)) rfl
theorem gs_B_B_about : Cond.selects "BindingBench" yB_about yB_about ∈ gw_l := gw_in (List.mem_of_getElem? (i := 457) (by decide +kernel)) rfl
theorem gc_B_about : Cond.code yB_about cB_about 4 (some .int) ∈ gw_l := gw_in (List.mem_of_getElem? (i := 458) (by decide +kernel)) rfl
theorem gm_B101 : Cond.methodLink "BindingBench" 101 yS_depth ∈ gw_l := gw_in (List.mem_of_getElem? (i := 459) (by decide +kernel)) rfl
theorem gm_B104 : Cond.methodLink "BindingBench" 104 yT_kind ∈ gw_l := gw_in (List.mem_of_getElem? (i := 460) (by decide +kernel)) rfl
theorem gi_T_kind : Cond.instanceMethod yT_kind ∈ gw_l := gw_in (List.mem_of_getElem? (i := 461) (by decide +kernel)) rfl
theorem gs_T_T_kind : Cond.selects "BindingBench$Term" yT_kind yT_kind ∈ gw_l := gw_in (List.mem_of_getElem? (i := 462) (by decide +kernel)) rfl
theorem gc_T_kind : Cond.code yT_kind cT_kind 1 (some .int) ∈ gw_l := gw_in (List.mem_of_getElem? (i := 463) (by decide +kernel)) rfl
theorem gm_B107 : Cond.methodLink "BindingBench" 107 yT_differentFree ∈ gw_l := gw_in (List.mem_of_getElem? (i := 464) (by decide +kernel)) rfl
theorem gi_T_differentFree : Cond.instanceMethod yT_differentFree ∈ gw_l := gw_in (List.mem_of_getElem? (i := 465) (by decide +kernel)) rfl
theorem gs_T_T_differentFree : Cond.selects "BindingBench$Term" yT_differentFree yT_differentFree ∈ gw_l := gw_in (List.mem_of_getElem? (i := 466) (by decide +kernel)) rfl
theorem gc_T_differentFree : Cond.code yT_differentFree cT_differentFree 7 (some .int) ∈ gw_l := gw_in (List.mem_of_getElem? (i := 467) (by decide +kernel)) rfl
theorem gm_T45 : Cond.methodLink "BindingBench$Term" 45 yJ_bitCount ∈ gw_l := gw_in (List.mem_of_getElem? (i := 468) (by decide +kernel)) rfl
theorem gt_J_bitCount : Cond.static yJ_bitCount ∈ gw_l := gw_in (List.mem_of_getElem? (i := 469) (by decide +kernel)) rfl
theorem gc_J_bitCount : Cond.code yJ_bitCount cJ_bitCount 2 (some .int) ∈ gw_l := gw_in (List.mem_of_getElem? (i := 470) (by decide +kernel)) rfl
theorem gq_Jl314 : Cond.constantLong "java/lang/Long" 314 6148914691236517205 ∈ gw_l := gw_in (List.mem_of_getElem? (i := 471) (by decide +kernel)) rfl
theorem gq_Jl316 : Cond.constantLong "java/lang/Long" 316 3689348814741910323 ∈ gw_l := gw_in (List.mem_of_getElem? (i := 472) (by decide +kernel)) rfl
theorem gq_Jl318 : Cond.constantLong "java/lang/Long" 318 1085102592571150095 ∈ gw_l := gw_in (List.mem_of_getElem? (i := 473) (by decide +kernel)) rfl
theorem gm_B110 : Cond.methodLink "BindingBench" 110 yT_redexes ∈ gw_l := gw_in (List.mem_of_getElem? (i := 474) (by decide +kernel)) rfl
theorem gi_T_redexes : Cond.instanceMethod yT_redexes ∈ gw_l := gw_in (List.mem_of_getElem? (i := 475) (by decide +kernel)) rfl
theorem gs_T_T_redexes : Cond.selects "BindingBench$Term" yT_redexes yT_redexes ∈ gw_l := gw_in (List.mem_of_getElem? (i := 476) (by decide +kernel)) rfl
theorem gc_T_redexes : Cond.code yT_redexes cT_redexes 3 (some .int) ∈ gw_l := gw_in (List.mem_of_getElem? (i := 477) (by decide +kernel)) rfl
theorem gm_L116 : Cond.methodLink "BindingBenchLaw" 116 yL_has ∈ gw_l := gw_in (List.mem_of_getElem? (i := 479) (by decide +kernel)) rfl
theorem gt_L_has : Cond.static yL_has ∈ gw_l := gw_in (List.mem_of_getElem? (i := 480) (by decide +kernel)) rfl
theorem gc_L_has : Cond.codeWith yL_has cL_has 5 (some .int) [(0, 10, 13, 13)] ∈ gw_l := gw_in (List.mem_of_getElem? (i := 481) (by decide +kernel)) rfl
theorem gm_L56 : Cond.methodLink "BindingBenchLaw" 56 yB_has ∈ gw_l := gw_in (List.mem_of_getElem? (i := 482) (by decide +kernel)) rfl
theorem gi_B_has : Cond.instanceMethod yB_has ∈ gw_l := gw_in (List.mem_of_getElem? (i := 483) (by decide +kernel)) rfl
theorem gs_B_B_has : Cond.selects "BindingBench" yB_has yB_has ∈ gw_l := gw_in (List.mem_of_getElem? (i := 484) (by decide +kernel)) rfl
theorem gc_B_has : Cond.code yB_has cB_has 4 (some .int) ∈ gw_l := gw_in (List.mem_of_getElem? (i := 485) (by decide +kernel)) rfl
theorem gm_B115 : Cond.methodLink "BindingBench" 115 yT_places ∈ gw_l := gw_in (List.mem_of_getElem? (i := 486) (by decide +kernel)) rfl
theorem gi_T_places : Cond.instanceMethod yT_places ∈ gw_l := gw_in (List.mem_of_getElem? (i := 487) (by decide +kernel)) rfl
theorem gs_T_T_places : Cond.selects "BindingBench$Term" yT_places yT_places ∈ gw_l := gw_in (List.mem_of_getElem? (i := 488) (by decide +kernel)) rfl
theorem gc_T_places : Cond.code yT_places cT_places 4 (some .int) ∈ gw_l := gw_in (List.mem_of_getElem? (i := 489) (by decide +kernel)) rfl
theorem gm_L119 : Cond.methodLink "BindingBenchLaw" 119 yL_write ∈ gw_l := gw_in (List.mem_of_getElem? (i := 490) (by decide +kernel)) rfl
theorem gt_L_write : Cond.static yL_write ∈ gw_l := gw_in (List.mem_of_getElem? (i := 491) (by decide +kernel)) rfl
theorem gc_L_write : Cond.codeWith yL_write cL_write 4 (some .int) [(0, 9, 12, 13)] ∈ gw_l := gw_in (List.mem_of_getElem? (i := 492) (by decide +kernel)) rfl
theorem gm_L59 : Cond.methodLink "BindingBenchLaw" 59 yB_write ∈ gw_l := gw_in (List.mem_of_getElem? (i := 493) (by decide +kernel)) rfl
theorem gi_B_write : Cond.instanceMethod yB_write ∈ gw_l := gw_in (List.mem_of_getElem? (i := 494) (by decide +kernel)) rfl
theorem gs_B_B_write : Cond.selects "BindingBench" yB_write yB_write ∈ gw_l := gw_in (List.mem_of_getElem? (i := 495) (by decide +kernel)) rfl
theorem gc_B_write : Cond.code yB_write cB_write 2 (some .int) ∈ gw_l := gw_in (List.mem_of_getElem? (i := 496) (by decide +kernel)) rfl
theorem gm_B118 : Cond.methodLink "BindingBench" 118 yX_show ∈ gw_l := gw_in (List.mem_of_getElem? (i := 497) (by decide +kernel)) rfl
theorem gi_X_show : Cond.instanceMethod yX_show ∈ gw_l := gw_in (List.mem_of_getElem? (i := 498) (by decide +kernel)) rfl
theorem gs_X_X_show : Cond.selects "BindingBench$Text" yX_show yX_show ∈ gw_l := gw_in (List.mem_of_getElem? (i := 499) (by decide +kernel)) rfl
theorem gc_X_show : Cond.code yX_show cX_show 5 (some .int) ∈ gw_l := gw_in (List.mem_of_getElem? (i := 500) (by decide +kernel)) rfl
theorem gm_X28 : Cond.methodLink "BindingBench$Text" 28 yW_start ∈ gw_l := gw_in (List.mem_of_getElem? (i := 501) (by decide +kernel)) rfl
theorem gm_X43 : Cond.methodLink "BindingBench$Text" 43 yW_pass ∈ gw_l := gw_in (List.mem_of_getElem? (i := 502) (by decide +kernel)) rfl
theorem gm_X47 : Cond.methodLink "BindingBench$Text" 47 yX_add ∈ gw_l := gw_in (List.mem_of_getElem? (i := 503) (by decide +kernel)) rfl
theorem gi_X_add : Cond.instanceMethod yX_add ∈ gw_l := gw_in (List.mem_of_getElem? (i := 505) (by decide +kernel)) rfl
theorem gc_X_add : Cond.code yX_add cX_add 4 none ∈ gw_l := gw_in (List.mem_of_getElem? (i := 506) (by decide +kernel)) rfl
theorem gm_X54 : Cond.methodLink "BindingBench$Text" 54 yJ_copyOf ∈ gw_l := gw_in (List.mem_of_getElem? (i := 507) (by decide +kernel)) rfl
theorem gt_J_copyOf : Cond.static yJ_copyOf ∈ gw_l := gw_in (List.mem_of_getElem? (i := 508) (by decide +kernel)) rfl
theorem gc_J_copyOf : Cond.code yJ_copyOf cJ_copyOf 3 (some (.array .byte)) ∈ gw_l := gw_in (List.mem_of_getElem? (i := 509) (by decide +kernel)) rfl
theorem gm_Ja310 : Cond.methodLink "java/util/Arrays" 310 (⟨"[B", "clone", "()Ljava/lang/Object;"⟩ : MethodName) ∈ gw_l := gw_in (List.mem_of_getElem? (i := 510) (by decide +kernel)) rfl
theorem gv_O_clone : Cond.native (⟨"java/lang/Object", "clone", "()Ljava/lang/Object;"⟩ : MethodName) ∈ gw_l := gw_in (List.mem_of_getElem? (i := 512) (by decide +kernel)) rfl
theorem gi_O_clone : Cond.instanceMethod (⟨"java/lang/Object", "clone", "()Ljava/lang/Object;"⟩ : MethodName) ∈ gw_l := gw_in (List.mem_of_getElem? (i := 513) (by decide +kernel)) rfl
theorem gs_Z_Z_clone : Cond.selects "[B" (⟨"[B", "clone", "()Ljava/lang/Object;"⟩ : MethodName) (⟨"java/lang/Object", "clone", "()Ljava/lang/Object;"⟩ : MethodName) ∈ gw_l := gw_in (List.mem_of_getElem? (i := 514) (by decide +kernel)) rfl
theorem gk_Ja311 : Cond.classLink "java/util/Arrays" 311 "[B" ∈ gw_l := gw_in (List.mem_of_getElem? (i := 516) (by decide +kernel)) rfl
theorem gm_Ja304 : Cond.methodLink "java/util/Arrays" 304 (⟨"java/lang/Math", "min", "(II)I"⟩ : MethodName) ∈ gw_l := gw_in (List.mem_of_getElem? (i := 517) (by decide +kernel)) rfl
theorem gm_Ja150 : Cond.methodLink "java/util/Arrays" 150 arraycopyName ∈ gw_l := gw_in (List.mem_of_getElem? (i := 518) (by decide +kernel)) rfl
theorem gm_X51 : Cond.methodLink "BindingBench$Text" 51 yX_addLeaf ∈ gw_l := gw_in (List.mem_of_getElem? (i := 519) (by decide +kernel)) rfl
theorem gi_X_addLeaf : Cond.instanceMethod yX_addLeaf ∈ gw_l := gw_in (List.mem_of_getElem? (i := 521) (by decide +kernel)) rfl
theorem gc_X_addLeaf : Cond.code yX_addLeaf cX_addLeaf 2 none ∈ gw_l := gw_in (List.mem_of_getElem? (i := 522) (by decide +kernel)) rfl
theorem gm_L123 : Cond.methodLink "BindingBenchLaw" 123 yL_out ∈ gw_l := gw_in (List.mem_of_getElem? (i := 523) (by decide +kernel)) rfl
theorem gt_L_out : Cond.static yL_out ∈ gw_l := gw_in (List.mem_of_getElem? (i := 524) (by decide +kernel)) rfl
theorem gc_L_out : Cond.codeWith yL_out cL_out 4 (some .int) [(0, 9, 12, 66)] ∈ gw_l := gw_in (List.mem_of_getElem? (i := 525) (by decide +kernel)) rfl
theorem gk_L66 : Cond.classLink "BindingBenchLaw" 66 "java/lang/IndexOutOfBoundsException" ∈ gw_l := gw_in (List.mem_of_getElem? (i := 526) (by decide +kernel)) rfl
theorem gm_L63 : Cond.methodLink "BindingBenchLaw" 63 yB_out ∈ gw_l := gw_in (List.mem_of_getElem? (i := 527) (by decide +kernel)) rfl
theorem gi_B_out : Cond.instanceMethod yB_out ∈ gw_l := gw_in (List.mem_of_getElem? (i := 528) (by decide +kernel)) rfl
theorem gs_B_B_out : Cond.selects "BindingBench" yB_out yB_out ∈ gw_l := gw_in (List.mem_of_getElem? (i := 529) (by decide +kernel)) rfl
theorem gc_B_out : Cond.code yB_out cB_out 2 (some .int) ∈ gw_l := gw_in (List.mem_of_getElem? (i := 530) (by decide +kernel)) rfl
theorem gk_B124 : Cond.classLink "BindingBench" 124 "java/lang/IndexOutOfBoundsException" ∈ gw_l := gw_in (List.mem_of_getElem? (i := 531) (by decide +kernel)) rfl
theorem gn_Jx : Cond.instantiable "java/lang/IndexOutOfBoundsException" 6 ∈ gw_l := gw_in (List.mem_of_getElem? (i := 532) (by decide +kernel)) rfl
theorem gs_Jx_Jt_fillInStackTrace_534 : Cond.selects "java/lang/IndexOutOfBoundsException" (⟨"java/lang/Throwable", "fillInStackTrace", "(I)Ljava/lang/Throwable;"⟩ : MethodName) (⟨"java/lang/Throwable", "fillInStackTrace", "(I)Ljava/lang/Throwable;"⟩ : MethodName) ∈ gw_l := gw_in (List.mem_of_getElem? (i := 534) (by decide +kernel)) rfl
theorem gl_Jx_cause : Cond.lays "java/lang/IndexOutOfBoundsException" "java/lang/Throwable" "cause" "Ljava/lang/Throwable;" ∈ gw_l := gw_in (List.mem_of_getElem? (i := 535) (by decide +kernel)) rfl
theorem gl_Jx_stackTrace : Cond.lays "java/lang/IndexOutOfBoundsException" "java/lang/Throwable" "stackTrace" "[Ljava/lang/StackTraceElement;" ∈ gw_l := gw_in (List.mem_of_getElem? (i := 536) (by decide +kernel)) rfl
theorem gl_Jx_suppressedExceptions : Cond.lays "java/lang/IndexOutOfBoundsException" "java/lang/Throwable" "suppressedExceptions" "Ljava/util/List;" ∈ gw_l := gw_in (List.mem_of_getElem? (i := 537) (by decide +kernel)) rfl
theorem gl_Jx_detailMessage : Cond.lays "java/lang/IndexOutOfBoundsException" "java/lang/Throwable" "detailMessage" "Ljava/lang/String;" ∈ gw_l := gw_in (List.mem_of_getElem? (i := 538) (by decide +kernel)) rfl
theorem gl_Jx_backtrace : Cond.lays "java/lang/IndexOutOfBoundsException" "java/lang/Throwable" "backtrace" "Ljava/lang/Object;" ∈ gw_l := gw_in (List.mem_of_getElem? (i := 539) (by decide +kernel)) rfl
theorem gm_B128 : Cond.methodLink "BindingBench" 128 (⟨"java/lang/IndexOutOfBoundsException", "<init>", "(Ljava/lang/String;)V"⟩ : MethodName) ∈ gw_l := gw_in (List.mem_of_getElem? (i := 541) (by decide +kernel)) rfl
theorem gi_Jx_initS : Cond.instanceMethod (⟨"java/lang/IndexOutOfBoundsException", "<init>", "(Ljava/lang/String;)V"⟩ : MethodName) ∈ gw_l := gw_in (List.mem_of_getElem? (i := 542) (by decide +kernel)) rfl
theorem gc_Jx_initS : Cond.code (⟨"java/lang/IndexOutOfBoundsException", "<init>", "(Ljava/lang/String;)V"⟩ : MethodName) prog_13_method_2_code 2 none ∈ gw_l := gw_in (List.mem_of_getElem? (i := 543) (by decide +kernel)) rfl
theorem gm_Jx7 : Cond.methodLink "java/lang/IndexOutOfBoundsException" 7 (⟨"java/lang/RuntimeException", "<init>", "(Ljava/lang/String;)V"⟩ : MethodName) ∈ gw_l := gw_in (List.mem_of_getElem? (i := 544) (by decide +kernel)) rfl
theorem gl_Jx_depth : Cond.lays "java/lang/IndexOutOfBoundsException" "java/lang/Throwable" "depth" "I" ∈ gw_l := gw_in (List.mem_of_getElem? (i := 545) (by decide +kernel)) rfl
theorem gk_L69 : Cond.classLink "BindingBenchLaw" 69 "BindingBenchModel" ∈ gw_l := gw_in (List.mem_of_getElem? (i := 547) (by decide +kernel)) rfl
theorem gn_M : Cond.instantiable "BindingBenchModel" 15 ∈ gw_l := gw_in (List.mem_of_getElem? (i := 548) (by decide +kernel)) rfl
theorem gm_L71 : Cond.methodLink "BindingBenchLaw" 71 yM_init ∈ gw_l := gw_in (List.mem_of_getElem? (i := 549) (by decide +kernel)) rfl
theorem gi_M_init : Cond.instanceMethod yM_init ∈ gw_l := gw_in (List.mem_of_getElem? (i := 550) (by decide +kernel)) rfl
theorem gc_M_init : Cond.code yM_init cM_init 1 none ∈ gw_l := gw_in (List.mem_of_getElem? (i := 551) (by decide +kernel)) rfl
theorem gm_M1 : Cond.methodLink "BindingBenchModel" 1 objectInit ∈ gw_l := gw_in (List.mem_of_getElem? (i := 552) (by decide +kernel)) rfl
theorem gk_M13 : Cond.classLink "BindingBenchModel" 13 "[[I" ∈ gw_l := gw_in (List.mem_of_getElem? (i := 553) (by decide +kernel)) rfl
theorem gq_M41 : Cond.constant "BindingBenchModel" 41 310000 ∈ gw_l := gw_in (List.mem_of_getElem? (i := 555) (by decide +kernel)) rfl
theorem gm_M61 : Cond.methodLink "BindingBenchModel" 61 yJ_fill ∈ gw_l := gw_in (List.mem_of_getElem? (i := 556) (by decide +kernel)) rfl
theorem gt_J_fill : Cond.static yJ_fill ∈ gw_l := gw_in (List.mem_of_getElem? (i := 557) (by decide +kernel)) rfl
theorem gc_J_fill : Cond.code yJ_fill cJ_fill 4 none ∈ gw_l := gw_in (List.mem_of_getElem? (i := 558) (by decide +kernel)) rfl
theorem gf_M7 : Cond.fieldLink "BindingBenchModel" 7 "BindingBenchModel" "thrown" "I" ∈ gw_l := gw_in (List.mem_of_getElem? (i := 559) (by decide +kernel)) rfl
theorem gf_M15 : Cond.fieldLink "BindingBenchModel" 15 "BindingBenchModel" "register" "[[I" ∈ gw_l := gw_in (List.mem_of_getElem? (i := 560) (by decide +kernel)) rfl
theorem gf_M18 : Cond.fieldLink "BindingBenchModel" 18 "BindingBenchModel" "size" "[I" ∈ gw_l := gw_in (List.mem_of_getElem? (i := 561) (by decide +kernel)) rfl
theorem gf_M22 : Cond.fieldLink "BindingBenchModel" 22 "BindingBenchModel" "made" "[I" ∈ gw_l := gw_in (List.mem_of_getElem? (i := 562) (by decide +kernel)) rfl
theorem gf_M25 : Cond.fieldLink "BindingBenchModel" 25 "BindingBenchModel" "work" "[I" ∈ gw_l := gw_in (List.mem_of_getElem? (i := 563) (by decide +kernel)) rfl
theorem gf_M28 : Cond.fieldLink "BindingBenchModel" 28 "BindingBenchModel" "now" "[I" ∈ gw_l := gw_in (List.mem_of_getElem? (i := 564) (by decide +kernel)) rfl
theorem gf_M31 : Cond.fieldLink "BindingBenchModel" 31 "BindingBenchModel" "madeSize" "I" ∈ gw_l := gw_in (List.mem_of_getElem? (i := 565) (by decide +kernel)) rfl
theorem gf_M34 : Cond.fieldLink "BindingBenchModel" 34 "BindingBenchModel" "nowSize" "I" ∈ gw_l := gw_in (List.mem_of_getElem? (i := 566) (by decide +kernel)) rfl
theorem gf_M37 : Cond.fieldLink "BindingBenchModel" 37 "BindingBenchModel" "beyond" "Z" ∈ gw_l := gw_in (List.mem_of_getElem? (i := 567) (by decide +kernel)) rfl
theorem gf_M42 : Cond.fieldLink "BindingBenchModel" 42 "BindingBenchModel" "out" "[B" ∈ gw_l := gw_in (List.mem_of_getElem? (i := 568) (by decide +kernel)) rfl
theorem gf_M46 : Cond.fieldLink "BindingBenchModel" 46 "BindingBenchModel" "outSize" "I" ∈ gw_l := gw_in (List.mem_of_getElem? (i := 569) (by decide +kernel)) rfl
theorem gf_M49 : Cond.fieldLink "BindingBenchModel" 49 "BindingBenchModel" "open" "[I" ∈ gw_l := gw_in (List.mem_of_getElem? (i := 570) (by decide +kernel)) rfl
theorem gf_M52 : Cond.fieldLink "BindingBenchModel" 52 "BindingBenchModel" "at" "I" ∈ gw_l := gw_in (List.mem_of_getElem? (i := 571) (by decide +kernel)) rfl
theorem gf_M55 : Cond.fieldLink "BindingBenchModel" 55 "BindingBenchModel" "named" "I" ∈ gw_l := gw_in (List.mem_of_getElem? (i := 572) (by decide +kernel)) rfl
theorem gf_M58 : Cond.fieldLink "BindingBenchModel" 58 "BindingBenchModel" "names" "[I" ∈ gw_l := gw_in (List.mem_of_getElem? (i := 573) (by decide +kernel)) rfl
theorem gl_M_thrown : Cond.lays "BindingBenchModel" "BindingBenchModel" "thrown" "I" ∈ gw_l := gw_in (List.mem_of_getElem? (i := 574) (by decide +kernel)) rfl
theorem gl_M_register : Cond.laysFinal "BindingBenchModel" "BindingBenchModel" "register" "[[I" ∈ gw_l := gw_in (List.mem_of_getElem? (i := 576) (by decide +kernel)) rfl
theorem gl_M_size : Cond.laysFinal "BindingBenchModel" "BindingBenchModel" "size" "[I" ∈ gw_l := gw_in (List.mem_of_getElem? (i := 578) (by decide +kernel)) rfl
theorem gl_M_made : Cond.laysFinal "BindingBenchModel" "BindingBenchModel" "made" "[I" ∈ gw_l := gw_in (List.mem_of_getElem? (i := 580) (by decide +kernel)) rfl
theorem gl_M_work : Cond.laysFinal "BindingBenchModel" "BindingBenchModel" "work" "[I" ∈ gw_l := gw_in (List.mem_of_getElem? (i := 582) (by decide +kernel)) rfl
theorem gl_M_now : Cond.laysFinal "BindingBenchModel" "BindingBenchModel" "now" "[I" ∈ gw_l := gw_in (List.mem_of_getElem? (i := 584) (by decide +kernel)) rfl
theorem gl_M_madeSize : Cond.lays "BindingBenchModel" "BindingBenchModel" "madeSize" "I" ∈ gw_l := gw_in (List.mem_of_getElem? (i := 586) (by decide +kernel)) rfl
theorem gl_M_nowSize : Cond.lays "BindingBenchModel" "BindingBenchModel" "nowSize" "I" ∈ gw_l := gw_in (List.mem_of_getElem? (i := 588) (by decide +kernel)) rfl
theorem gl_M_beyond : Cond.lays "BindingBenchModel" "BindingBenchModel" "beyond" "Z" ∈ gw_l := gw_in (List.mem_of_getElem? (i := 590) (by decide +kernel)) rfl
theorem gl_M_out : Cond.laysFinal "BindingBenchModel" "BindingBenchModel" "out" "[B" ∈ gw_l := gw_in (List.mem_of_getElem? (i := 592) (by decide +kernel)) rfl
theorem gl_M_outSize : Cond.lays "BindingBenchModel" "BindingBenchModel" "outSize" "I" ∈ gw_l := gw_in (List.mem_of_getElem? (i := 594) (by decide +kernel)) rfl
theorem gl_M_open : Cond.laysFinal "BindingBenchModel" "BindingBenchModel" "open" "[I" ∈ gw_l := gw_in (List.mem_of_getElem? (i := 596) (by decide +kernel)) rfl
theorem gl_M_at : Cond.lays "BindingBenchModel" "BindingBenchModel" "at" "I" ∈ gw_l := gw_in (List.mem_of_getElem? (i := 598) (by decide +kernel)) rfl
theorem gl_M_named : Cond.lays "BindingBenchModel" "BindingBenchModel" "named" "I" ∈ gw_l := gw_in (List.mem_of_getElem? (i := 600) (by decide +kernel)) rfl
theorem gl_M_names : Cond.laysFinal "BindingBenchModel" "BindingBenchModel" "names" "[I" ∈ gw_l := gw_in (List.mem_of_getElem? (i := 602) (by decide +kernel)) rfl
theorem gm_L78 : Cond.methodLink "BindingBenchLaw" 78 yM_thrown ∈ gw_l := gw_in (List.mem_of_getElem? (i := 605) (by decide +kernel)) rfl
theorem gi_M_thrown : Cond.instanceMethod yM_thrown ∈ gw_l := gw_in (List.mem_of_getElem? (i := 606) (by decide +kernel)) rfl
theorem gs_M_M_thrown : Cond.selects "BindingBenchModel" yM_thrown yM_thrown ∈ gw_l := gw_in (List.mem_of_getElem? (i := 607) (by decide +kernel)) rfl
theorem gc_M_thrown : Cond.code yM_thrown cM_thrown 1 (some .int) ∈ gw_l := gw_in (List.mem_of_getElem? (i := 608) (by decide +kernel)) rfl
theorem gm_L77 : Cond.methodLink "BindingBenchLaw" 77 yM_free ∈ gw_l := gw_in (List.mem_of_getElem? (i := 609) (by decide +kernel)) rfl
theorem gi_M_free : Cond.instanceMethod yM_free ∈ gw_l := gw_in (List.mem_of_getElem? (i := 610) (by decide +kernel)) rfl
theorem gs_M_M_free : Cond.selects "BindingBenchModel" yM_free yM_free ∈ gw_l := gw_in (List.mem_of_getElem? (i := 611) (by decide +kernel)) rfl
theorem gc_M_free : Cond.code yM_free cM_free 3 none ∈ gw_l := gw_in (List.mem_of_getElem? (i := 612) (by decide +kernel)) rfl
theorem gm_M100 : Cond.methodLink "BindingBenchModel" 100 yM_none ∈ gw_l := gw_in (List.mem_of_getElem? (i := 613) (by decide +kernel)) rfl
theorem gi_M_none : Cond.instanceMethod yM_none ∈ gw_l := gw_in (List.mem_of_getElem? (i := 615) (by decide +kernel)) rfl
theorem gc_M_none : Cond.code yM_none cM_none 2 (some .boolean) ∈ gw_l := gw_in (List.mem_of_getElem? (i := 616) (by decide +kernel)) rfl
theorem gm_M67 : Cond.methodLink "BindingBenchModel" 67 yM_refuse ∈ gw_l := gw_in (List.mem_of_getElem? (i := 617) (by decide +kernel)) rfl
theorem gi_M_refuse : Cond.instanceMethod yM_refuse ∈ gw_l := gw_in (List.mem_of_getElem? (i := 619) (by decide +kernel)) rfl
theorem gc_M_refuse : Cond.code yM_refuse cM_refuse 3 (some .boolean) ∈ gw_l := gw_in (List.mem_of_getElem? (i := 620) (by decide +kernel)) rfl
theorem gm_M104 : Cond.methodLink "BindingBenchModel" 104 yM_begin ∈ gw_l := gw_in (List.mem_of_getElem? (i := 621) (by decide +kernel)) rfl
theorem gi_M_begin : Cond.instanceMethod yM_begin ∈ gw_l := gw_in (List.mem_of_getElem? (i := 623) (by decide +kernel)) rfl
theorem gc_M_begin : Cond.code yM_begin cM_begin 1 none ∈ gw_l := gw_in (List.mem_of_getElem? (i := 624) (by decide +kernel)) rfl
theorem gm_M71 : Cond.methodLink "BindingBenchModel" 71 yM_add ∈ gw_l := gw_in (List.mem_of_getElem? (i := 625) (by decide +kernel)) rfl
theorem gi_M_add : Cond.instanceMethod yM_add ∈ gw_l := gw_in (List.mem_of_getElem? (i := 627) (by decide +kernel)) rfl
theorem gc_M_add : Cond.code yM_add cM_add 2 none ∈ gw_l := gw_in (List.mem_of_getElem? (i := 628) (by decide +kernel)) rfl
theorem gm_M107 : Cond.methodLink "BindingBenchModel" 107 yM_keep ∈ gw_l := gw_in (List.mem_of_getElem? (i := 629) (by decide +kernel)) rfl
theorem gi_M_keep : Cond.instanceMethod yM_keep ∈ gw_l := gw_in (List.mem_of_getElem? (i := 631) (by decide +kernel)) rfl
theorem gc_M_keep : Cond.code yM_keep cM_keep 2 (some .int) ∈ gw_l := gw_in (List.mem_of_getElem? (i := 632) (by decide +kernel)) rfl
theorem gm_M94 : Cond.methodLink "BindingBenchModel" 94 arraycopyName ∈ gw_l := gw_in (List.mem_of_getElem? (i := 633) (by decide +kernel)) rfl
theorem gm_L85 : Cond.methodLink "BindingBenchLaw" 85 yM_apply ∈ gw_l := gw_in (List.mem_of_getElem? (i := 634) (by decide +kernel)) rfl
theorem gi_M_apply : Cond.instanceMethod yM_apply ∈ gw_l := gw_in (List.mem_of_getElem? (i := 635) (by decide +kernel)) rfl
theorem gs_M_M_apply : Cond.selects "BindingBenchModel" yM_apply yM_apply ∈ gw_l := gw_in (List.mem_of_getElem? (i := 636) (by decide +kernel)) rfl
theorem gc_M_apply : Cond.code yM_apply cM_apply 4 (some .int) ∈ gw_l := gw_in (List.mem_of_getElem? (i := 637) (by decide +kernel)) rfl
theorem gm_M75 : Cond.methodLink "BindingBenchModel" 75 yM_add2 ∈ gw_l := gw_in (List.mem_of_getElem? (i := 638) (by decide +kernel)) rfl
theorem gi_M_add2 : Cond.instanceMethod yM_add2 ∈ gw_l := gw_in (List.mem_of_getElem? (i := 640) (by decide +kernel)) rfl
theorem gc_M_add2 : Cond.code yM_add2 cM_add2 5 none ∈ gw_l := gw_in (List.mem_of_getElem? (i := 641) (by decide +kernel)) rfl
theorem gm_M111 : Cond.methodLink "BindingBenchModel" 111 yM_whole ∈ gw_l := gw_in (List.mem_of_getElem? (i := 642) (by decide +kernel)) rfl
theorem gi_M_whole : Cond.instanceMethod yM_whole ∈ gw_l := gw_in (List.mem_of_getElem? (i := 644) (by decide +kernel)) rfl
theorem gc_M_whole : Cond.code yM_whole cM_whole 1 (some .boolean) ∈ gw_l := gw_in (List.mem_of_getElem? (i := 645) (by decide +kernel)) rfl
theorem gm_M87 : Cond.methodLink "BindingBenchModel" 87 yM_depth ∈ gw_l := gw_in (List.mem_of_getElem? (i := 646) (by decide +kernel)) rfl
theorem gi_M_depth : Cond.instanceMethod yM_depth ∈ gw_l := gw_in (List.mem_of_getElem? (i := 648) (by decide +kernel)) rfl
theorem gc_M_depth : Cond.code yM_depth cM_depth 6 (some .int) ∈ gw_l := gw_in (List.mem_of_getElem? (i := 649) (by decide +kernel)) rfl
theorem gm_M78 : Cond.methodLink "BindingBenchModel" 78 (⟨"java/lang/Math", "max", "(II)I"⟩ : MethodName) ∈ gw_l := gw_in (List.mem_of_getElem? (i := 650) (by decide +kernel)) rfl
theorem gm_M91 : Cond.methodLink "BindingBenchModel" 91 yM_renamed ∈ gw_l := gw_in (List.mem_of_getElem? (i := 651) (by decide +kernel)) rfl
theorem gi_M_renamed : Cond.instanceMethod yM_renamed ∈ gw_l := gw_in (List.mem_of_getElem? (i := 653) (by decide +kernel)) rfl
theorem gc_M_renamed : Cond.code yM_renamed cM_renamed 1 none ∈ gw_l := gw_in (List.mem_of_getElem? (i := 654) (by decide +kernel)) rfl
theorem gm_M84 : Cond.methodLink "BindingBenchModel" 84 yM_rename ∈ gw_l := gw_in (List.mem_of_getElem? (i := 655) (by decide +kernel)) rfl
theorem gi_M_rename : Cond.instanceMethod yM_rename ∈ gw_l := gw_in (List.mem_of_getElem? (i := 657) (by decide +kernel)) rfl
theorem gc_M_rename : Cond.code yM_rename cM_rename 4 none ∈ gw_l := gw_in (List.mem_of_getElem? (i := 658) (by decide +kernel)) rfl
theorem gm_L88 : Cond.methodLink "BindingBenchLaw" 88 yM_bind ∈ gw_l := gw_in (List.mem_of_getElem? (i := 659) (by decide +kernel)) rfl
theorem gi_M_bind : Cond.instanceMethod yM_bind ∈ gw_l := gw_in (List.mem_of_getElem? (i := 660) (by decide +kernel)) rfl
theorem gs_M_M_bind : Cond.selects "BindingBenchModel" yM_bind yM_bind ∈ gw_l := gw_in (List.mem_of_getElem? (i := 661) (by decide +kernel)) rfl
theorem gc_M_bind : Cond.code yM_bind cM_bind 4 (some .int) ∈ gw_l := gw_in (List.mem_of_getElem? (i := 662) (by decide +kernel)) rfl
theorem gm_M115 : Cond.methodLink "BindingBenchModel" 115 yM_add3 ∈ gw_l := gw_in (List.mem_of_getElem? (i := 663) (by decide +kernel)) rfl
theorem gi_M_add3 : Cond.instanceMethod yM_add3 ∈ gw_l := gw_in (List.mem_of_getElem? (i := 665) (by decide +kernel)) rfl
theorem gc_M_add3 : Cond.code yM_add3 cM_add3 9 none ∈ gw_l := gw_in (List.mem_of_getElem? (i := 666) (by decide +kernel)) rfl
theorem gm_L92 : Cond.methodLink "BindingBenchLaw" 92 yM_put ∈ gw_l := gw_in (List.mem_of_getElem? (i := 667) (by decide +kernel)) rfl
theorem gi_M_put : Cond.instanceMethod yM_put ∈ gw_l := gw_in (List.mem_of_getElem? (i := 668) (by decide +kernel)) rfl
theorem gs_M_M_put : Cond.selects "BindingBenchModel" yM_put yM_put ∈ gw_l := gw_in (List.mem_of_getElem? (i := 669) (by decide +kernel)) rfl
theorem gc_M_put : Cond.code yM_put cM_put 5 (some .int) ∈ gw_l := gw_in (List.mem_of_getElem? (i := 670) (by decide +kernel)) rfl
theorem gm_L95 : Cond.methodLink "BindingBenchLaw" 95 yM_open ∈ gw_l := gw_in (List.mem_of_getElem? (i := 671) (by decide +kernel)) rfl
theorem gi_M_open : Cond.instanceMethod yM_open ∈ gw_l := gw_in (List.mem_of_getElem? (i := 672) (by decide +kernel)) rfl
theorem gs_M_M_open : Cond.selects "BindingBenchModel" yM_open yM_open ∈ gw_l := gw_in (List.mem_of_getElem? (i := 673) (by decide +kernel)) rfl
theorem gc_M_open : Cond.code yM_open cM_open 4 (some .int) ∈ gw_l := gw_in (List.mem_of_getElem? (i := 674) (by decide +kernel)) rfl
theorem gm_L99 : Cond.methodLink "BindingBenchLaw" 99 yM_part ∈ gw_l := gw_in (List.mem_of_getElem? (i := 675) (by decide +kernel)) rfl
theorem gi_M_part : Cond.instanceMethod yM_part ∈ gw_l := gw_in (List.mem_of_getElem? (i := 676) (by decide +kernel)) rfl
theorem gs_M_M_part : Cond.selects "BindingBenchModel" yM_part yM_part ∈ gw_l := gw_in (List.mem_of_getElem? (i := 677) (by decide +kernel)) rfl
theorem gc_M_part : Cond.code yM_part cM_part 5 none ∈ gw_l := gw_in (List.mem_of_getElem? (i := 678) (by decide +kernel)) rfl
theorem gm_M118 : Cond.methodLink "BindingBenchModel" 118 yM_end ∈ gw_l := gw_in (List.mem_of_getElem? (i := 679) (by decide +kernel)) rfl
theorem gt_M_end : Cond.static yM_end ∈ gw_l := gw_in (List.mem_of_getElem? (i := 680) (by decide +kernel)) rfl
theorem gc_M_end : Cond.code yM_end cM_end 4 (some .int) ∈ gw_l := gw_in (List.mem_of_getElem? (i := 681) (by decide +kernel)) rfl
theorem gm_L103 : Cond.methodLink "BindingBenchLaw" 103 yM_step ∈ gw_l := gw_in (List.mem_of_getElem? (i := 682) (by decide +kernel)) rfl
theorem gi_M_step : Cond.instanceMethod yM_step ∈ gw_l := gw_in (List.mem_of_getElem? (i := 683) (by decide +kernel)) rfl
theorem gs_M_M_step : Cond.selects "BindingBenchModel" yM_step yM_step ∈ gw_l := gw_in (List.mem_of_getElem? (i := 684) (by decide +kernel)) rfl
theorem gc_M_step : Cond.code yM_step cM_step 4 (some .boolean) ∈ gw_l := gw_in (List.mem_of_getElem? (i := 685) (by decide +kernel)) rfl
theorem gm_M124 : Cond.methodLink "BindingBenchModel" 124 yM_begins ∈ gw_l := gw_in (List.mem_of_getElem? (i := 686) (by decide +kernel)) rfl
theorem gi_M_begins : Cond.instanceMethod yM_begins ∈ gw_l := gw_in (List.mem_of_getElem? (i := 688) (by decide +kernel)) rfl
theorem gc_M_begins : Cond.code yM_begins cM_begins 2 none ∈ gw_l := gw_in (List.mem_of_getElem? (i := 689) (by decide +kernel)) rfl
theorem gm_M127 : Cond.methodLink "BindingBenchModel" 127 yM_first ∈ gw_l := gw_in (List.mem_of_getElem? (i := 690) (by decide +kernel)) rfl
theorem gi_M_first : Cond.instanceMethod yM_first ∈ gw_l := gw_in (List.mem_of_getElem? (i := 692) (by decide +kernel)) rfl
theorem gc_M_first : Cond.code yM_first cM_first 2 (some .int) ∈ gw_l := gw_in (List.mem_of_getElem? (i := 693) (by decide +kernel)) rfl
theorem gm_M121 : Cond.methodLink "BindingBenchModel" 121 yM_isStep ∈ gw_l := gw_in (List.mem_of_getElem? (i := 694) (by decide +kernel)) rfl
theorem gi_M_isStep : Cond.instanceMethod yM_isStep ∈ gw_l := gw_in (List.mem_of_getElem? (i := 696) (by decide +kernel)) rfl
theorem gc_M_isStep : Cond.code yM_isStep cM_isStep 2 (some .boolean) ∈ gw_l := gw_in (List.mem_of_getElem? (i := 697) (by decide +kernel)) rfl
theorem gm_M131 : Cond.methodLink "BindingBenchModel" 131 yM_stepped ∈ gw_l := gw_in (List.mem_of_getElem? (i := 698) (by decide +kernel)) rfl
theorem gi_M_stepped : Cond.instanceMethod yM_stepped ∈ gw_l := gw_in (List.mem_of_getElem? (i := 700) (by decide +kernel)) rfl
theorem gc_M_stepped : Cond.code yM_stepped cM_stepped 5 (some .boolean) ∈ gw_l := gw_in (List.mem_of_getElem? (i := 701) (by decide +kernel)) rfl
theorem gm_M134 : Cond.methodLink "BindingBenchModel" 134 yM_keepNow ∈ gw_l := gw_in (List.mem_of_getElem? (i := 702) (by decide +kernel)) rfl
theorem gi_M_keepNow : Cond.instanceMethod yM_keepNow ∈ gw_l := gw_in (List.mem_of_getElem? (i := 704) (by decide +kernel)) rfl
theorem gc_M_keepNow : Cond.code yM_keepNow cM_keepNow 2 none ∈ gw_l := gw_in (List.mem_of_getElem? (i := 705) (by decide +kernel)) rfl
theorem gm_L106 : Cond.methodLink "BindingBenchLaw" 106 yM_head ∈ gw_l := gw_in (List.mem_of_getElem? (i := 706) (by decide +kernel)) rfl
theorem gi_M_head : Cond.instanceMethod yM_head ∈ gw_l := gw_in (List.mem_of_getElem? (i := 707) (by decide +kernel)) rfl
theorem gs_M_M_head : Cond.selects "BindingBenchModel" yM_head yM_head ∈ gw_l := gw_in (List.mem_of_getElem? (i := 708) (by decide +kernel)) rfl
theorem gc_M_head : Cond.code yM_head cM_head 3 (some .int) ∈ gw_l := gw_in (List.mem_of_getElem? (i := 709) (by decide +kernel)) rfl
theorem gm_M140 : Cond.methodLink "BindingBenchModel" 140 yM_all ∈ gw_l := gw_in (List.mem_of_getElem? (i := 710) (by decide +kernel)) rfl
theorem gi_M_all : Cond.instanceMethod yM_all ∈ gw_l := gw_in (List.mem_of_getElem? (i := 712) (by decide +kernel)) rfl
theorem gc_M_all : Cond.code yM_all cM_all 6 (some .int) ∈ gw_l := gw_in (List.mem_of_getElem? (i := 713) (by decide +kernel)) rfl
theorem gm_M137 : Cond.methodLink "BindingBenchModel" 137 yM_atHead ∈ gw_l := gw_in (List.mem_of_getElem? (i := 714) (by decide +kernel)) rfl
theorem gi_M_atHead : Cond.instanceMethod yM_atHead ∈ gw_l := gw_in (List.mem_of_getElem? (i := 716) (by decide +kernel)) rfl
theorem gc_M_atHead : Cond.code yM_atHead cM_atHead 2 (some .int) ∈ gw_l := gw_in (List.mem_of_getElem? (i := 717) (by decide +kernel)) rfl
theorem gm_L109 : Cond.methodLink "BindingBenchLaw" 109 yM_normal ∈ gw_l := gw_in (List.mem_of_getElem? (i := 718) (by decide +kernel)) rfl
theorem gi_M_normal : Cond.instanceMethod yM_normal ∈ gw_l := gw_in (List.mem_of_getElem? (i := 719) (by decide +kernel)) rfl
theorem gs_M_M_normal : Cond.selects "BindingBenchModel" yM_normal yM_normal ∈ gw_l := gw_in (List.mem_of_getElem? (i := 720) (by decide +kernel)) rfl
theorem gc_M_normal : Cond.code yM_normal cM_normal 3 (some .int) ∈ gw_l := gw_in (List.mem_of_getElem? (i := 721) (by decide +kernel)) rfl
theorem gm_L112 : Cond.methodLink "BindingBenchLaw" 112 yM_same ∈ gw_l := gw_in (List.mem_of_getElem? (i := 722) (by decide +kernel)) rfl
theorem gi_M_same : Cond.instanceMethod yM_same ∈ gw_l := gw_in (List.mem_of_getElem? (i := 723) (by decide +kernel)) rfl
theorem gs_M_M_same : Cond.selects "BindingBenchModel" yM_same yM_same ∈ gw_l := gw_in (List.mem_of_getElem? (i := 724) (by decide +kernel)) rfl
theorem gc_M_same : Cond.code yM_same cM_same 4 (some .boolean) ∈ gw_l := gw_in (List.mem_of_getElem? (i := 725) (by decide +kernel)) rfl
theorem gm_L115 : Cond.methodLink "BindingBenchLaw" 115 yM_about ∈ gw_l := gw_in (List.mem_of_getElem? (i := 726) (by decide +kernel)) rfl
theorem gi_M_about : Cond.instanceMethod yM_about ∈ gw_l := gw_in (List.mem_of_getElem? (i := 727) (by decide +kernel)) rfl
theorem gs_M_M_about : Cond.selects "BindingBenchModel" yM_about yM_about ∈ gw_l := gw_in (List.mem_of_getElem? (i := 728) (by decide +kernel)) rfl
theorem gc_M_about : Cond.code yM_about cM_about 5 (some .int) ∈ gw_l := gw_in (List.mem_of_getElem? (i := 729) (by decide +kernel)) rfl
theorem gm_M144 : Cond.methodLink "BindingBenchModel" 144 yM_places ∈ gw_l := gw_in (List.mem_of_getElem? (i := 730) (by decide +kernel)) rfl
theorem gi_M_places : Cond.instanceMethod yM_places ∈ gw_l := gw_in (List.mem_of_getElem? (i := 732) (by decide +kernel)) rfl
theorem gc_M_places : Cond.code yM_places cM_places 5 (some .int) ∈ gw_l := gw_in (List.mem_of_getElem? (i := 733) (by decide +kernel)) rfl
theorem gm_L118 : Cond.methodLink "BindingBenchLaw" 118 yM_has ∈ gw_l := gw_in (List.mem_of_getElem? (i := 734) (by decide +kernel)) rfl
theorem gi_M_has : Cond.instanceMethod yM_has ∈ gw_l := gw_in (List.mem_of_getElem? (i := 735) (by decide +kernel)) rfl
theorem gs_M_M_has : Cond.selects "BindingBenchModel" yM_has yM_has ∈ gw_l := gw_in (List.mem_of_getElem? (i := 736) (by decide +kernel)) rfl
theorem gc_M_has : Cond.code yM_has cM_has 3 (some .int) ∈ gw_l := gw_in (List.mem_of_getElem? (i := 737) (by decide +kernel)) rfl
theorem gm_L122 : Cond.methodLink "BindingBenchLaw" 122 yM_write ∈ gw_l := gw_in (List.mem_of_getElem? (i := 738) (by decide +kernel)) rfl
theorem gi_M_write : Cond.instanceMethod yM_write ∈ gw_l := gw_in (List.mem_of_getElem? (i := 739) (by decide +kernel)) rfl
theorem gs_M_M_write : Cond.selects "BindingBenchModel" yM_write yM_write ∈ gw_l := gw_in (List.mem_of_getElem? (i := 740) (by decide +kernel)) rfl
theorem gc_M_write : Cond.code yM_write cM_write 2 (some .int) ∈ gw_l := gw_in (List.mem_of_getElem? (i := 741) (by decide +kernel)) rfl
theorem gm_M150 : Cond.methodLink "BindingBenchModel" 150 yM_written ∈ gw_l := gw_in (List.mem_of_getElem? (i := 742) (by decide +kernel)) rfl
theorem gi_M_written : Cond.instanceMethod yM_written ∈ gw_l := gw_in (List.mem_of_getElem? (i := 744) (by decide +kernel)) rfl
theorem gc_M_written : Cond.code yM_written cM_written 7 (some .int) ∈ gw_l := gw_in (List.mem_of_getElem? (i := 745) (by decide +kernel)) rfl
theorem gm_M147 : Cond.methodLink "BindingBenchModel" 147 yM_say ∈ gw_l := gw_in (List.mem_of_getElem? (i := 746) (by decide +kernel)) rfl
theorem gi_M_say : Cond.instanceMethod yM_say ∈ gw_l := gw_in (List.mem_of_getElem? (i := 748) (by decide +kernel)) rfl
theorem gc_M_say : Cond.code yM_say cM_say 2 none ∈ gw_l := gw_in (List.mem_of_getElem? (i := 749) (by decide +kernel)) rfl
theorem gm_L125 : Cond.methodLink "BindingBenchLaw" 125 yM_out ∈ gw_l := gw_in (List.mem_of_getElem? (i := 750) (by decide +kernel)) rfl
theorem gi_M_out : Cond.instanceMethod yM_out ∈ gw_l := gw_in (List.mem_of_getElem? (i := 751) (by decide +kernel)) rfl
theorem gs_M_M_out : Cond.selects "BindingBenchModel" yM_out yM_out ∈ gw_l := gw_in (List.mem_of_getElem? (i := 752) (by decide +kernel)) rfl
theorem gc_M_out : Cond.code yM_out cM_out 2 (some .int) ∈ gw_l := gw_in (List.mem_of_getElem? (i := 753) (by decide +kernel)) rfl
theorem ga_long : Cond.arrayClass .long ∈ gw_l := gw_in (List.mem_of_getElem? (i := 754) (by decide +kernel)) rfl
theorem gs_B_B_register : Cond.selects "BindingBench" yB_register yB_register ∈ gw_l := gw_sel (q := (yB_register, 3)) (by decide +kernel) rfl
theorem gs_S_S_checked : Cond.selects "BindingBench$Workshop" yS_checked yS_checked ∈ gw_l := gw_sel (q := (yS_checked, 5)) (by decide +kernel) rfl
theorem gs_S_S_isTooDeep : Cond.selects "BindingBench$Workshop" yS_isTooDeep yS_isTooDeep ∈ gw_l := gw_sel (q := (yS_isTooDeep, 5)) (by decide +kernel) rfl
theorem gs_T_T_reserve : Cond.selects "BindingBench$Term" yT_reserve yT_reserve ∈ gw_l := gw_sel (q := (yT_reserve, 2)) (by decide +kernel) rfl
theorem gs_S_S_addFilled : Cond.selects "BindingBench$Workshop" yS_addFilled yS_addFilled ∈ gw_l := gw_sel (q := (yS_addFilled, 5)) (by decide +kernel) rfl
theorem gs_S_S_addRaised : Cond.selects "BindingBench$Workshop" yS_addRaised yS_addRaised ∈ gw_l := gw_sel (q := (yS_addRaised, 5)) (by decide +kernel) rfl
theorem gs_T_T_isRedex : Cond.selects "BindingBench$Term" yT_isRedex yT_isRedex ∈ gw_l := gw_sel (q := (yT_isRedex, 2)) (by decide +kernel) rfl
theorem gs_X_X_add : Cond.selects "BindingBench$Text" yX_add yX_add ∈ gw_l := gw_sel (q := (yX_add, 3)) (by decide +kernel) rfl
theorem gs_X_X_addLeaf : Cond.selects "BindingBench$Text" yX_addLeaf yX_addLeaf ∈ gw_l := gw_sel (q := (yX_addLeaf, 3)) (by decide +kernel) rfl
theorem gs_M_M_none : Cond.selects "BindingBenchModel" yM_none yM_none ∈ gw_l := gw_sel (q := (yM_none, 15)) (by decide +kernel) rfl
theorem gs_M_M_refuse : Cond.selects "BindingBenchModel" yM_refuse yM_refuse ∈ gw_l := gw_sel (q := (yM_refuse, 15)) (by decide +kernel) rfl
theorem gs_M_M_begin : Cond.selects "BindingBenchModel" yM_begin yM_begin ∈ gw_l := gw_sel (q := (yM_begin, 15)) (by decide +kernel) rfl
theorem gs_M_M_add : Cond.selects "BindingBenchModel" yM_add yM_add ∈ gw_l := gw_sel (q := (yM_add, 15)) (by decide +kernel) rfl
theorem gs_M_M_keep : Cond.selects "BindingBenchModel" yM_keep yM_keep ∈ gw_l := gw_sel (q := (yM_keep, 15)) (by decide +kernel) rfl
theorem gs_M_M_add2 : Cond.selects "BindingBenchModel" yM_add2 yM_add2 ∈ gw_l := gw_sel (q := (yM_add2, 15)) (by decide +kernel) rfl
theorem gs_M_M_whole : Cond.selects "BindingBenchModel" yM_whole yM_whole ∈ gw_l := gw_sel (q := (yM_whole, 15)) (by decide +kernel) rfl
theorem gs_M_M_depth : Cond.selects "BindingBenchModel" yM_depth yM_depth ∈ gw_l := gw_sel (q := (yM_depth, 15)) (by decide +kernel) rfl
theorem gs_M_M_renamed : Cond.selects "BindingBenchModel" yM_renamed yM_renamed ∈ gw_l := gw_sel (q := (yM_renamed, 15)) (by decide +kernel) rfl
theorem gs_M_M_rename : Cond.selects "BindingBenchModel" yM_rename yM_rename ∈ gw_l := gw_sel (q := (yM_rename, 15)) (by decide +kernel) rfl
theorem gs_M_M_add3 : Cond.selects "BindingBenchModel" yM_add3 yM_add3 ∈ gw_l := gw_sel (q := (yM_add3, 15)) (by decide +kernel) rfl
theorem gs_M_M_begins : Cond.selects "BindingBenchModel" yM_begins yM_begins ∈ gw_l := gw_sel (q := (yM_begins, 15)) (by decide +kernel) rfl
theorem gs_M_M_first : Cond.selects "BindingBenchModel" yM_first yM_first ∈ gw_l := gw_sel (q := (yM_first, 15)) (by decide +kernel) rfl
theorem gs_M_M_isStep : Cond.selects "BindingBenchModel" yM_isStep yM_isStep ∈ gw_l := gw_sel (q := (yM_isStep, 15)) (by decide +kernel) rfl
theorem gs_M_M_stepped : Cond.selects "BindingBenchModel" yM_stepped yM_stepped ∈ gw_l := gw_sel (q := (yM_stepped, 15)) (by decide +kernel) rfl
theorem gs_M_M_keepNow : Cond.selects "BindingBenchModel" yM_keepNow yM_keepNow ∈ gw_l := gw_sel (q := (yM_keepNow, 15)) (by decide +kernel) rfl
theorem gs_M_M_all : Cond.selects "BindingBenchModel" yM_all yM_all ∈ gw_l := gw_sel (q := (yM_all, 15)) (by decide +kernel) rfl
theorem gs_M_M_atHead : Cond.selects "BindingBenchModel" yM_atHead yM_atHead ∈ gw_l := gw_sel (q := (yM_atHead, 15)) (by decide +kernel) rfl
theorem gs_M_M_places : Cond.selects "BindingBenchModel" yM_places yM_places ∈ gw_l := gw_sel (q := (yM_places, 15)) (by decide +kernel) rfl
theorem gs_M_M_written : Cond.selects "BindingBenchModel" yM_written yM_written ∈ gw_l := gw_sel (q := (yM_written, 15)) (by decide +kernel) rfl
theorem gs_M_M_say : Cond.selects "BindingBenchModel" yM_say yM_say ∈ gw_l := gw_sel (q := (yM_say, 15)) (by decide +kernel) rfl
theorem gu_T : ∀ w ∈ u_ws nm_T tf_T 2, w ∈ gw_l := by
  show ∀ w ∈ [Cond.lays "BindingBench$Term" "BindingBench$Term" "cells" "[I", Cond.lays "BindingBench$Term" "BindingBench$Term" "size" "I"], w ∈ gw_l
  simp only [List.forall_mem_cons]
  exact ⟨gl_T_cells, gl_T_size, fun _ h => nomatch h⟩
theorem gu_X : ∀ w ∈ u_ws nm_X tf_X 3, w ∈ gw_l := by
  show ∀ w ∈ [Cond.lays "BindingBench$Text" "BindingBench$Text" "bytes" "[B", Cond.lays "BindingBench$Text" "BindingBench$Text" "length" "I", Cond.laysFinal "BindingBench$Text" "BindingBench$Text" "brackets" "LBindingBench$Walk;"], w ∈ gw_l
  simp only [List.forall_mem_cons]
  exact ⟨gl_X_bytes, gl_X_length, gl_X_brackets, fun _ h => nomatch h⟩
theorem gu_W : ∀ w ∈ u_ws nm_W tf_W 5, w ∈ gw_l := by
  show ∀ w ∈ [Cond.laysFinal "BindingBench$Walk" "BindingBench$Walk" "forApplied" "I", Cond.laysFinal "BindingBench$Walk" "BindingBench$Walk" "forFunction" "I", Cond.laysFinal "BindingBench$Walk" "BindingBench$Walk" "waiting" "[I", Cond.lays "BindingBench$Walk" "BindingBench$Walk" "height" "I", Cond.lays "BindingBench$Walk" "BindingBench$Walk" "count" "I"], w ∈ gw_l
  simp only [List.forall_mem_cons]
  exact ⟨gl_W_forApplied, gl_W_forFunction, gl_W_waiting, gl_W_height, gl_W_count, fun _ h => nomatch h⟩
theorem gu_S : ∀ w ∈ u_ws nm_S tf_S 5, w ∈ gw_l := by
  show ∀ w ∈ [Cond.lays "BindingBench$Workshop" "BindingBench$Workshop" "made" "LBindingBench$Term;", Cond.lays "BindingBench$Workshop" "BindingBench$Workshop" "spare" "LBindingBench$Term;", Cond.laysFinal "BindingBench$Workshop" "BindingBench$Workshop" "levels" "LBindingBench$Walk;", Cond.laysFinal "BindingBench$Workshop" "BindingBench$Workshop" "binders" "LBindingBench$Walk;", Cond.laysFinal "BindingBench$Workshop" "BindingBench$Workshop" "innerBinders" "LBindingBench$Walk;"], w ∈ gw_l
  simp only [List.forall_mem_cons]
  exact ⟨gl_S_made, gl_S_spare, gl_S_levels, gl_S_binders, gl_S_innerBinders, fun _ h => nomatch h⟩
theorem gu_B : ∀ w ∈ u_ws nm_B tf_B 3, w ∈ gw_l := by
  show ∀ w ∈ [Cond.laysFinal "BindingBench" "BindingBench" "registers" "[LBindingBench$Term;", Cond.laysFinal "BindingBench" "BindingBench" "workshop" "LBindingBench$Workshop;", Cond.laysFinal "BindingBench" "BindingBench" "text" "LBindingBench$Text;"], w ∈ gw_l
  simp only [List.forall_mem_cons]
  exact ⟨gl_B_registers, gl_B_workshop, gl_B_text, fun _ h => nomatch h⟩
theorem gu_M : ∀ w ∈ u_ws nm_M tf_M 15, w ∈ gw_l := by
  show ∀ w ∈ [Cond.lays "BindingBenchModel" "BindingBenchModel" "thrown" "I", Cond.laysFinal "BindingBenchModel" "BindingBenchModel" "register" "[[I", Cond.laysFinal "BindingBenchModel" "BindingBenchModel" "size" "[I", Cond.laysFinal "BindingBenchModel" "BindingBenchModel" "made" "[I", Cond.laysFinal "BindingBenchModel" "BindingBenchModel" "work" "[I", Cond.laysFinal "BindingBenchModel" "BindingBenchModel" "now" "[I", Cond.lays "BindingBenchModel" "BindingBenchModel" "madeSize" "I", Cond.lays "BindingBenchModel" "BindingBenchModel" "nowSize" "I", Cond.lays "BindingBenchModel" "BindingBenchModel" "beyond" "Z", Cond.laysFinal "BindingBenchModel" "BindingBenchModel" "out" "[B", Cond.lays "BindingBenchModel" "BindingBenchModel" "outSize" "I", Cond.laysFinal "BindingBenchModel" "BindingBenchModel" "open" "[I", Cond.lays "BindingBenchModel" "BindingBenchModel" "at" "I", Cond.lays "BindingBenchModel" "BindingBenchModel" "named" "I", Cond.laysFinal "BindingBenchModel" "BindingBenchModel" "names" "[I"], w ∈ gw_l
  simp only [List.forall_mem_cons]
  exact ⟨gl_M_thrown, gl_M_register, gl_M_size, gl_M_made, gl_M_work, gl_M_now, gl_M_madeSize, gl_M_nowSize, gl_M_beyond, gl_M_out, gl_M_outSize, gl_M_open, gl_M_at, gl_M_named, gl_M_names, fun _ h => nomatch h⟩
