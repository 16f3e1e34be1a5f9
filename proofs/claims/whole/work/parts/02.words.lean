/-! one list of words for all methods; calls of methods that change nothing -/
def zT : List Cond := lw_tbl.filter goodWord
theorem zT_all : ∀ w ∈ zT, w ∈ zT ∧ ((w.onTables && w.keeps) = true ∨ ∃ ty, w = .arrayClass ty) := fun _ h => ⟨h, good_of_word (List.mem_filter.mp h).2⟩
theorem zT_mem {w : Cond} (h : w ∈ lw_tbl) (hg : goodWord w = true) : w ∈ zT := List.mem_filter.mpr ⟨h, hg⟩
theorem zG0 {y : MethodName} {bytes : ByteArray} {maxL : Nat} {ret : Option FieldType} (w4 : Cond.code y bytes maxL ret ∈ zT) : GoodIn zT (Cond.code y bytes maxL ret :: zT) := by
  intro w hw
  rcases List.mem_cons.mp hw with rfl | hw
  · exact zT_all _ w4
  · exact zT_all _ hw
/-- words that live on by warmth alone (nest mates' links, abstract methods, casts) -/
def zNest : Cond → Bool
  | .fieldLinkNest .. => true
  | .methodLinkNest .. => true
  | .declares _ => true
  | .castable .. => true
  | _ => false
def zN (U : State) : Prop := ∀ w, w ∈ lw_tbl → zNest w = true → va_Nw w U
theorem zN_of {args : Array Value} {s : State} (h : ∀ w ∈ lw_tbl, w.before args s = true) : zN s := by
  intro w hw hn
  refine va_Nw.of ?_ (h w hw)
  cases w <;> first | rfl | exact absurd hn Bool.false_ne_true
theorem zN_warm {s U : State} (hW : s.WarmedH U.vm) (h : zN s) : zN U := by
  intro w hw hn
  have h1 := h w hw hn
  cases w <;> first | exact va_Nw.warmF hW h1 | exact va_Nw.warmM hW h1 | exact va_Nw.warmD hW h1 | exact va_Nw.warmC hW h1 | exact absurd hn Bool.false_ne_true
theorem zN_same {u U : State} (hv : u.vm = U.vm) (h : zN u) : zN U := by
  intro w hw hn
  refine va_Nw.same ?_ hv (h w hw hn)
  cases w <;> first | rfl | exact absurd hn Bool.false_ne_true
theorem mi_L : Cond.initialized R_L ∈ zT := zT_mem (List.mem_append_right _ (List.mem_append_left _ (List.mem_of_getElem? (i := 0) rfl))) rfl
theorem mi_D : Cond.initialized R_D ∈ zT := zT_mem (List.mem_append_right _ (List.mem_append_left _ (List.mem_of_getElem? (i := 1) rfl))) rfl
theorem mi_G : Cond.initialized R_G ∈ zT := zT_mem (List.mem_append_right _ (List.mem_append_left _ (List.mem_of_getElem? (i := 2) rfl))) rfl
theorem mi_T : Cond.initialized R_T ∈ zT := zT_mem (List.mem_append_right _ (List.mem_append_left _ (List.mem_of_getElem? (i := 3) rfl))) rfl
theorem mi_M : Cond.initialized R_M ∈ zT := zT_mem (List.mem_append_right _ (List.mem_append_left _ (List.mem_of_getElem? (i := 4) rfl))) rfl
theorem mi_S : Cond.initialized R_S ∈ zT := zT_mem (List.mem_append_right _ (List.mem_append_left _ (List.mem_of_getElem? (i := 5) rfl))) rfl
theorem mi_F : Cond.initialized R_F ∈ zT := zT_mem (List.mem_append_right _ (List.mem_append_left _ (List.mem_of_getElem? (i := 6) rfl))) rfl
theorem mi_J : Cond.initialized R_J ∈ zT := zT_mem (List.mem_append_right _ (List.mem_append_left _ (List.mem_of_getElem? (i := 7) rfl))) rfl
theorem mi_A : Cond.initialized R_A ∈ zT := zT_mem (List.mem_append_right _ (List.mem_append_left _ (List.mem_of_getElem? (i := 8) rfl))) rfl
theorem mi_O : Cond.initialized R_O ∈ zT := zT_mem (List.mem_append_right _ (List.mem_append_left _ (List.mem_of_getElem? (i := 9) rfl))) rfl
theorem mi_U : Cond.initialized R_U ∈ zT := zT_mem (List.mem_append_right _ (List.mem_append_left _ (List.mem_of_getElem? (i := 10) rfl))) rfl
theorem mi_Y : Cond.initialized R_Y ∈ zT := zT_mem (List.mem_append_right _ (List.mem_append_left _ (List.mem_of_getElem? (i := 11) rfl))) rfl
theorem ml_L_7 : Cond.classLink R_L 7 R_D ∈ zT := zT_mem (List.mem_append_right _ (List.mem_append_left _ (List.mem_of_getElem? (i := 12) rfl))) rfl
theorem mt_D : Cond.instantiable R_D 10 ∈ zT := zT_mem (List.mem_append_right _ (List.mem_append_left _ (List.mem_of_getElem? (i := 13) rfl))) rfl
theorem mk_L_9 : Cond.methodLink R_L 9 y_D_init ∈ zT := zT_mem (List.mem_append_right _ (List.mem_append_left _ (List.mem_of_getElem? (i := 14) rfl))) rfl
theorem mo_D_init : Cond.instanceMethod y_D_init ∈ zT := zT_mem (List.mem_append_right _ (List.mem_append_left _ (List.mem_of_getElem? (i := 15) rfl))) rfl
theorem mc_D_init : Cond.code y_D_init c_D_init 1 none ∈ zT := zT_mem (List.mem_append_right _ (List.mem_append_left _ (List.mem_of_getElem? (i := 16) rfl))) rfl
theorem mk_D_1 : Cond.methodLink R_D 1 y_B_init ∈ zT := zT_mem (List.mem_append_right _ (List.mem_append_left _ (List.mem_of_getElem? (i := 17) rfl))) rfl
theorem mo_B_init : Cond.instanceMethod y_B_init ∈ zT := zT_mem (List.mem_append_right _ (List.mem_append_left _ (List.mem_of_getElem? (i := 18) rfl))) rfl
theorem mc_B_init : Cond.code y_B_init c_B_init 1 none ∈ zT := zT_mem (List.mem_append_right _ (List.mem_append_left _ (List.mem_of_getElem? (i := 19) rfl))) rfl
theorem ml_D_9 : Cond.classLink R_D 9 R_S ∈ zT := zT_mem (List.mem_append_right _ (List.mem_append_left _ (List.mem_of_getElem? (i := 20) rfl))) rfl
theorem mA_S : Cond.arrayOver (.object R_S) ∈ lw_tbl := List.mem_append_right _ (List.mem_append_left _ (List.mem_of_getElem? (i := 21) rfl))
theorem ml_D_23 : Cond.classLink R_D 23 R_F ∈ zT := zT_mem (List.mem_append_right _ (List.mem_append_left _ (List.mem_of_getElem? (i := 22) rfl))) rfl
theorem mA_F : Cond.arrayOver (.object R_F) ∈ lw_tbl := List.mem_append_right _ (List.mem_append_left _ (List.mem_of_getElem? (i := 23) rfl))
theorem ml_D_32 : Cond.classLink R_D 32 R_G ∈ zT := zT_mem (List.mem_append_right _ (List.mem_append_left _ (List.mem_of_getElem? (i := 24) rfl))) rfl
theorem mt_G : Cond.instantiable R_G 1 ∈ zT := zT_mem (List.mem_append_right _ (List.mem_append_left _ (List.mem_of_getElem? (i := 25) rfl))) rfl
theorem mk_D_34 : Cond.methodLinkNest R_D 34 y_G_init "SigmaDesk" ∈ lw_tbl := List.mem_append_right _ (List.mem_append_left _ (List.mem_of_getElem? (i := 26) rfl))
theorem mo_G_init : Cond.instanceMethod y_G_init ∈ zT := zT_mem (List.mem_append_right _ (List.mem_append_left _ (List.mem_of_getElem? (i := 27) rfl))) rfl
theorem mc_G_init : Cond.code y_G_init c_G_init 1 none ∈ zT := zT_mem (List.mem_append_right _ (List.mem_append_left _ (List.mem_of_getElem? (i := 28) rfl))) rfl
theorem mk_G_3 : Cond.methodLink R_G 3 y_B_init ∈ zT := zT_mem (List.mem_append_right _ (List.mem_append_left _ (List.mem_of_getElem? (i := 29) rfl))) rfl
theorem mf_G_9 : Cond.fieldLink R_G 9 "SigmaDesk$Drawing" "state" "I" ∈ zT := zT_mem (List.mem_append_right _ (List.mem_append_left _ (List.mem_of_getElem? (i := 30) rfl))) rfl
theorem my_G_state : Cond.lays R_G R_G "state" "I" ∈ zT := zT_mem (List.mem_append_right _ (List.mem_append_left _ (List.mem_of_getElem? (i := 31) rfl))) rfl
theorem ml_D_39 : Cond.classLink R_D 39 R_T ∈ zT := zT_mem (List.mem_append_right _ (List.mem_append_left _ (List.mem_of_getElem? (i := 34) rfl))) rfl
theorem mt_T : Cond.instantiable R_T 1 ∈ zT := zT_mem (List.mem_append_right _ (List.mem_append_left _ (List.mem_of_getElem? (i := 35) rfl))) rfl
theorem mk_D_41 : Cond.methodLink R_D 41 y_T_init ∈ zT := zT_mem (List.mem_append_right _ (List.mem_append_left _ (List.mem_of_getElem? (i := 36) rfl))) rfl
theorem mo_T_init : Cond.instanceMethod y_T_init ∈ zT := zT_mem (List.mem_append_right _ (List.mem_append_left _ (List.mem_of_getElem? (i := 37) rfl))) rfl
theorem mc_T_init : Cond.code y_T_init c_T_init 1 none ∈ zT := zT_mem (List.mem_append_right _ (List.mem_append_left _ (List.mem_of_getElem? (i := 38) rfl))) rfl
theorem mk_T_3 : Cond.methodLink R_T 3 y_B_init ∈ zT := zT_mem (List.mem_append_right _ (List.mem_append_left _ (List.mem_of_getElem? (i := 39) rfl))) rfl
theorem mf_T_9 : Cond.fieldLink R_T 9 "SigmaDesk$Transcript" "parts" "[I" ∈ zT := zT_mem (List.mem_append_right _ (List.mem_append_left _ (List.mem_of_getElem? (i := 40) rfl))) rfl
theorem my_T_parts : Cond.laysFinal R_T R_T "parts" "[I" ∈ zT := zT_mem (List.mem_append_right _ (List.mem_append_left _ (List.mem_of_getElem? (i := 41) rfl))) rfl
theorem ma_int : Cond.arrayClass .int ∈ zT := zT_mem (List.mem_append_right _ (List.mem_append_left _ (List.mem_of_getElem? (i := 44) rfl))) rfl
theorem mf_D_11 : Cond.fieldLink R_D 11 "SigmaDesk" "stack" "[LSigmaDesk$Statement;" ∈ zT := zT_mem (List.mem_append_right _ (List.mem_append_left _ (List.mem_of_getElem? (i := 45) rfl))) rfl
theorem mf_D_15 : Cond.fieldLink R_D 15 "SigmaDesk" "height" "I" ∈ zT := zT_mem (List.mem_append_right _ (List.mem_append_left _ (List.mem_of_getElem? (i := 46) rfl))) rfl
theorem mf_D_19 : Cond.fieldLink R_D 19 "SigmaDesk" "tree" "LSigmaDesk$Statement;" ∈ zT := zT_mem (List.mem_append_right _ (List.mem_append_left _ (List.mem_of_getElem? (i := 47) rfl))) rfl
theorem mf_D_25 : Cond.fieldLink R_D 25 "SigmaDesk" "leaves" "[LSigmaDesk$Leaf;" ∈ zT := zT_mem (List.mem_append_right _ (List.mem_append_left _ (List.mem_of_getElem? (i := 48) rfl))) rfl
theorem mf_D_29 : Cond.fieldLink R_D 29 "SigmaDesk" "leafCount" "I" ∈ zT := zT_mem (List.mem_append_right _ (List.mem_append_left _ (List.mem_of_getElem? (i := 49) rfl))) rfl
theorem mf_D_35 : Cond.fieldLink R_D 35 "SigmaDesk" "drawing" "LSigmaDesk$Drawing;" ∈ zT := zT_mem (List.mem_append_right _ (List.mem_append_left _ (List.mem_of_getElem? (i := 50) rfl))) rfl
theorem mf_D_42 : Cond.fieldLink R_D 42 "SigmaDesk" "present" "LSigmaDesk$Transcript;" ∈ zT := zT_mem (List.mem_append_right _ (List.mem_append_left _ (List.mem_of_getElem? (i := 51) rfl))) rfl
theorem mf_D_46 : Cond.fieldLink R_D 46 "SigmaDesk" "kept" "LSigmaDesk$Transcript;" ∈ zT := zT_mem (List.mem_append_right _ (List.mem_append_left _ (List.mem_of_getElem? (i := 52) rfl))) rfl
theorem mf_D_49 : Cond.fieldLink R_D 49 "SigmaDesk" "isKept" "Z" ∈ zT := zT_mem (List.mem_append_right _ (List.mem_append_left _ (List.mem_of_getElem? (i := 53) rfl))) rfl
theorem mf_D_53 : Cond.fieldLink R_D 53 "SigmaDesk" "canRespond" "Z" ∈ zT := zT_mem (List.mem_append_right _ (List.mem_append_left _ (List.mem_of_getElem? (i := 54) rfl))) rfl
theorem my_D_stack : Cond.laysFinal R_D R_D "stack" "[LSigmaDesk$Statement;" ∈ zT := zT_mem (List.mem_append_right _ (List.mem_append_left _ (List.mem_of_getElem? (i := 55) rfl))) rfl
theorem my_D_height : Cond.lays R_D R_D "height" "I" ∈ zT := zT_mem (List.mem_append_right _ (List.mem_append_left _ (List.mem_of_getElem? (i := 57) rfl))) rfl
theorem my_D_tree : Cond.lays R_D R_D "tree" "LSigmaDesk$Statement;" ∈ zT := zT_mem (List.mem_append_right _ (List.mem_append_left _ (List.mem_of_getElem? (i := 59) rfl))) rfl
theorem my_D_leaves : Cond.laysFinal R_D R_D "leaves" "[LSigmaDesk$Leaf;" ∈ zT := zT_mem (List.mem_append_right _ (List.mem_append_left _ (List.mem_of_getElem? (i := 61) rfl))) rfl
theorem my_D_leafCount : Cond.lays R_D R_D "leafCount" "I" ∈ zT := zT_mem (List.mem_append_right _ (List.mem_append_left _ (List.mem_of_getElem? (i := 63) rfl))) rfl
theorem my_D_drawing : Cond.laysFinal R_D R_D "drawing" "LSigmaDesk$Drawing;" ∈ zT := zT_mem (List.mem_append_right _ (List.mem_append_left _ (List.mem_of_getElem? (i := 65) rfl))) rfl
theorem my_D_present : Cond.laysFinal R_D R_D "present" "LSigmaDesk$Transcript;" ∈ zT := zT_mem (List.mem_append_right _ (List.mem_append_left _ (List.mem_of_getElem? (i := 67) rfl))) rfl
theorem my_D_kept : Cond.laysFinal R_D R_D "kept" "LSigmaDesk$Transcript;" ∈ zT := zT_mem (List.mem_append_right _ (List.mem_append_left _ (List.mem_of_getElem? (i := 69) rfl))) rfl
theorem my_D_isKept : Cond.lays R_D R_D "isKept" "Z" ∈ zT := zT_mem (List.mem_append_right _ (List.mem_append_left _ (List.mem_of_getElem? (i := 71) rfl))) rfl
theorem my_D_canRespond : Cond.lays R_D R_D "canRespond" "Z" ∈ zT := zT_mem (List.mem_append_right _ (List.mem_append_left _ (List.mem_of_getElem? (i := 73) rfl))) rfl
theorem mk_L_13 : Cond.methodLink R_L 13 y_D_power ∈ zT := zT_mem (List.mem_append_right _ (List.mem_append_left _ (List.mem_of_getElem? (i := 76) rfl))) rfl
theorem mo_D_power : Cond.instanceMethod y_D_power ∈ zT := zT_mem (List.mem_append_right _ (List.mem_append_left _ (List.mem_of_getElem? (i := 77) rfl))) rfl
theorem me_D_D_power_D : Cond.selects R_D y_D_power y_D_power ∈ zT := zT_mem (List.mem_append_right _ (List.mem_append_left _ (List.mem_of_getElem? (i := 78) rfl))) rfl
theorem mc_D_power : Cond.code y_D_power c_D_power 3 (some .int) ∈ zT := zT_mem (List.mem_append_right _ (List.mem_append_left _ (List.mem_of_getElem? (i := 79) rfl))) rfl
theorem mk_D_56 : Cond.methodLink R_D 56 y_D_isElement ∈ zT := zT_mem (List.mem_append_right _ (List.mem_append_left _ (List.mem_of_getElem? (i := 80) rfl))) rfl
theorem ms_D_isElement : Cond.static y_D_isElement ∈ zT := zT_mem (List.mem_append_right _ (List.mem_append_left _ (List.mem_of_getElem? (i := 81) rfl))) rfl
theorem mc_D_isElement : Cond.code y_D_isElement c_D_isElement 1 (some .boolean) ∈ zT := zT_mem (List.mem_append_right _ (List.mem_append_left _ (List.mem_of_getElem? (i := 82) rfl))) rfl
theorem mk_D_63 : Cond.methodLink R_D 63 y_D_raise ∈ zT := zT_mem (List.mem_append_right _ (List.mem_append_left _ (List.mem_of_getElem? (i := 83) rfl))) rfl
theorem ms_D_raise : Cond.static y_D_raise ∈ zT := zT_mem (List.mem_append_right _ (List.mem_append_left _ (List.mem_of_getElem? (i := 84) rfl))) rfl
theorem mc_D_raise : Cond.code y_D_raise c_D_raise 5 (some .int) ∈ zT := zT_mem (List.mem_append_right _ (List.mem_append_left _ (List.mem_of_getElem? (i := 85) rfl))) rfl
theorem mk_D_60 : Cond.methodLink R_D 60 y_D_isExponent ∈ zT := zT_mem (List.mem_append_right _ (List.mem_append_left _ (List.mem_of_getElem? (i := 86) rfl))) rfl
theorem ms_D_isExponent : Cond.static y_D_isExponent ∈ zT := zT_mem (List.mem_append_right _ (List.mem_append_left _ (List.mem_of_getElem? (i := 87) rfl))) rfl
theorem mc_D_isExponent : Cond.code y_D_isExponent c_D_isExponent 1 (some .boolean) ∈ zT := zT_mem (List.mem_append_right _ (List.mem_append_left _ (List.mem_of_getElem? (i := 88) rfl))) rfl
theorem mk_L_18 : Cond.methodLink R_L 18 y_D_leaf ∈ zT := zT_mem (List.mem_append_right _ (List.mem_append_left _ (List.mem_of_getElem? (i := 89) rfl))) rfl
theorem mo_D_leaf : Cond.instanceMethod y_D_leaf ∈ zT := zT_mem (List.mem_append_right _ (List.mem_append_left _ (List.mem_of_getElem? (i := 90) rfl))) rfl
theorem me_D_D_leaf_D : Cond.selects R_D y_D_leaf y_D_leaf ∈ zT := zT_mem (List.mem_append_right _ (List.mem_append_left _ (List.mem_of_getElem? (i := 91) rfl))) rfl
theorem mc_D_leaf : Cond.code y_D_leaf c_D_leaf 3 (some .boolean) ∈ zT := zT_mem (List.mem_append_right _ (List.mem_append_left _ (List.mem_of_getElem? (i := 92) rfl))) rfl
theorem mk_D_67 : Cond.methodLink R_D 67 y_D_isFull ∈ zT := zT_mem (List.mem_append_right _ (List.mem_append_left _ (List.mem_of_getElem? (i := 93) rfl))) rfl
theorem mo_D_isFull : Cond.instanceMethod y_D_isFull ∈ zT := zT_mem (List.mem_append_right _ (List.mem_append_left _ (List.mem_of_getElem? (i := 95) rfl))) rfl
theorem mc_D_isFull : Cond.code y_D_isFull c_D_isFull 1 (some .boolean) ∈ zT := zT_mem (List.mem_append_right _ (List.mem_append_left _ (List.mem_of_getElem? (i := 96) rfl))) rfl
theorem mk_D_71 : Cond.methodLink R_D 71 y_D_isPair ∈ zT := zT_mem (List.mem_append_right _ (List.mem_append_left _ (List.mem_of_getElem? (i := 97) rfl))) rfl
theorem ms_D_isPair : Cond.static y_D_isPair ∈ zT := zT_mem (List.mem_append_right _ (List.mem_append_left _ (List.mem_of_getElem? (i := 98) rfl))) rfl
theorem mc_D_isPair : Cond.code y_D_isPair c_D_isPair 2 (some .boolean) ∈ zT := zT_mem (List.mem_append_right _ (List.mem_append_left _ (List.mem_of_getElem? (i := 99) rfl))) rfl
theorem mt_F : Cond.instantiable R_F 7 ∈ zT := zT_mem (List.mem_append_right _ (List.mem_append_left _ (List.mem_of_getElem? (i := 100) rfl))) rfl
theorem mk_D_75 : Cond.methodLink R_D 75 y_F_init ∈ zT := zT_mem (List.mem_append_right _ (List.mem_append_left _ (List.mem_of_getElem? (i := 101) rfl))) rfl
theorem mo_F_init : Cond.instanceMethod y_F_init ∈ zT := zT_mem (List.mem_append_right _ (List.mem_append_left _ (List.mem_of_getElem? (i := 102) rfl))) rfl
theorem mc_F_init : Cond.code y_F_init c_F_init 3 none ∈ zT := zT_mem (List.mem_append_right _ (List.mem_append_left _ (List.mem_of_getElem? (i := 103) rfl))) rfl
theorem mk_F_3 : Cond.methodLink R_F 3 y_S_init ∈ zT := zT_mem (List.mem_append_right _ (List.mem_append_left _ (List.mem_of_getElem? (i := 104) rfl))) rfl
theorem mo_S_init : Cond.instanceMethod y_S_init ∈ zT := zT_mem (List.mem_append_right _ (List.mem_append_left _ (List.mem_of_getElem? (i := 105) rfl))) rfl
theorem mc_S_init : Cond.code y_S_init c_S_init 2 none ∈ zT := zT_mem (List.mem_append_right _ (List.mem_append_left _ (List.mem_of_getElem? (i := 106) rfl))) rfl
theorem mk_S_1 : Cond.methodLink R_S 1 y_B_init ∈ zT := zT_mem (List.mem_append_right _ (List.mem_append_left _ (List.mem_of_getElem? (i := 107) rfl))) rfl
theorem mf_F_9 : Cond.fieldLink R_F 9 "SigmaDesk$Leaf" "bases" "[I" ∈ zT := zT_mem (List.mem_append_right _ (List.mem_append_left _ (List.mem_of_getElem? (i := 108) rfl))) rfl
theorem mf_F_15 : Cond.fieldLink R_F 15 "SigmaDesk$Leaf" "elements" "[I" ∈ zT := zT_mem (List.mem_append_right _ (List.mem_append_left _ (List.mem_of_getElem? (i := 109) rfl))) rfl
theorem mf_F_30 : Cond.fieldLink R_F 30 "SigmaDesk$Leaf" "number" "I" ∈ zT := zT_mem (List.mem_append_right _ (List.mem_append_left _ (List.mem_of_getElem? (i := 110) rfl))) rfl
theorem mf_F_22 : Cond.fieldLink R_F 22 "SigmaDesk$Leaf" "told" "Z" ∈ zT := zT_mem (List.mem_append_right _ (List.mem_append_left _ (List.mem_of_getElem? (i := 111) rfl))) rfl
theorem mf_F_26 : Cond.fieldLink R_F 26 "SigmaDesk$Leaf" "witness" "I" ∈ zT := zT_mem (List.mem_append_right _ (List.mem_append_left _ (List.mem_of_getElem? (i := 112) rfl))) rfl
theorem mf_D_116 : Cond.fieldLinkNest R_D 116 "SigmaDesk$Leaf" "witness" "I" "SigmaDesk" ∈ lw_tbl := List.mem_append_right _ (List.mem_append_left _ (List.mem_of_getElem? (i := 113) rfl))
theorem mf_F_45 : Cond.fieldLink R_F 45 "SigmaDesk$Leaf" "nonce" "I" ∈ zT := zT_mem (List.mem_append_right _ (List.mem_append_left _ (List.mem_of_getElem? (i := 114) rfl))) rfl
theorem mf_J_1 : Cond.fieldLink R_J 1 "SigmaDesk$Statement" "size" "I" ∈ zT := zT_mem (List.mem_append_right _ (List.mem_append_left _ (List.mem_of_getElem? (i := 115) rfl))) rfl
theorem mf_S_7 : Cond.fieldLink R_S 7 "SigmaDesk$Statement" "size" "I" ∈ zT := zT_mem (List.mem_append_right _ (List.mem_append_left _ (List.mem_of_getElem? (i := 116) rfl))) rfl
theorem mf_D_82 : Cond.fieldLink R_D 82 "SigmaDesk$Statement" "size" "I" ∈ zT := zT_mem (List.mem_append_right _ (List.mem_append_left _ (List.mem_of_getElem? (i := 117) rfl))) rfl
theorem my_F_bases : Cond.laysFinal R_F R_F "bases" "[I" ∈ zT := zT_mem (List.mem_append_right _ (List.mem_append_left _ (List.mem_of_getElem? (i := 118) rfl))) rfl
theorem my_F_elements : Cond.laysFinal R_F R_F "elements" "[I" ∈ zT := zT_mem (List.mem_append_right _ (List.mem_append_left _ (List.mem_of_getElem? (i := 120) rfl))) rfl
theorem my_F_number : Cond.lays R_F R_F "number" "I" ∈ zT := zT_mem (List.mem_append_right _ (List.mem_append_left _ (List.mem_of_getElem? (i := 122) rfl))) rfl
theorem my_F_told : Cond.lays R_F R_F "told" "Z" ∈ zT := zT_mem (List.mem_append_right _ (List.mem_append_left _ (List.mem_of_getElem? (i := 124) rfl))) rfl
theorem my_F_witness : Cond.lays R_F R_F "witness" "I" ∈ zT := zT_mem (List.mem_append_right _ (List.mem_append_left _ (List.mem_of_getElem? (i := 126) rfl))) rfl
theorem my_F_nonce : Cond.lays R_F R_F "nonce" "I" ∈ zT := zT_mem (List.mem_append_right _ (List.mem_append_left _ (List.mem_of_getElem? (i := 128) rfl))) rfl
theorem my_F_size : Cond.laysFinal R_F R_S "size" "I" ∈ zT := zT_mem (List.mem_append_right _ (List.mem_append_left _ (List.mem_of_getElem? (i := 130) rfl))) rfl
theorem mk_D_78 : Cond.methodLink R_D 78 y_D_push ∈ zT := zT_mem (List.mem_append_right _ (List.mem_append_left _ (List.mem_of_getElem? (i := 133) rfl))) rfl
theorem mo_D_push : Cond.instanceMethod y_D_push ∈ zT := zT_mem (List.mem_append_right _ (List.mem_append_left _ (List.mem_of_getElem? (i := 135) rfl))) rfl
theorem mc_D_push : Cond.code y_D_push c_D_push 2 none ∈ zT := zT_mem (List.mem_append_right _ (List.mem_append_left _ (List.mem_of_getElem? (i := 136) rfl))) rfl
theorem mk_L_23 : Cond.methodLink R_L 23 y_D_equal ∈ zT := zT_mem (List.mem_append_right _ (List.mem_append_left _ (List.mem_of_getElem? (i := 137) rfl))) rfl
theorem mo_D_equal : Cond.instanceMethod y_D_equal ∈ zT := zT_mem (List.mem_append_right _ (List.mem_append_left _ (List.mem_of_getElem? (i := 138) rfl))) rfl
theorem me_D_D_equal_D : Cond.selects R_D y_D_equal y_D_equal ∈ zT := zT_mem (List.mem_append_right _ (List.mem_append_left _ (List.mem_of_getElem? (i := 139) rfl))) rfl
theorem mc_D_equal : Cond.code y_D_equal c_D_equal 5 (some .boolean) ∈ zT := zT_mem (List.mem_append_right _ (List.mem_append_left _ (List.mem_of_getElem? (i := 140) rfl))) rfl
theorem mk_L_28 : Cond.methodLink R_L 28 y_D_join ∈ zT := zT_mem (List.mem_append_right _ (List.mem_append_left _ (List.mem_of_getElem? (i := 141) rfl))) rfl
theorem mo_D_join : Cond.instanceMethod y_D_join ∈ zT := zT_mem (List.mem_append_right _ (List.mem_append_left _ (List.mem_of_getElem? (i := 142) rfl))) rfl
theorem me_D_D_join_D : Cond.selects R_D y_D_join y_D_join ∈ zT := zT_mem (List.mem_append_right _ (List.mem_append_left _ (List.mem_of_getElem? (i := 143) rfl))) rfl
theorem mc_D_join : Cond.code y_D_join c_D_join 4 (some .boolean) ∈ zT := zT_mem (List.mem_append_right _ (List.mem_append_left _ (List.mem_of_getElem? (i := 144) rfl))) rfl
theorem mk_D_85 : Cond.methodLink R_D 85 y_D_drop ∈ zT := zT_mem (List.mem_append_right _ (List.mem_append_left _ (List.mem_of_getElem? (i := 145) rfl))) rfl
theorem mo_D_drop : Cond.instanceMethod y_D_drop ∈ zT := zT_mem (List.mem_append_right _ (List.mem_append_left _ (List.mem_of_getElem? (i := 147) rfl))) rfl
theorem mc_D_drop : Cond.code y_D_drop c_D_drop 1 none ∈ zT := zT_mem (List.mem_append_right _ (List.mem_append_left _ (List.mem_of_getElem? (i := 148) rfl))) rfl
theorem ml_D_88 : Cond.classLink R_D 88 R_A ∈ zT := zT_mem (List.mem_append_right _ (List.mem_append_left _ (List.mem_of_getElem? (i := 149) rfl))) rfl
theorem mt_A : Cond.instantiable R_A 3 ∈ zT := zT_mem (List.mem_append_right _ (List.mem_append_left _ (List.mem_of_getElem? (i := 150) rfl))) rfl
theorem mk_D_90 : Cond.methodLink R_D 90 y_A_init ∈ zT := zT_mem (List.mem_append_right _ (List.mem_append_left _ (List.mem_of_getElem? (i := 151) rfl))) rfl
theorem mo_A_init : Cond.instanceMethod y_A_init ∈ zT := zT_mem (List.mem_append_right _ (List.mem_append_left _ (List.mem_of_getElem? (i := 152) rfl))) rfl
theorem mc_A_init : Cond.code y_A_init c_A_init 3 none ∈ zT := zT_mem (List.mem_append_right _ (List.mem_append_left _ (List.mem_of_getElem? (i := 153) rfl))) rfl
theorem mk_A_3 : Cond.methodLink R_A 3 y_J_init ∈ zT := zT_mem (List.mem_append_right _ (List.mem_append_left _ (List.mem_of_getElem? (i := 154) rfl))) rfl
theorem mo_J_init : Cond.instanceMethod y_J_init ∈ zT := zT_mem (List.mem_append_right _ (List.mem_append_left _ (List.mem_of_getElem? (i := 155) rfl))) rfl
theorem mc_J_init : Cond.code y_J_init c_J_init 3 none ∈ zT := zT_mem (List.mem_append_right _ (List.mem_append_left _ (List.mem_of_getElem? (i := 156) rfl))) rfl
theorem mk_J_7 : Cond.methodLink R_J 7 y_S_init ∈ zT := zT_mem (List.mem_append_right _ (List.mem_append_left _ (List.mem_of_getElem? (i := 157) rfl))) rfl
theorem mf_J_11 : Cond.fieldLink R_J 11 "SigmaDesk$Join" "left" "LSigmaDesk$Statement;" ∈ zT := zT_mem (List.mem_append_right _ (List.mem_append_left _ (List.mem_of_getElem? (i := 158) rfl))) rfl
theorem mf_A_9 : Cond.fieldLink R_A 9 "SigmaDesk$And" "left" "LSigmaDesk$Statement;" ∈ zT := zT_mem (List.mem_append_right _ (List.mem_append_left _ (List.mem_of_getElem? (i := 159) rfl))) rfl
theorem mF_A_left : Cond.sameField R_A R_J "left" "LSigmaDesk$Statement;" ∈ zT := zT_mem (List.mem_append_right _ (List.mem_append_left _ (List.mem_of_getElem? (i := 160) rfl))) rfl
theorem mf_O_9 : Cond.fieldLink R_O 9 "SigmaDesk$Or" "left" "LSigmaDesk$Statement;" ∈ zT := zT_mem (List.mem_append_right _ (List.mem_append_left _ (List.mem_of_getElem? (i := 161) rfl))) rfl
theorem mF_O_left : Cond.sameField R_O R_J "left" "LSigmaDesk$Statement;" ∈ zT := zT_mem (List.mem_append_right _ (List.mem_append_left _ (List.mem_of_getElem? (i := 162) rfl))) rfl
theorem mf_J_17 : Cond.fieldLink R_J 17 "SigmaDesk$Join" "right" "LSigmaDesk$Statement;" ∈ zT := zT_mem (List.mem_append_right _ (List.mem_append_left _ (List.mem_of_getElem? (i := 163) rfl))) rfl
theorem mf_O_21 : Cond.fieldLink R_O 21 "SigmaDesk$Or" "right" "LSigmaDesk$Statement;" ∈ zT := zT_mem (List.mem_append_right _ (List.mem_append_left _ (List.mem_of_getElem? (i := 164) rfl))) rfl
theorem mF_O_right : Cond.sameField R_O R_J "right" "LSigmaDesk$Statement;" ∈ zT := zT_mem (List.mem_append_right _ (List.mem_append_left _ (List.mem_of_getElem? (i := 165) rfl))) rfl
theorem mf_A_21 : Cond.fieldLink R_A 21 "SigmaDesk$And" "right" "LSigmaDesk$Statement;" ∈ zT := zT_mem (List.mem_append_right _ (List.mem_append_left _ (List.mem_of_getElem? (i := 166) rfl))) rfl
theorem mF_A_right : Cond.sameField R_A R_J "right" "LSigmaDesk$Statement;" ∈ zT := zT_mem (List.mem_append_right _ (List.mem_append_left _ (List.mem_of_getElem? (i := 167) rfl))) rfl
theorem my_A_left : Cond.laysFinal R_A R_J "left" "LSigmaDesk$Statement;" ∈ zT := zT_mem (List.mem_append_right _ (List.mem_append_left _ (List.mem_of_getElem? (i := 168) rfl))) rfl
theorem my_A_right : Cond.laysFinal R_A R_J "right" "LSigmaDesk$Statement;" ∈ zT := zT_mem (List.mem_append_right _ (List.mem_append_left _ (List.mem_of_getElem? (i := 170) rfl))) rfl
theorem my_A_size : Cond.laysFinal R_A R_S "size" "I" ∈ zT := zT_mem (List.mem_append_right _ (List.mem_append_left _ (List.mem_of_getElem? (i := 172) rfl))) rfl
theorem ml_D_93 : Cond.classLink R_D 93 R_O ∈ zT := zT_mem (List.mem_append_right _ (List.mem_append_left _ (List.mem_of_getElem? (i := 174) rfl))) rfl
theorem mt_O : Cond.instantiable R_O 5 ∈ zT := zT_mem (List.mem_append_right _ (List.mem_append_left _ (List.mem_of_getElem? (i := 175) rfl))) rfl
theorem mk_D_95 : Cond.methodLink R_D 95 y_O_init ∈ zT := zT_mem (List.mem_append_right _ (List.mem_append_left _ (List.mem_of_getElem? (i := 176) rfl))) rfl
theorem mo_O_init : Cond.instanceMethod y_O_init ∈ zT := zT_mem (List.mem_append_right _ (List.mem_append_left _ (List.mem_of_getElem? (i := 177) rfl))) rfl
theorem mc_O_init : Cond.code y_O_init c_O_init 3 none ∈ zT := zT_mem (List.mem_append_right _ (List.mem_append_left _ (List.mem_of_getElem? (i := 178) rfl))) rfl
theorem mk_O_3 : Cond.methodLink R_O 3 y_J_init ∈ zT := zT_mem (List.mem_append_right _ (List.mem_append_left _ (List.mem_of_getElem? (i := 179) rfl))) rfl
theorem mf_O_24 : Cond.fieldLink R_O 24 "SigmaDesk$Or" "leftIsReal" "Z" ∈ zT := zT_mem (List.mem_append_right _ (List.mem_append_left _ (List.mem_of_getElem? (i := 180) rfl))) rfl
theorem mf_O_34 : Cond.fieldLink R_O 34 "SigmaDesk$Or" "otherChallenge" "I" ∈ zT := zT_mem (List.mem_append_right _ (List.mem_append_left _ (List.mem_of_getElem? (i := 181) rfl))) rfl
theorem my_O_leftIsReal : Cond.lays R_O R_O "leftIsReal" "Z" ∈ zT := zT_mem (List.mem_append_right _ (List.mem_append_left _ (List.mem_of_getElem? (i := 182) rfl))) rfl
theorem my_O_otherChallenge : Cond.lays R_O R_O "otherChallenge" "I" ∈ zT := zT_mem (List.mem_append_right _ (List.mem_append_left _ (List.mem_of_getElem? (i := 184) rfl))) rfl
theorem my_O_left : Cond.laysFinal R_O R_J "left" "LSigmaDesk$Statement;" ∈ zT := zT_mem (List.mem_append_right _ (List.mem_append_left _ (List.mem_of_getElem? (i := 186) rfl))) rfl
theorem my_O_right : Cond.laysFinal R_O R_J "right" "LSigmaDesk$Statement;" ∈ zT := zT_mem (List.mem_append_right _ (List.mem_append_left _ (List.mem_of_getElem? (i := 187) rfl))) rfl
theorem my_O_size : Cond.laysFinal R_O R_S "size" "I" ∈ zT := zT_mem (List.mem_append_right _ (List.mem_append_left _ (List.mem_of_getElem? (i := 188) rfl))) rfl
theorem mk_L_33 : Cond.methodLink R_L 33 y_D_discard ∈ zT := zT_mem (List.mem_append_right _ (List.mem_append_left _ (List.mem_of_getElem? (i := 190) rfl))) rfl
theorem mo_D_discard : Cond.instanceMethod y_D_discard ∈ zT := zT_mem (List.mem_append_right _ (List.mem_append_left _ (List.mem_of_getElem? (i := 191) rfl))) rfl
theorem me_D_D_discard_D : Cond.selects R_D y_D_discard y_D_discard ∈ zT := zT_mem (List.mem_append_right _ (List.mem_append_left _ (List.mem_of_getElem? (i := 192) rfl))) rfl
theorem mc_D_discard : Cond.code y_D_discard c_D_discard 1 (some .boolean) ∈ zT := zT_mem (List.mem_append_right _ (List.mem_append_left _ (List.mem_of_getElem? (i := 193) rfl))) rfl
theorem mk_L_38 : Cond.methodLink R_L 38 y_D_accept ∈ zT := zT_mem (List.mem_append_right _ (List.mem_append_left _ (List.mem_of_getElem? (i := 194) rfl))) rfl
theorem mo_D_accept : Cond.instanceMethod y_D_accept ∈ zT := zT_mem (List.mem_append_right _ (List.mem_append_left _ (List.mem_of_getElem? (i := 195) rfl))) rfl
theorem me_D_D_accept_D : Cond.selects R_D y_D_accept y_D_accept ∈ zT := zT_mem (List.mem_append_right _ (List.mem_append_left _ (List.mem_of_getElem? (i := 196) rfl))) rfl
theorem mc_D_accept : Cond.code y_D_accept c_D_accept 1 (some .int) ∈ zT := zT_mem (List.mem_append_right _ (List.mem_append_left _ (List.mem_of_getElem? (i := 197) rfl))) rfl
theorem mk_D_96 : Cond.methodLink R_D 96 y_S_numberLeaves ∈ zT := zT_mem (List.mem_append_right _ (List.mem_append_left _ (List.mem_of_getElem? (i := 198) rfl))) rfl
theorem md_S_numberLeaves : Cond.declares y_S_numberLeaves ∈ lw_tbl := List.mem_append_right _ (List.mem_append_left _ (List.mem_of_getElem? (i := 199) rfl))
theorem mm_S_S_numberLeaves : Cond.sameMethod R_S R_S "numberLeaves" "([LSigmaDesk$Leaf;I)I" ∈ zT := zT_mem (List.mem_append_right _ (List.mem_append_left _ (List.mem_of_getElem? (i := 200) rfl))) rfl
theorem me_A_S_numberLeaves_J : Cond.selects R_A y_S_numberLeaves y_J_numberLeaves ∈ zT := zT_mem (List.mem_append_right _ (List.mem_append_left _ (List.mem_of_getElem? (i := 201) rfl))) rfl
theorem mo_J_numberLeaves : Cond.instanceMethod y_J_numberLeaves ∈ zT := zT_mem (List.mem_append_right _ (List.mem_append_left _ (List.mem_of_getElem? (i := 202) rfl))) rfl
theorem mc_J_numberLeaves : Cond.code y_J_numberLeaves c_J_numberLeaves 3 (some .int) ∈ zT := zT_mem (List.mem_append_right _ (List.mem_append_left _ (List.mem_of_getElem? (i := 203) rfl))) rfl
theorem mk_J_20 : Cond.methodLink R_J 20 y_S_numberLeaves ∈ zT := zT_mem (List.mem_append_right _ (List.mem_append_left _ (List.mem_of_getElem? (i := 204) rfl))) rfl
theorem mo_F_numberLeaves : Cond.instanceMethod y_F_numberLeaves ∈ zT := zT_mem (List.mem_append_right _ (List.mem_append_left _ (List.mem_of_getElem? (i := 205) rfl))) rfl
theorem mc_F_numberLeaves : Cond.code y_F_numberLeaves c_F_numberLeaves 3 (some .int) ∈ zT := zT_mem (List.mem_append_right _ (List.mem_append_left _ (List.mem_of_getElem? (i := 206) rfl))) rfl
theorem me_F_S_numberLeaves_F : Cond.selects R_F y_S_numberLeaves y_F_numberLeaves ∈ zT := zT_mem (List.mem_append_right _ (List.mem_append_left _ (List.mem_of_getElem? (i := 207) rfl))) rfl
theorem me_O_S_numberLeaves_J : Cond.selects R_O y_S_numberLeaves y_J_numberLeaves ∈ zT := zT_mem (List.mem_append_right _ (List.mem_append_left _ (List.mem_of_getElem? (i := 208) rfl))) rfl
theorem mk_D_100 : Cond.methodLink R_D 100 y_T_clear ∈ zT := zT_mem (List.mem_append_right _ (List.mem_append_left _ (List.mem_of_getElem? (i := 209) rfl))) rfl
theorem mo_T_clear : Cond.instanceMethod y_T_clear ∈ zT := zT_mem (List.mem_append_right _ (List.mem_append_left _ (List.mem_of_getElem? (i := 210) rfl))) rfl
theorem me_T_T_clear_T : Cond.selects R_T y_T_clear y_T_clear ∈ zT := zT_mem (List.mem_append_right _ (List.mem_append_left _ (List.mem_of_getElem? (i := 211) rfl))) rfl
theorem mc_T_clear : Cond.code y_T_clear c_T_clear 1 none ∈ zT := zT_mem (List.mem_append_right _ (List.mem_append_left _ (List.mem_of_getElem? (i := 212) rfl))) rfl
theorem mk_T_15 : Cond.methodLink R_T 15 y_U_fill ∈ zT := zT_mem (List.mem_append_right _ (List.mem_append_left _ (List.mem_of_getElem? (i := 213) rfl))) rfl
theorem ms_U_fill : Cond.static y_U_fill ∈ zT := zT_mem (List.mem_append_right _ (List.mem_append_left _ (List.mem_of_getElem? (i := 214) rfl))) rfl
theorem mc_U_fill : Cond.code y_U_fill c_U_fill 4 none ∈ zT := zT_mem (List.mem_append_right _ (List.mem_append_left _ (List.mem_of_getElem? (i := 215) rfl))) rfl
theorem mk_L_43 : Cond.methodLink R_L 43 y_D_tell ∈ zT := zT_mem (List.mem_append_right _ (List.mem_append_left _ (List.mem_of_getElem? (i := 216) rfl))) rfl
theorem mo_D_tell : Cond.instanceMethod y_D_tell ∈ zT := zT_mem (List.mem_append_right _ (List.mem_append_left _ (List.mem_of_getElem? (i := 217) rfl))) rfl
theorem me_D_D_tell_D : Cond.selects R_D y_D_tell y_D_tell ∈ zT := zT_mem (List.mem_append_right _ (List.mem_append_left _ (List.mem_of_getElem? (i := 218) rfl))) rfl
theorem mc_D_tell : Cond.code y_D_tell c_D_tell 3 (some .boolean) ∈ zT := zT_mem (List.mem_append_right _ (List.mem_append_left _ (List.mem_of_getElem? (i := 219) rfl))) rfl
theorem mk_D_103 : Cond.methodLink R_D 103 y_D_isLeaf ∈ zT := zT_mem (List.mem_append_right _ (List.mem_append_left _ (List.mem_of_getElem? (i := 220) rfl))) rfl
theorem mo_D_isLeaf : Cond.instanceMethod y_D_isLeaf ∈ zT := zT_mem (List.mem_append_right _ (List.mem_append_left _ (List.mem_of_getElem? (i := 222) rfl))) rfl
theorem mc_D_isLeaf : Cond.code y_D_isLeaf c_D_isLeaf 2 (some .boolean) ∈ zT := zT_mem (List.mem_append_right _ (List.mem_append_left _ (List.mem_of_getElem? (i := 223) rfl))) rfl
theorem mk_D_106 : Cond.methodLink R_D 106 y_F_fits ∈ zT := zT_mem (List.mem_append_right _ (List.mem_append_left _ (List.mem_of_getElem? (i := 224) rfl))) rfl
theorem mo_F_fits : Cond.instanceMethod y_F_fits ∈ zT := zT_mem (List.mem_append_right _ (List.mem_append_left _ (List.mem_of_getElem? (i := 225) rfl))) rfl
theorem me_F_F_fits_F : Cond.selects R_F y_F_fits y_F_fits ∈ zT := zT_mem (List.mem_append_right _ (List.mem_append_left _ (List.mem_of_getElem? (i := 226) rfl))) rfl
theorem mc_F_fits : Cond.code y_F_fits c_F_fits 3 (some .boolean) ∈ zT := zT_mem (List.mem_append_right _ (List.mem_append_left _ (List.mem_of_getElem? (i := 227) rfl))) rfl
theorem mk_F_18 : Cond.methodLinkNest R_F 18 y_D_raise "SigmaDesk" ∈ lw_tbl := List.mem_append_right _ (List.mem_append_left _ (List.mem_of_getElem? (i := 228) rfl))
theorem mk_D_109 : Cond.methodLink R_D 109 y_F_learn ∈ zT := zT_mem (List.mem_append_right _ (List.mem_append_left _ (List.mem_of_getElem? (i := 229) rfl))) rfl
theorem mo_F_learn : Cond.instanceMethod y_F_learn ∈ zT := zT_mem (List.mem_append_right _ (List.mem_append_left _ (List.mem_of_getElem? (i := 230) rfl))) rfl
theorem me_F_F_learn_F : Cond.selects R_F y_F_learn y_F_learn ∈ zT := zT_mem (List.mem_append_right _ (List.mem_append_left _ (List.mem_of_getElem? (i := 231) rfl))) rfl
theorem mc_F_learn : Cond.code y_F_learn c_F_learn 2 none ∈ zT := zT_mem (List.mem_append_right _ (List.mem_append_left _ (List.mem_of_getElem? (i := 232) rfl))) rfl
theorem mk_L_47 : Cond.methodLink R_L 47 y_D_witness ∈ zT := zT_mem (List.mem_append_right _ (List.mem_append_left _ (List.mem_of_getElem? (i := 233) rfl))) rfl
theorem mo_D_witness : Cond.instanceMethod y_D_witness ∈ zT := zT_mem (List.mem_append_right _ (List.mem_append_left _ (List.mem_of_getElem? (i := 234) rfl))) rfl
theorem me_D_D_witness_D : Cond.selects R_D y_D_witness y_D_witness ∈ zT := zT_mem (List.mem_append_right _ (List.mem_append_left _ (List.mem_of_getElem? (i := 235) rfl))) rfl
theorem mc_D_witness : Cond.code y_D_witness c_D_witness 2 (some .int) ∈ zT := zT_mem (List.mem_append_right _ (List.mem_append_left _ (List.mem_of_getElem? (i := 236) rfl))) rfl
theorem mk_D_113 : Cond.methodLink R_D 113 y_F_isKnown ∈ zT := zT_mem (List.mem_append_right _ (List.mem_append_left _ (List.mem_of_getElem? (i := 237) rfl))) rfl
theorem mo_F_isKnown : Cond.instanceMethod y_F_isKnown ∈ zT := zT_mem (List.mem_append_right _ (List.mem_append_left _ (List.mem_of_getElem? (i := 238) rfl))) rfl
theorem me_F_F_isKnown_F : Cond.selects R_F y_F_isKnown y_F_isKnown ∈ zT := zT_mem (List.mem_append_right _ (List.mem_append_left _ (List.mem_of_getElem? (i := 239) rfl))) rfl
theorem mc_F_isKnown : Cond.code y_F_isKnown c_F_isKnown 1 (some .boolean) ∈ zT := zT_mem (List.mem_append_right _ (List.mem_append_right _ (List.mem_append_left _ (List.mem_of_getElem? (i := 0) rfl)))) rfl
theorem mk_L_52 : Cond.methodLink R_L 52 y_D_known ∈ zT := zT_mem (List.mem_append_right _ (List.mem_append_right _ (List.mem_append_left _ (List.mem_of_getElem? (i := 1) rfl)))) rfl
theorem mo_D_known : Cond.instanceMethod y_D_known ∈ zT := zT_mem (List.mem_append_right _ (List.mem_append_right _ (List.mem_append_left _ (List.mem_of_getElem? (i := 2) rfl)))) rfl
theorem me_D_D_known_D : Cond.selects R_D y_D_known y_D_known ∈ zT := zT_mem (List.mem_append_right _ (List.mem_append_right _ (List.mem_append_left _ (List.mem_of_getElem? (i := 3) rfl)))) rfl
theorem mc_D_known : Cond.code y_D_known c_D_known 1 (some .boolean) ∈ zT := zT_mem (List.mem_append_right _ (List.mem_append_right _ (List.mem_append_left _ (List.mem_of_getElem? (i := 4) rfl)))) rfl
theorem mk_D_119 : Cond.methodLink R_D 119 y_S_isKnown ∈ zT := zT_mem (List.mem_append_right _ (List.mem_append_right _ (List.mem_append_left _ (List.mem_of_getElem? (i := 5) rfl)))) rfl
theorem md_S_isKnown : Cond.declares y_S_isKnown ∈ lw_tbl := List.mem_append_right _ (List.mem_append_right _ (List.mem_append_left _ (List.mem_of_getElem? (i := 6) rfl)))
theorem mm_S_S_isKnown : Cond.sameMethod R_S R_S "isKnown" "()Z" ∈ zT := zT_mem (List.mem_append_right _ (List.mem_append_right _ (List.mem_append_left _ (List.mem_of_getElem? (i := 7) rfl)))) rfl
theorem me_A_S_isKnown_A : Cond.selects R_A y_S_isKnown y_A_isKnown ∈ zT := zT_mem (List.mem_append_right _ (List.mem_append_right _ (List.mem_append_left _ (List.mem_of_getElem? (i := 8) rfl)))) rfl
theorem mo_A_isKnown : Cond.instanceMethod y_A_isKnown ∈ zT := zT_mem (List.mem_append_right _ (List.mem_append_right _ (List.mem_append_left _ (List.mem_of_getElem? (i := 9) rfl)))) rfl
theorem mc_A_isKnown : Cond.code y_A_isKnown c_A_isKnown 1 (some .boolean) ∈ zT := zT_mem (List.mem_append_right _ (List.mem_append_right _ (List.mem_append_left _ (List.mem_of_getElem? (i := 10) rfl)))) rfl
theorem mk_A_15 : Cond.methodLink R_A 15 y_S_isKnown ∈ zT := zT_mem (List.mem_append_right _ (List.mem_append_right _ (List.mem_append_left _ (List.mem_of_getElem? (i := 11) rfl)))) rfl
theorem mo_O_isKnown : Cond.instanceMethod y_O_isKnown ∈ zT := zT_mem (List.mem_append_right _ (List.mem_append_right _ (List.mem_append_left _ (List.mem_of_getElem? (i := 12) rfl)))) rfl
theorem mc_O_isKnown : Cond.code y_O_isKnown c_O_isKnown 1 (some .boolean) ∈ zT := zT_mem (List.mem_append_right _ (List.mem_append_right _ (List.mem_append_left _ (List.mem_of_getElem? (i := 13) rfl)))) rfl
theorem mk_O_15 : Cond.methodLink R_O 15 y_S_isKnown ∈ zT := zT_mem (List.mem_append_right _ (List.mem_append_right _ (List.mem_append_left _ (List.mem_of_getElem? (i := 14) rfl)))) rfl
theorem me_F_S_isKnown_F : Cond.selects R_F y_S_isKnown y_F_isKnown ∈ zT := zT_mem (List.mem_append_right _ (List.mem_append_right _ (List.mem_append_left _ (List.mem_of_getElem? (i := 15) rfl)))) rfl
theorem me_O_S_isKnown_O : Cond.selects R_O y_S_isKnown y_O_isKnown ∈ zT := zT_mem (List.mem_append_right _ (List.mem_append_right _ (List.mem_append_left _ (List.mem_of_getElem? (i := 16) rfl)))) rfl
theorem mk_L_56 : Cond.methodLink R_L 56 y_D_commit ∈ zT := zT_mem (List.mem_append_right _ (List.mem_append_right _ (List.mem_append_left _ (List.mem_of_getElem? (i := 17) rfl)))) rfl
theorem mo_D_commit : Cond.instanceMethod y_D_commit ∈ zT := zT_mem (List.mem_append_right _ (List.mem_append_right _ (List.mem_append_left _ (List.mem_of_getElem? (i := 18) rfl)))) rfl
theorem me_D_D_commit_D : Cond.selects R_D y_D_commit y_D_commit ∈ zT := zT_mem (List.mem_append_right _ (List.mem_append_right _ (List.mem_append_left _ (List.mem_of_getElem? (i := 19) rfl)))) rfl
theorem mc_D_commit : Cond.code y_D_commit c_D_commit 2 (some .int) ∈ zT := zT_mem (List.mem_append_right _ (List.mem_append_right _ (List.mem_append_left _ (List.mem_of_getElem? (i := 20) rfl)))) rfl
theorem mk_D_120 : Cond.methodLink R_D 120 y_G_start ∈ zT := zT_mem (List.mem_append_right _ (List.mem_append_right _ (List.mem_append_left _ (List.mem_of_getElem? (i := 21) rfl)))) rfl
theorem mo_G_start : Cond.instanceMethod y_G_start ∈ zT := zT_mem (List.mem_append_right _ (List.mem_append_right _ (List.mem_append_left _ (List.mem_of_getElem? (i := 22) rfl)))) rfl
theorem me_G_G_start_G : Cond.selects R_G y_G_start y_G_start ∈ zT := zT_mem (List.mem_append_right _ (List.mem_append_right _ (List.mem_append_left _ (List.mem_of_getElem? (i := 23) rfl)))) rfl
theorem mc_G_start : Cond.code y_G_start c_G_start 2 none ∈ zT := zT_mem (List.mem_append_right _ (List.mem_append_right _ (List.mem_append_left _ (List.mem_of_getElem? (i := 24) rfl)))) rfl
theorem mk_D_123 : Cond.methodLink R_D 123 y_S_commitReal ∈ zT := zT_mem (List.mem_append_right _ (List.mem_append_right _ (List.mem_append_left _ (List.mem_of_getElem? (i := 25) rfl)))) rfl
theorem md_S_commitReal : Cond.declares y_S_commitReal ∈ lw_tbl := List.mem_append_right _ (List.mem_append_right _ (List.mem_append_left _ (List.mem_of_getElem? (i := 26) rfl)))
theorem mm_S_S_commitReal : Cond.sameMethod R_S R_S "commitReal" "(LSigmaDesk$Transcript;LSigmaDesk$Drawing;)V" ∈ zT := zT_mem (List.mem_append_right _ (List.mem_append_right _ (List.mem_append_left _ (List.mem_of_getElem? (i := 27) rfl)))) rfl
theorem me_A_S_commitReal_A : Cond.selects R_A y_S_commitReal y_A_commitReal ∈ zT := zT_mem (List.mem_append_right _ (List.mem_append_right _ (List.mem_append_left _ (List.mem_of_getElem? (i := 28) rfl)))) rfl
theorem mo_A_commitReal : Cond.instanceMethod y_A_commitReal ∈ zT := zT_mem (List.mem_append_right _ (List.mem_append_right _ (List.mem_append_left _ (List.mem_of_getElem? (i := 29) rfl)))) rfl
theorem mc_A_commitReal : Cond.code y_A_commitReal c_A_commitReal 3 none ∈ zT := zT_mem (List.mem_append_right _ (List.mem_append_right _ (List.mem_append_left _ (List.mem_of_getElem? (i := 30) rfl)))) rfl
theorem mk_A_24 : Cond.methodLink R_A 24 y_S_commitReal ∈ zT := zT_mem (List.mem_append_right _ (List.mem_append_right _ (List.mem_append_left _ (List.mem_of_getElem? (i := 31) rfl)))) rfl
theorem mo_F_commitReal : Cond.instanceMethod y_F_commitReal ∈ zT := zT_mem (List.mem_append_right _ (List.mem_append_right _ (List.mem_append_left _ (List.mem_of_getElem? (i := 32) rfl)))) rfl
theorem mc_F_commitReal : Cond.code y_F_commitReal c_F_commitReal 4 none ∈ zT := zT_mem (List.mem_append_right _ (List.mem_append_right _ (List.mem_append_left _ (List.mem_of_getElem? (i := 33) rfl)))) rfl
theorem mk_F_39 : Cond.methodLink R_F 39 y_G_draw ∈ zT := zT_mem (List.mem_append_right _ (List.mem_append_right _ (List.mem_append_left _ (List.mem_of_getElem? (i := 34) rfl)))) rfl
theorem mo_G_draw : Cond.instanceMethod y_G_draw ∈ zT := zT_mem (List.mem_append_right _ (List.mem_append_right _ (List.mem_append_left _ (List.mem_of_getElem? (i := 35) rfl)))) rfl
theorem me_G_G_draw_G : Cond.selects R_G y_G_draw y_G_draw ∈ zT := zT_mem (List.mem_append_right _ (List.mem_append_right _ (List.mem_append_left _ (List.mem_of_getElem? (i := 36) rfl)))) rfl
theorem mc_G_draw : Cond.code y_G_draw c_G_draw 1 (some .int) ∈ zT := zT_mem (List.mem_append_right _ (List.mem_append_right _ (List.mem_append_left _ (List.mem_of_getElem? (i := 37) rfl)))) rfl
theorem mn_G_15 : Cond.constant R_G 15 (1103515245) ∈ zT := zT_mem (List.mem_append_right _ (List.mem_append_right _ (List.mem_append_left _ (List.mem_of_getElem? (i := 38) rfl)))) rfl
theorem mk_F_48 : Cond.methodLink R_F 48 y_T_set ∈ zT := zT_mem (List.mem_append_right _ (List.mem_append_right _ (List.mem_append_left _ (List.mem_of_getElem? (i := 39) rfl)))) rfl
theorem mo_T_set : Cond.instanceMethod y_T_set ∈ zT := zT_mem (List.mem_append_right _ (List.mem_append_right _ (List.mem_append_left _ (List.mem_of_getElem? (i := 40) rfl)))) rfl
theorem me_T_T_set_T : Cond.selects R_T y_T_set y_T_set ∈ zT := zT_mem (List.mem_append_right _ (List.mem_append_right _ (List.mem_append_left _ (List.mem_of_getElem? (i := 41) rfl)))) rfl
theorem mc_T_set : Cond.code y_T_set c_T_set 4 none ∈ zT := zT_mem (List.mem_append_right _ (List.mem_append_right _ (List.mem_append_left _ (List.mem_of_getElem? (i := 42) rfl)))) rfl
theorem mo_O_commitReal : Cond.instanceMethod y_O_commitReal ∈ zT := zT_mem (List.mem_append_right _ (List.mem_append_right _ (List.mem_append_left _ (List.mem_of_getElem? (i := 43) rfl)))) rfl
theorem mc_O_commitReal : Cond.code y_O_commitReal c_O_commitReal 3 none ∈ zT := zT_mem (List.mem_append_right _ (List.mem_append_right _ (List.mem_append_left _ (List.mem_of_getElem? (i := 44) rfl)))) rfl
theorem mk_O_28 : Cond.methodLink R_O 28 y_G_draw ∈ zT := zT_mem (List.mem_append_right _ (List.mem_append_right _ (List.mem_append_left _ (List.mem_of_getElem? (i := 45) rfl)))) rfl
theorem mk_O_38 : Cond.methodLink R_O 38 y_S_commitReal ∈ zT := zT_mem (List.mem_append_right _ (List.mem_append_right _ (List.mem_append_left _ (List.mem_of_getElem? (i := 46) rfl)))) rfl
theorem mk_O_42 : Cond.methodLink R_O 42 y_S_commitSimulated ∈ zT := zT_mem (List.mem_append_right _ (List.mem_append_right _ (List.mem_append_left _ (List.mem_of_getElem? (i := 47) rfl)))) rfl
theorem md_S_commitSimulated : Cond.declares y_S_commitSimulated ∈ lw_tbl := List.mem_append_right _ (List.mem_append_right _ (List.mem_append_left _ (List.mem_of_getElem? (i := 48) rfl)))
theorem mm_S_S_commitSimulated : Cond.sameMethod R_S R_S "commitSimulated" "(ILSigmaDesk$Transcript;LSigmaDesk$Drawing;)V" ∈ zT := zT_mem (List.mem_append_right _ (List.mem_append_right _ (List.mem_append_left _ (List.mem_of_getElem? (i := 49) rfl)))) rfl
theorem me_A_S_commitSimulated_A : Cond.selects R_A y_S_commitSimulated y_A_commitSimulated ∈ zT := zT_mem (List.mem_append_right _ (List.mem_append_right _ (List.mem_append_left _ (List.mem_of_getElem? (i := 50) rfl)))) rfl
theorem mo_A_commitSimulated : Cond.instanceMethod y_A_commitSimulated ∈ zT := zT_mem (List.mem_append_right _ (List.mem_append_right _ (List.mem_append_left _ (List.mem_of_getElem? (i := 51) rfl)))) rfl
theorem mc_A_commitSimulated : Cond.code y_A_commitSimulated c_A_commitSimulated 4 none ∈ zT := zT_mem (List.mem_append_right _ (List.mem_append_right _ (List.mem_append_left _ (List.mem_of_getElem? (i := 52) rfl)))) rfl
theorem mk_A_28 : Cond.methodLink R_A 28 y_S_commitSimulated ∈ zT := zT_mem (List.mem_append_right _ (List.mem_append_right _ (List.mem_append_left _ (List.mem_of_getElem? (i := 53) rfl)))) rfl
theorem mo_F_commitSimulated : Cond.instanceMethod y_F_commitSimulated ∈ zT := zT_mem (List.mem_append_right _ (List.mem_append_right _ (List.mem_append_left _ (List.mem_of_getElem? (i := 54) rfl)))) rfl
theorem mc_F_commitSimulated : Cond.code y_F_commitSimulated c_F_commitSimulated 7 none ∈ zT := zT_mem (List.mem_append_right _ (List.mem_append_right _ (List.mem_append_left _ (List.mem_of_getElem? (i := 55) rfl)))) rfl
theorem mo_O_commitSimulated : Cond.instanceMethod y_O_commitSimulated ∈ zT := zT_mem (List.mem_append_right _ (List.mem_append_right _ (List.mem_append_left _ (List.mem_of_getElem? (i := 56) rfl)))) rfl
theorem mc_O_commitSimulated : Cond.code y_O_commitSimulated c_O_commitSimulated 5 none ∈ zT := zT_mem (List.mem_append_right _ (List.mem_append_right _ (List.mem_append_left _ (List.mem_of_getElem? (i := 57) rfl)))) rfl
theorem mk_O_46 : Cond.methodLinkNest R_O 46 y_D_minus "SigmaDesk" ∈ lw_tbl := List.mem_append_right _ (List.mem_append_right _ (List.mem_append_left _ (List.mem_of_getElem? (i := 58) rfl)))
theorem ms_D_minus : Cond.static y_D_minus ∈ zT := zT_mem (List.mem_append_right _ (List.mem_append_right _ (List.mem_append_left _ (List.mem_of_getElem? (i := 59) rfl)))) rfl
theorem mc_D_minus : Cond.code y_D_minus c_D_minus 2 (some .int) ∈ zT := zT_mem (List.mem_append_right _ (List.mem_append_right _ (List.mem_append_left _ (List.mem_of_getElem? (i := 60) rfl)))) rfl
theorem me_F_S_commitSimulated_F : Cond.selects R_F y_S_commitSimulated y_F_commitSimulated ∈ zT := zT_mem (List.mem_append_right _ (List.mem_append_right _ (List.mem_append_left _ (List.mem_of_getElem? (i := 61) rfl)))) rfl
theorem me_O_S_commitSimulated_O : Cond.selects R_O y_S_commitSimulated y_O_commitSimulated ∈ zT := zT_mem (List.mem_append_right _ (List.mem_append_right _ (List.mem_append_left _ (List.mem_of_getElem? (i := 62) rfl)))) rfl
theorem me_F_S_commitReal_F : Cond.selects R_F y_S_commitReal y_F_commitReal ∈ zT := zT_mem (List.mem_append_right _ (List.mem_append_right _ (List.mem_append_left _ (List.mem_of_getElem? (i := 63) rfl)))) rfl
theorem me_O_S_commitReal_O : Cond.selects R_O y_S_commitReal y_O_commitReal ∈ zT := zT_mem (List.mem_append_right _ (List.mem_append_right _ (List.mem_append_left _ (List.mem_of_getElem? (i := 64) rfl)))) rfl
theorem mk_L_60 : Cond.methodLink R_L 60 y_D_respond ∈ zT := zT_mem (List.mem_append_right _ (List.mem_append_right _ (List.mem_append_left _ (List.mem_of_getElem? (i := 65) rfl)))) rfl
theorem mo_D_respond : Cond.instanceMethod y_D_respond ∈ zT := zT_mem (List.mem_append_right _ (List.mem_append_right _ (List.mem_append_left _ (List.mem_of_getElem? (i := 66) rfl)))) rfl
theorem me_D_D_respond_D : Cond.selects R_D y_D_respond y_D_respond ∈ zT := zT_mem (List.mem_append_right _ (List.mem_append_right _ (List.mem_append_left _ (List.mem_of_getElem? (i := 67) rfl)))) rfl
theorem mc_D_respond : Cond.code y_D_respond c_D_respond 2 (some .int) ∈ zT := zT_mem (List.mem_append_right _ (List.mem_append_right _ (List.mem_append_left _ (List.mem_of_getElem? (i := 68) rfl)))) rfl
theorem mk_D_127 : Cond.methodLink R_D 127 y_S_respondTo ∈ zT := zT_mem (List.mem_append_right _ (List.mem_append_right _ (List.mem_append_left _ (List.mem_of_getElem? (i := 69) rfl)))) rfl
theorem md_S_respondTo : Cond.declares y_S_respondTo ∈ lw_tbl := List.mem_append_right _ (List.mem_append_right _ (List.mem_append_left _ (List.mem_of_getElem? (i := 70) rfl)))
theorem mm_S_S_respondTo : Cond.sameMethod R_S R_S "respondTo" "(ILSigmaDesk$Transcript;)V" ∈ zT := zT_mem (List.mem_append_right _ (List.mem_append_right _ (List.mem_append_left _ (List.mem_of_getElem? (i := 71) rfl)))) rfl
theorem me_A_S_respondTo_A : Cond.selects R_A y_S_respondTo y_A_respondTo ∈ zT := zT_mem (List.mem_append_right _ (List.mem_append_right _ (List.mem_append_left _ (List.mem_of_getElem? (i := 72) rfl)))) rfl
theorem mo_A_respondTo : Cond.instanceMethod y_A_respondTo ∈ zT := zT_mem (List.mem_append_right _ (List.mem_append_right _ (List.mem_append_left _ (List.mem_of_getElem? (i := 73) rfl)))) rfl
theorem mc_A_respondTo : Cond.code y_A_respondTo c_A_respondTo 3 none ∈ zT := zT_mem (List.mem_append_right _ (List.mem_append_right _ (List.mem_append_left _ (List.mem_of_getElem? (i := 74) rfl)))) rfl
theorem mk_A_32 : Cond.methodLink R_A 32 y_S_respondTo ∈ zT := zT_mem (List.mem_append_right _ (List.mem_append_right _ (List.mem_append_left _ (List.mem_of_getElem? (i := 75) rfl)))) rfl
theorem mo_F_respondTo : Cond.instanceMethod y_F_respondTo ∈ zT := zT_mem (List.mem_append_right _ (List.mem_append_right _ (List.mem_append_left _ (List.mem_of_getElem? (i := 76) rfl)))) rfl
theorem mc_F_respondTo : Cond.code y_F_respondTo c_F_respondTo 3 none ∈ zT := zT_mem (List.mem_append_right _ (List.mem_append_right _ (List.mem_append_left _ (List.mem_of_getElem? (i := 77) rfl)))) rfl
theorem mo_O_respondTo : Cond.instanceMethod y_O_respondTo ∈ zT := zT_mem (List.mem_append_right _ (List.mem_append_right _ (List.mem_append_left _ (List.mem_of_getElem? (i := 78) rfl)))) rfl
theorem mc_O_respondTo : Cond.code y_O_respondTo c_O_respondTo 4 none ∈ zT := zT_mem (List.mem_append_right _ (List.mem_append_right _ (List.mem_append_left _ (List.mem_of_getElem? (i := 79) rfl)))) rfl
theorem mk_O_50 : Cond.methodLink R_O 50 y_S_respondTo ∈ zT := zT_mem (List.mem_append_right _ (List.mem_append_right _ (List.mem_append_left _ (List.mem_of_getElem? (i := 80) rfl)))) rfl
theorem me_F_S_respondTo_F : Cond.selects R_F y_S_respondTo y_F_respondTo ∈ zT := zT_mem (List.mem_append_right _ (List.mem_append_right _ (List.mem_append_left _ (List.mem_of_getElem? (i := 81) rfl)))) rfl
theorem me_O_S_respondTo_O : Cond.selects R_O y_S_respondTo y_O_respondTo ∈ zT := zT_mem (List.mem_append_right _ (List.mem_append_right _ (List.mem_append_left _ (List.mem_of_getElem? (i := 82) rfl)))) rfl
theorem mk_L_64 : Cond.methodLink R_L 64 y_D_simulate ∈ zT := zT_mem (List.mem_append_right _ (List.mem_append_right _ (List.mem_append_left _ (List.mem_of_getElem? (i := 83) rfl)))) rfl
theorem mo_D_simulate : Cond.instanceMethod y_D_simulate ∈ zT := zT_mem (List.mem_append_right _ (List.mem_append_right _ (List.mem_append_left _ (List.mem_of_getElem? (i := 84) rfl)))) rfl
theorem me_D_D_simulate_D : Cond.selects R_D y_D_simulate y_D_simulate ∈ zT := zT_mem (List.mem_append_right _ (List.mem_append_right _ (List.mem_append_left _ (List.mem_of_getElem? (i := 85) rfl)))) rfl
theorem mc_D_simulate : Cond.code y_D_simulate c_D_simulate 3 (some .int) ∈ zT := zT_mem (List.mem_append_right _ (List.mem_append_right _ (List.mem_append_left _ (List.mem_of_getElem? (i := 86) rfl)))) rfl
theorem mk_D_131 : Cond.methodLink R_D 131 y_S_commitSimulated ∈ zT := zT_mem (List.mem_append_right _ (List.mem_append_right _ (List.mem_append_left _ (List.mem_of_getElem? (i := 87) rfl)))) rfl
theorem mk_L_68 : Cond.methodLink R_L 68 y_D_prove ∈ zT := zT_mem (List.mem_append_right _ (List.mem_append_right _ (List.mem_append_left _ (List.mem_of_getElem? (i := 88) rfl)))) rfl
theorem mo_D_prove : Cond.instanceMethod y_D_prove ∈ zT := zT_mem (List.mem_append_right _ (List.mem_append_right _ (List.mem_append_left _ (List.mem_of_getElem? (i := 89) rfl)))) rfl
theorem me_D_D_prove_D : Cond.selects R_D y_D_prove y_D_prove ∈ zT := zT_mem (List.mem_append_right _ (List.mem_append_right _ (List.mem_append_left _ (List.mem_of_getElem? (i := 90) rfl)))) rfl
theorem mc_D_prove : Cond.code y_D_prove c_D_prove 4 (some .int) ∈ zT := zT_mem (List.mem_append_right _ (List.mem_append_right _ (List.mem_append_left _ (List.mem_of_getElem? (i := 91) rfl)))) rfl
theorem mk_D_135 : Cond.methodLink R_D 135 y_D_commit ∈ zT := zT_mem (List.mem_append_right _ (List.mem_append_right _ (List.mem_append_left _ (List.mem_of_getElem? (i := 92) rfl)))) rfl
theorem mk_D_139 : Cond.methodLink R_D 139 y_D_hash ∈ zT := zT_mem (List.mem_append_right _ (List.mem_append_right _ (List.mem_append_left _ (List.mem_of_getElem? (i := 93) rfl)))) rfl
theorem mo_D_hash : Cond.instanceMethod y_D_hash ∈ zT := zT_mem (List.mem_append_right _ (List.mem_append_right _ (List.mem_append_left _ (List.mem_of_getElem? (i := 94) rfl)))) rfl
theorem me_D_D_hash_D : Cond.selects R_D y_D_hash y_D_hash ∈ zT := zT_mem (List.mem_append_right _ (List.mem_append_right _ (List.mem_append_left _ (List.mem_of_getElem? (i := 95) rfl)))) rfl
theorem mc_D_hash : Cond.code y_D_hash c_D_hash 3 (some .int) ∈ zT := zT_mem (List.mem_append_right _ (List.mem_append_right _ (List.mem_append_left _ (List.mem_of_getElem? (i := 96) rfl)))) rfl
theorem mk_D_146 : Cond.methodLink R_D 146 y_F_mixInto ∈ zT := zT_mem (List.mem_append_right _ (List.mem_append_right _ (List.mem_append_left _ (List.mem_of_getElem? (i := 97) rfl)))) rfl
theorem mo_F_mixInto : Cond.instanceMethod y_F_mixInto ∈ zT := zT_mem (List.mem_append_right _ (List.mem_append_right _ (List.mem_append_left _ (List.mem_of_getElem? (i := 98) rfl)))) rfl
theorem me_F_F_mixInto_F : Cond.selects R_F y_F_mixInto y_F_mixInto ∈ zT := zT_mem (List.mem_append_right _ (List.mem_append_right _ (List.mem_append_left _ (List.mem_of_getElem? (i := 99) rfl)))) rfl
theorem mc_F_mixInto : Cond.code y_F_mixInto c_F_mixInto 5 (some .int) ∈ zT := zT_mem (List.mem_append_right _ (List.mem_append_right _ (List.mem_append_left _ (List.mem_of_getElem? (i := 100) rfl)))) rfl
theorem mk_F_33 : Cond.methodLink R_F 33 y_T_get ∈ zT := zT_mem (List.mem_append_right _ (List.mem_append_right _ (List.mem_append_left _ (List.mem_of_getElem? (i := 101) rfl)))) rfl
theorem mo_T_get : Cond.instanceMethod y_T_get ∈ zT := zT_mem (List.mem_append_right _ (List.mem_append_right _ (List.mem_append_left _ (List.mem_of_getElem? (i := 102) rfl)))) rfl
theorem me_T_T_get_T : Cond.selects R_T y_T_get y_T_get ∈ zT := zT_mem (List.mem_append_right _ (List.mem_append_right _ (List.mem_append_left _ (List.mem_of_getElem? (i := 103) rfl)))) rfl
theorem mc_T_get : Cond.code y_T_get c_T_get 3 (some .int) ∈ zT := zT_mem (List.mem_append_right _ (List.mem_append_right _ (List.mem_append_left _ (List.mem_of_getElem? (i := 104) rfl)))) rfl
theorem mn_D_152 : Cond.constant R_D 152 (2147483647) ∈ zT := zT_mem (List.mem_append_right _ (List.mem_append_right _ (List.mem_append_left _ (List.mem_of_getElem? (i := 105) rfl)))) rfl
theorem mk_D_143 : Cond.methodLink R_D 143 y_D_respond ∈ zT := zT_mem (List.mem_append_right _ (List.mem_append_right _ (List.mem_append_left _ (List.mem_of_getElem? (i := 106) rfl)))) rfl
theorem mk_L_72 : Cond.methodLink R_L 72 y_D_hash ∈ zT := zT_mem (List.mem_append_right _ (List.mem_append_right _ (List.mem_append_left _ (List.mem_of_getElem? (i := 107) rfl)))) rfl
theorem mk_L_76 : Cond.methodLink R_L 76 y_D_verify ∈ zT := zT_mem (List.mem_append_right _ (List.mem_append_right _ (List.mem_append_left _ (List.mem_of_getElem? (i := 108) rfl)))) rfl
theorem mo_D_verify : Cond.instanceMethod y_D_verify ∈ zT := zT_mem (List.mem_append_right _ (List.mem_append_right _ (List.mem_append_left _ (List.mem_of_getElem? (i := 109) rfl)))) rfl
theorem me_D_D_verify_D : Cond.selects R_D y_D_verify y_D_verify ∈ zT := zT_mem (List.mem_append_right _ (List.mem_append_right _ (List.mem_append_left _ (List.mem_of_getElem? (i := 110) rfl)))) rfl
theorem mc_D_verify : Cond.code y_D_verify c_D_verify 1 (some .boolean) ∈ zT := zT_mem (List.mem_append_right _ (List.mem_append_right _ (List.mem_append_left _ (List.mem_of_getElem? (i := 111) rfl)))) rfl
theorem mk_D_153 : Cond.methodLink R_D 153 y_D_isAccepted ∈ zT := zT_mem (List.mem_append_right _ (List.mem_append_right _ (List.mem_append_left _ (List.mem_of_getElem? (i := 112) rfl)))) rfl
theorem mo_D_isAccepted : Cond.instanceMethod y_D_isAccepted ∈ zT := zT_mem (List.mem_append_right _ (List.mem_append_right _ (List.mem_append_left _ (List.mem_of_getElem? (i := 114) rfl)))) rfl
theorem mc_D_isAccepted : Cond.code y_D_isAccepted c_D_isAccepted 3 (some .boolean) ∈ zT := zT_mem (List.mem_append_right _ (List.mem_append_right _ (List.mem_append_left _ (List.mem_of_getElem? (i := 115) rfl)))) rfl
theorem mk_D_185 : Cond.methodLink R_D 185 y_F_holdsIn ∈ zT := zT_mem (List.mem_append_right _ (List.mem_append_right _ (List.mem_append_left _ (List.mem_of_getElem? (i := 116) rfl)))) rfl
theorem mo_F_holdsIn : Cond.instanceMethod y_F_holdsIn ∈ zT := zT_mem (List.mem_append_right _ (List.mem_append_right _ (List.mem_append_left _ (List.mem_of_getElem? (i := 117) rfl)))) rfl
theorem me_F_F_holdsIn_F : Cond.selects R_F y_F_holdsIn y_F_holdsIn ∈ zT := zT_mem (List.mem_append_right _ (List.mem_append_right _ (List.mem_append_left _ (List.mem_of_getElem? (i := 118) rfl)))) rfl
theorem mc_F_holdsIn : Cond.code y_F_holdsIn c_F_holdsIn 6 (some .boolean) ∈ zT := zT_mem (List.mem_append_right _ (List.mem_append_right _ (List.mem_append_left _ (List.mem_of_getElem? (i := 119) rfl)))) rfl
theorem mk_D_157 : Cond.methodLink R_D 157 y_S_challengeIn ∈ zT := zT_mem (List.mem_append_right _ (List.mem_append_right _ (List.mem_append_left _ (List.mem_of_getElem? (i := 120) rfl)))) rfl
theorem md_S_challengeIn : Cond.declares y_S_challengeIn ∈ lw_tbl := List.mem_append_right _ (List.mem_append_right _ (List.mem_append_left _ (List.mem_of_getElem? (i := 121) rfl)))
theorem mm_S_S_challengeIn : Cond.sameMethod R_S R_S "challengeIn" "(LSigmaDesk$Transcript;)I" ∈ zT := zT_mem (List.mem_append_right _ (List.mem_append_right _ (List.mem_append_left _ (List.mem_of_getElem? (i := 122) rfl)))) rfl
theorem me_A_S_challengeIn_A : Cond.selects R_A y_S_challengeIn y_A_challengeIn ∈ zT := zT_mem (List.mem_append_right _ (List.mem_append_right _ (List.mem_append_left _ (List.mem_of_getElem? (i := 123) rfl)))) rfl
theorem mo_A_challengeIn : Cond.instanceMethod y_A_challengeIn ∈ zT := zT_mem (List.mem_append_right _ (List.mem_append_right _ (List.mem_append_left _ (List.mem_of_getElem? (i := 124) rfl)))) rfl
theorem mc_A_challengeIn : Cond.code y_A_challengeIn c_A_challengeIn 3 (some .int) ∈ zT := zT_mem (List.mem_append_right _ (List.mem_append_right _ (List.mem_append_left _ (List.mem_of_getElem? (i := 125) rfl)))) rfl
theorem mk_A_36 : Cond.methodLink R_A 36 y_S_challengeIn ∈ zT := zT_mem (List.mem_append_right _ (List.mem_append_right _ (List.mem_append_left _ (List.mem_of_getElem? (i := 126) rfl)))) rfl
theorem mo_F_challengeIn : Cond.instanceMethod y_F_challengeIn ∈ zT := zT_mem (List.mem_append_right _ (List.mem_append_right _ (List.mem_append_left _ (List.mem_of_getElem? (i := 127) rfl)))) rfl
theorem mc_F_challengeIn : Cond.code y_F_challengeIn c_F_challengeIn 2 (some .int) ∈ zT := zT_mem (List.mem_append_right _ (List.mem_append_right _ (List.mem_append_left _ (List.mem_of_getElem? (i := 128) rfl)))) rfl
theorem mo_O_challengeIn : Cond.instanceMethod y_O_challengeIn ∈ zT := zT_mem (List.mem_append_right _ (List.mem_append_right _ (List.mem_append_left _ (List.mem_of_getElem? (i := 129) rfl)))) rfl
theorem mc_O_challengeIn : Cond.code y_O_challengeIn c_O_challengeIn 4 (some .int) ∈ zT := zT_mem (List.mem_append_right _ (List.mem_append_right _ (List.mem_append_left _ (List.mem_of_getElem? (i := 130) rfl)))) rfl
theorem mk_O_54 : Cond.methodLink R_O 54 y_S_challengeIn ∈ zT := zT_mem (List.mem_append_right _ (List.mem_append_right _ (List.mem_append_left _ (List.mem_of_getElem? (i := 131) rfl)))) rfl
theorem me_F_S_challengeIn_F : Cond.selects R_F y_S_challengeIn y_F_challengeIn ∈ zT := zT_mem (List.mem_append_right _ (List.mem_append_right _ (List.mem_append_left _ (List.mem_of_getElem? (i := 132) rfl)))) rfl
theorem me_O_S_challengeIn_O : Cond.selects R_O y_S_challengeIn y_O_challengeIn ∈ zT := zT_mem (List.mem_append_right _ (List.mem_append_right _ (List.mem_append_left _ (List.mem_of_getElem? (i := 133) rfl)))) rfl
theorem mk_L_80 : Cond.methodLink R_L 80 y_D_challenge ∈ zT := zT_mem (List.mem_append_right _ (List.mem_append_right _ (List.mem_append_left _ (List.mem_of_getElem? (i := 134) rfl)))) rfl
theorem mo_D_challenge : Cond.instanceMethod y_D_challenge ∈ zT := zT_mem (List.mem_append_right _ (List.mem_append_right _ (List.mem_append_left _ (List.mem_of_getElem? (i := 135) rfl)))) rfl
theorem me_D_D_challenge_D : Cond.selects R_D y_D_challenge y_D_challenge ∈ zT := zT_mem (List.mem_append_right _ (List.mem_append_right _ (List.mem_append_left _ (List.mem_of_getElem? (i := 136) rfl)))) rfl
theorem mc_D_challenge : Cond.code y_D_challenge c_D_challenge 2 (some .int) ∈ zT := zT_mem (List.mem_append_right _ (List.mem_append_right _ (List.mem_append_left _ (List.mem_of_getElem? (i := 137) rfl)))) rfl
theorem mk_L_84 : Cond.methodLink R_L 84 y_D_part ∈ zT := zT_mem (List.mem_append_right _ (List.mem_append_right _ (List.mem_append_left _ (List.mem_of_getElem? (i := 138) rfl)))) rfl
theorem mo_D_part : Cond.instanceMethod y_D_part ∈ zT := zT_mem (List.mem_append_right _ (List.mem_append_right _ (List.mem_append_left _ (List.mem_of_getElem? (i := 139) rfl)))) rfl
theorem me_D_D_part_D : Cond.selects R_D y_D_part y_D_part ∈ zT := zT_mem (List.mem_append_right _ (List.mem_append_right _ (List.mem_append_left _ (List.mem_of_getElem? (i := 140) rfl)))) rfl
theorem mc_D_part : Cond.code y_D_part c_D_part 3 (some .int) ∈ zT := zT_mem (List.mem_append_right _ (List.mem_append_right _ (List.mem_append_left _ (List.mem_of_getElem? (i := 141) rfl)))) rfl
theorem mk_D_161 : Cond.methodLink R_D 161 y_D_isPart ∈ zT := zT_mem (List.mem_append_right _ (List.mem_append_right _ (List.mem_append_left _ (List.mem_of_getElem? (i := 142) rfl)))) rfl
theorem mo_D_isPart : Cond.instanceMethod y_D_isPart ∈ zT := zT_mem (List.mem_append_right _ (List.mem_append_right _ (List.mem_append_left _ (List.mem_of_getElem? (i := 144) rfl)))) rfl
theorem mc_D_isPart : Cond.code y_D_isPart c_D_isPart 3 (some .boolean) ∈ zT := zT_mem (List.mem_append_right _ (List.mem_append_right _ (List.mem_append_left _ (List.mem_of_getElem? (i := 145) rfl)))) rfl
theorem mk_D_182 : Cond.methodLink R_D 182 y_F_pairs ∈ zT := zT_mem (List.mem_append_right _ (List.mem_append_right _ (List.mem_append_left _ (List.mem_of_getElem? (i := 146) rfl)))) rfl
theorem mo_F_pairs : Cond.instanceMethod y_F_pairs ∈ zT := zT_mem (List.mem_append_right _ (List.mem_append_right _ (List.mem_append_left _ (List.mem_of_getElem? (i := 147) rfl)))) rfl
theorem me_F_F_pairs_F : Cond.selects R_F y_F_pairs y_F_pairs ∈ zT := zT_mem (List.mem_append_right _ (List.mem_append_right _ (List.mem_append_left _ (List.mem_of_getElem? (i := 148) rfl)))) rfl
theorem mc_F_pairs : Cond.code y_F_pairs c_F_pairs 1 (some .int) ∈ zT := zT_mem (List.mem_append_right _ (List.mem_append_right _ (List.mem_append_left _ (List.mem_of_getElem? (i := 149) rfl)))) rfl
theorem mk_D_164 : Cond.methodLink R_D 164 y_T_get ∈ zT := zT_mem (List.mem_append_right _ (List.mem_append_right _ (List.mem_append_left _ (List.mem_of_getElem? (i := 150) rfl)))) rfl
theorem mk_L_88 : Cond.methodLink R_L 88 y_D_change ∈ zT := zT_mem (List.mem_append_right _ (List.mem_append_right _ (List.mem_append_left _ (List.mem_of_getElem? (i := 151) rfl)))) rfl
theorem mo_D_change : Cond.instanceMethod y_D_change ∈ zT := zT_mem (List.mem_append_right _ (List.mem_append_right _ (List.mem_append_left _ (List.mem_of_getElem? (i := 152) rfl)))) rfl
theorem me_D_D_change_D : Cond.selects R_D y_D_change y_D_change ∈ zT := zT_mem (List.mem_append_right _ (List.mem_append_right _ (List.mem_append_left _ (List.mem_of_getElem? (i := 153) rfl)))) rfl
theorem mc_D_change : Cond.code y_D_change c_D_change 5 (some .boolean) ∈ zT := zT_mem (List.mem_append_right _ (List.mem_append_right _ (List.mem_append_left _ (List.mem_of_getElem? (i := 154) rfl)))) rfl
theorem mk_D_168 : Cond.methodLink R_D 168 y_T_set ∈ zT := zT_mem (List.mem_append_right _ (List.mem_append_right _ (List.mem_append_left _ (List.mem_of_getElem? (i := 155) rfl)))) rfl
theorem mk_L_93 : Cond.methodLink R_L 93 y_D_save ∈ zT := zT_mem (List.mem_append_right _ (List.mem_append_right _ (List.mem_append_left _ (List.mem_of_getElem? (i := 156) rfl)))) rfl
theorem mo_D_save : Cond.instanceMethod y_D_save ∈ zT := zT_mem (List.mem_append_right _ (List.mem_append_right _ (List.mem_append_left _ (List.mem_of_getElem? (i := 157) rfl)))) rfl
theorem me_D_D_save_D : Cond.selects R_D y_D_save y_D_save ∈ zT := zT_mem (List.mem_append_right _ (List.mem_append_right _ (List.mem_append_left _ (List.mem_of_getElem? (i := 158) rfl)))) rfl
theorem mc_D_save : Cond.code y_D_save c_D_save 1 (some .boolean) ∈ zT := zT_mem (List.mem_append_right _ (List.mem_append_right _ (List.mem_append_left _ (List.mem_of_getElem? (i := 159) rfl)))) rfl
theorem mk_D_172 : Cond.methodLink R_D 172 y_T_copy ∈ zT := zT_mem (List.mem_append_right _ (List.mem_append_right _ (List.mem_append_left _ (List.mem_of_getElem? (i := 160) rfl)))) rfl
theorem mo_T_copy : Cond.instanceMethod y_T_copy ∈ zT := zT_mem (List.mem_append_right _ (List.mem_append_right _ (List.mem_append_left _ (List.mem_of_getElem? (i := 161) rfl)))) rfl
theorem me_T_T_copy_T : Cond.selects R_T y_T_copy y_T_copy ∈ zT := zT_mem (List.mem_append_right _ (List.mem_append_right _ (List.mem_append_left _ (List.mem_of_getElem? (i := 162) rfl)))) rfl
theorem mc_T_copy : Cond.code y_T_copy c_T_copy 2 none ∈ zT := zT_mem (List.mem_append_right _ (List.mem_append_right _ (List.mem_append_left _ (List.mem_of_getElem? (i := 163) rfl)))) rfl
theorem mk_T_21 : Cond.methodLink R_T 21 y_Y_arraycopy ∈ zT := zT_mem (List.mem_append_right _ (List.mem_append_right _ (List.mem_append_left _ (List.mem_of_getElem? (i := 164) rfl)))) rfl
theorem ms_Y_arraycopy : Cond.static y_Y_arraycopy ∈ zT := zT_mem (List.mem_append_right _ (List.mem_append_right _ (List.mem_append_left _ (List.mem_of_getElem? (i := 165) rfl)))) rfl
theorem mv_Y_arraycopy : Cond.native y_Y_arraycopy ∈ zT := zT_mem (List.mem_append_right _ (List.mem_append_right _ (List.mem_append_left _ (List.mem_of_getElem? (i := 166) rfl)))) rfl
theorem mk_L_97 : Cond.methodLink R_L 97 y_D_extract ∈ zT := zT_mem (List.mem_append_right _ (List.mem_append_right _ (List.mem_append_left _ (List.mem_of_getElem? (i := 167) rfl)))) rfl
theorem mo_D_extract : Cond.instanceMethod y_D_extract ∈ zT := zT_mem (List.mem_append_right _ (List.mem_append_right _ (List.mem_append_left _ (List.mem_of_getElem? (i := 168) rfl)))) rfl
theorem me_D_D_extract_D : Cond.selects R_D y_D_extract y_D_extract ∈ zT := zT_mem (List.mem_append_right _ (List.mem_append_right _ (List.mem_append_left _ (List.mem_of_getElem? (i := 169) rfl)))) rfl
theorem mc_D_extract : Cond.code y_D_extract c_D_extract 3 (some .int) ∈ zT := zT_mem (List.mem_append_right _ (List.mem_append_right _ (List.mem_append_left _ (List.mem_of_getElem? (i := 170) rfl)))) rfl
theorem mk_D_176 : Cond.methodLink R_D 176 y_D_sameCommitments ∈ zT := zT_mem (List.mem_append_right _ (List.mem_append_right _ (List.mem_append_left _ (List.mem_of_getElem? (i := 171) rfl)))) rfl
theorem mo_D_sameCommitments : Cond.instanceMethod y_D_sameCommitments ∈ zT := zT_mem (List.mem_append_right _ (List.mem_append_right _ (List.mem_append_left _ (List.mem_of_getElem? (i := 173) rfl)))) rfl
theorem mc_D_sameCommitments : Cond.code y_D_sameCommitments c_D_sameCommitments 3 (some .boolean) ∈ zT := zT_mem (List.mem_append_right _ (List.mem_append_right _ (List.mem_append_left _ (List.mem_of_getElem? (i := 174) rfl)))) rfl
theorem mk_D_179 : Cond.methodLink R_D 179 y_D_givenAway ∈ zT := zT_mem (List.mem_append_right _ (List.mem_append_right _ (List.mem_append_left _ (List.mem_of_getElem? (i := 175) rfl)))) rfl
theorem mo_D_givenAway : Cond.instanceMethod y_D_givenAway ∈ zT := zT_mem (List.mem_append_right _ (List.mem_append_right _ (List.mem_append_left _ (List.mem_of_getElem? (i := 177) rfl)))) rfl
theorem mc_D_givenAway : Cond.code y_D_givenAway c_D_givenAway 4 (some .int) ∈ zT := zT_mem (List.mem_append_right _ (List.mem_append_right _ (List.mem_append_left _ (List.mem_of_getElem? (i := 178) rfl)))) rfl
theorem mk_D_188 : Cond.methodLink R_D 188 y_D_minus ∈ zT := zT_mem (List.mem_append_right _ (List.mem_append_right _ (List.mem_append_left _ (List.mem_of_getElem? (i := 179) rfl)))) rfl
theorem ml_L_10 : Cond.classLink R_L 10 R_M ∈ zT := zT_mem (List.mem_append_right _ (List.mem_append_right _ (List.mem_append_left _ (List.mem_of_getElem? (i := 180) rfl)))) rfl
theorem mt_M : Cond.instantiable R_M 34 ∈ zT := zT_mem (List.mem_append_right _ (List.mem_append_right _ (List.mem_append_left _ (List.mem_of_getElem? (i := 181) rfl)))) rfl
theorem mk_L_12 : Cond.methodLink R_L 12 y_M_init ∈ zT := zT_mem (List.mem_append_right _ (List.mem_append_right _ (List.mem_append_left _ (List.mem_of_getElem? (i := 182) rfl)))) rfl
theorem mo_M_init : Cond.instanceMethod y_M_init ∈ zT := zT_mem (List.mem_append_right _ (List.mem_append_right _ (List.mem_append_left _ (List.mem_of_getElem? (i := 183) rfl)))) rfl
theorem mc_M_init : Cond.code y_M_init c_M_init 1 none ∈ zT := zT_mem (List.mem_append_right _ (List.mem_append_right _ (List.mem_append_left _ (List.mem_of_getElem? (i := 184) rfl)))) rfl
theorem mk_M_1 : Cond.methodLink R_M 1 y_B_init ∈ zT := zT_mem (List.mem_append_right _ (List.mem_append_right _ (List.mem_append_left _ (List.mem_of_getElem? (i := 185) rfl)))) rfl
theorem mf_M_7 : Cond.fieldLink R_M 7 "SigmaDeskModel" "kind" "[I" ∈ zT := zT_mem (List.mem_append_right _ (List.mem_append_right _ (List.mem_append_left _ (List.mem_of_getElem? (i := 186) rfl)))) rfl
theorem mf_M_13 : Cond.fieldLink R_M 13 "SigmaDeskModel" "base" "[I" ∈ zT := zT_mem (List.mem_append_right _ (List.mem_append_right _ (List.mem_append_left _ (List.mem_of_getElem? (i := 187) rfl)))) rfl
theorem mf_M_16 : Cond.fieldLink R_M 16 "SigmaDeskModel" "image" "[I" ∈ zT := zT_mem (List.mem_append_right _ (List.mem_append_right _ (List.mem_append_left _ (List.mem_of_getElem? (i := 188) rfl)))) rfl
theorem mf_M_19 : Cond.fieldLink R_M 19 "SigmaDeskModel" "base2" "[I" ∈ zT := zT_mem (List.mem_append_right _ (List.mem_append_right _ (List.mem_append_left _ (List.mem_of_getElem? (i := 189) rfl)))) rfl
theorem mf_M_22 : Cond.fieldLink R_M 22 "SigmaDeskModel" "image2" "[I" ∈ zT := zT_mem (List.mem_append_right _ (List.mem_append_right _ (List.mem_append_left _ (List.mem_of_getElem? (i := 190) rfl)))) rfl
theorem mf_M_25 : Cond.fieldLink R_M 25 "SigmaDeskModel" "start" "[I" ∈ zT := zT_mem (List.mem_append_right _ (List.mem_append_right _ (List.mem_append_left _ (List.mem_of_getElem? (i := 191) rfl)))) rfl
theorem mf_M_112 : Cond.fieldLink R_M 112 "SigmaDeskModel" "top" "I" ∈ zT := zT_mem (List.mem_append_right _ (List.mem_append_right _ (List.mem_append_left _ (List.mem_of_getElem? (i := 192) rfl)))) rfl
theorem mf_M_122 : Cond.fieldLink R_M 122 "SigmaDeskModel" "size" "I" ∈ zT := zT_mem (List.mem_append_right _ (List.mem_append_right _ (List.mem_append_left _ (List.mem_of_getElem? (i := 193) rfl)))) rfl
theorem mf_M_125 : Cond.fieldLink R_M 125 "SigmaDeskModel" "leaves" "I" ∈ zT := zT_mem (List.mem_append_right _ (List.mem_append_right _ (List.mem_append_left _ (List.mem_of_getElem? (i := 194) rfl)))) rfl
theorem mf_M_28 : Cond.fieldLink R_M 28 "SigmaDeskModel" "node" "[I" ∈ zT := zT_mem (List.mem_append_right _ (List.mem_append_right _ (List.mem_append_left _ (List.mem_of_getElem? (i := 195) rfl)))) rfl
theorem mf_M_31 : Cond.fieldLink R_M 31 "SigmaDeskModel" "left" "[I" ∈ zT := zT_mem (List.mem_append_right _ (List.mem_append_right _ (List.mem_append_left _ (List.mem_of_getElem? (i := 196) rfl)))) rfl
theorem mf_M_34 : Cond.fieldLink R_M 34 "SigmaDeskModel" "right" "[I" ∈ zT := zT_mem (List.mem_append_right _ (List.mem_append_right _ (List.mem_append_left _ (List.mem_of_getElem? (i := 197) rfl)))) rfl
theorem mf_M_37 : Cond.fieldLink R_M 37 "SigmaDeskModel" "leafOf" "[I" ∈ zT := zT_mem (List.mem_append_right _ (List.mem_append_right _ (List.mem_append_left _ (List.mem_of_getElem? (i := 198) rfl)))) rfl
theorem mf_M_40 : Cond.fieldLink R_M 40 "SigmaDeskModel" "bases" "[I" ∈ zT := zT_mem (List.mem_append_right _ (List.mem_append_right _ (List.mem_append_left _ (List.mem_of_getElem? (i := 199) rfl)))) rfl
theorem mf_M_43 : Cond.fieldLink R_M 43 "SigmaDeskModel" "images" "[I" ∈ zT := zT_mem (List.mem_append_right _ (List.mem_append_right _ (List.mem_append_left _ (List.mem_of_getElem? (i := 200) rfl)))) rfl
theorem mf_M_46 : Cond.fieldLink R_M 46 "SigmaDeskModel" "witnesses" "[I" ∈ zT := zT_mem (List.mem_append_right _ (List.mem_append_right _ (List.mem_append_left _ (List.mem_of_getElem? (i := 201) rfl)))) rfl
theorem mf_M_49 : Cond.fieldLink R_M 49 "SigmaDeskModel" "commitment" "[I" ∈ zT := zT_mem (List.mem_append_right _ (List.mem_append_right _ (List.mem_append_left _ (List.mem_of_getElem? (i := 202) rfl)))) rfl
theorem mf_M_52 : Cond.fieldLink R_M 52 "SigmaDeskModel" "challenged" "[I" ∈ zT := zT_mem (List.mem_append_right _ (List.mem_append_right _ (List.mem_append_left _ (List.mem_of_getElem? (i := 203) rfl)))) rfl
theorem mf_M_55 : Cond.fieldLink R_M 55 "SigmaDeskModel" "response" "[I" ∈ zT := zT_mem (List.mem_append_right _ (List.mem_append_right _ (List.mem_append_left _ (List.mem_of_getElem? (i := 204) rfl)))) rfl
theorem mf_M_58 : Cond.fieldLink R_M 58 "SigmaDeskModel" "savedCommitment" "[I" ∈ zT := zT_mem (List.mem_append_right _ (List.mem_append_right _ (List.mem_append_left _ (List.mem_of_getElem? (i := 205) rfl)))) rfl
theorem mf_M_61 : Cond.fieldLink R_M 61 "SigmaDeskModel" "savedChallenge" "[I" ∈ zT := zT_mem (List.mem_append_right _ (List.mem_append_right _ (List.mem_append_left _ (List.mem_of_getElem? (i := 206) rfl)))) rfl
theorem mf_M_64 : Cond.fieldLink R_M 64 "SigmaDeskModel" "savedResponse" "[I" ∈ zT := zT_mem (List.mem_append_right _ (List.mem_append_right _ (List.mem_append_left _ (List.mem_of_getElem? (i := 207) rfl)))) rfl
theorem mf_M_128 : Cond.fieldLink R_M 128 "SigmaDeskModel" "saved" "Z" ∈ zT := zT_mem (List.mem_append_right _ (List.mem_append_right _ (List.mem_append_left _ (List.mem_of_getElem? (i := 208) rfl)))) rfl
theorem mf_M_132 : Cond.fieldLink R_M 132 "SigmaDeskModel" "committed" "Z" ∈ zT := zT_mem (List.mem_append_right _ (List.mem_append_right _ (List.mem_append_left _ (List.mem_of_getElem? (i := 209) rfl)))) rfl
theorem mf_M_67 : Cond.fieldLink R_M 67 "SigmaDeskModel" "nonce" "[I" ∈ zT := zT_mem (List.mem_append_right _ (List.mem_append_right _ (List.mem_append_left _ (List.mem_of_getElem? (i := 210) rfl)))) rfl
theorem mf_M_70 : Cond.fieldLink R_M 70 "SigmaDeskModel" "leftReal" "[Z" ∈ zT := zT_mem (List.mem_append_right _ (List.mem_append_right _ (List.mem_append_left _ (List.mem_of_getElem? (i := 211) rfl)))) rfl
theorem mf_M_74 : Cond.fieldLink R_M 74 "SigmaDeskModel" "drawn" "[I" ∈ zT := zT_mem (List.mem_append_right _ (List.mem_append_right _ (List.mem_append_left _ (List.mem_of_getElem? (i := 212) rfl)))) rfl
theorem mf_M_104 : Cond.fieldLink R_M 104 "SigmaDeskModel" "state" "I" ∈ zT := zT_mem (List.mem_append_right _ (List.mem_append_right _ (List.mem_append_left _ (List.mem_of_getElem? (i := 213) rfl)))) rfl
theorem mf_M_145 : Cond.fieldLink R_M 145 "SigmaDeskModel" "todo" "I" ∈ zT := zT_mem (List.mem_append_right _ (List.mem_append_right _ (List.mem_append_left _ (List.mem_of_getElem? (i := 214) rfl)))) rfl
theorem mf_M_77 : Cond.fieldLink R_M 77 "SigmaDeskModel" "queue" "[I" ∈ zT := zT_mem (List.mem_append_right _ (List.mem_append_right _ (List.mem_append_left _ (List.mem_of_getElem? (i := 215) rfl)))) rfl
theorem mf_M_80 : Cond.fieldLink R_M 80 "SigmaDeskModel" "with" "[I" ∈ zT := zT_mem (List.mem_append_right _ (List.mem_append_right _ (List.mem_append_left _ (List.mem_of_getElem? (i := 216) rfl)))) rfl
theorem mf_M_83 : Cond.fieldLink R_M 83 "SigmaDeskModel" "real" "[Z" ∈ zT := zT_mem (List.mem_append_right _ (List.mem_append_right _ (List.mem_append_left _ (List.mem_of_getElem? (i := 217) rfl)))) rfl
theorem mf_M_86 : Cond.fieldLink R_M 86 "SigmaDeskModel" "value" "[I" ∈ zT := zT_mem (List.mem_append_right _ (List.mem_append_right _ (List.mem_append_left _ (List.mem_of_getElem? (i := 218) rfl)))) rfl
theorem mf_M_89 : Cond.fieldLink R_M 89 "SigmaDeskModel" "held" "[Z" ∈ zT := zT_mem (List.mem_append_right _ (List.mem_append_right _ (List.mem_append_left _ (List.mem_of_getElem? (i := 219) rfl)))) rfl
theorem my_M_kind : Cond.laysFinal R_M R_M "kind" "[I" ∈ zT := zT_mem (List.mem_append_right _ (List.mem_append_right _ (List.mem_append_left _ (List.mem_of_getElem? (i := 220) rfl)))) rfl
theorem my_M_base : Cond.laysFinal R_M R_M "base" "[I" ∈ zT := zT_mem (List.mem_append_right _ (List.mem_append_right _ (List.mem_append_left _ (List.mem_of_getElem? (i := 222) rfl)))) rfl
theorem my_M_image : Cond.laysFinal R_M R_M "image" "[I" ∈ zT := zT_mem (List.mem_append_right _ (List.mem_append_right _ (List.mem_append_left _ (List.mem_of_getElem? (i := 224) rfl)))) rfl
theorem my_M_base2 : Cond.laysFinal R_M R_M "base2" "[I" ∈ zT := zT_mem (List.mem_append_right _ (List.mem_append_right _ (List.mem_append_left _ (List.mem_of_getElem? (i := 226) rfl)))) rfl
theorem my_M_image2 : Cond.laysFinal R_M R_M "image2" "[I" ∈ zT := zT_mem (List.mem_append_right _ (List.mem_append_right _ (List.mem_append_left _ (List.mem_of_getElem? (i := 228) rfl)))) rfl
theorem my_M_start : Cond.laysFinal R_M R_M "start" "[I" ∈ zT := zT_mem (List.mem_append_right _ (List.mem_append_right _ (List.mem_append_left _ (List.mem_of_getElem? (i := 230) rfl)))) rfl
theorem my_M_top : Cond.lays R_M R_M "top" "I" ∈ zT := zT_mem (List.mem_append_right _ (List.mem_append_right _ (List.mem_append_left _ (List.mem_of_getElem? (i := 232) rfl)))) rfl
theorem my_M_size : Cond.lays R_M R_M "size" "I" ∈ zT := zT_mem (List.mem_append_right _ (List.mem_append_right _ (List.mem_append_left _ (List.mem_of_getElem? (i := 234) rfl)))) rfl
theorem my_M_leaves : Cond.lays R_M R_M "leaves" "I" ∈ zT := zT_mem (List.mem_append_right _ (List.mem_append_right _ (List.mem_append_left _ (List.mem_of_getElem? (i := 236) rfl)))) rfl
theorem my_M_node : Cond.laysFinal R_M R_M "node" "[I" ∈ zT := zT_mem (List.mem_append_right _ (List.mem_append_right _ (List.mem_append_left _ (List.mem_of_getElem? (i := 238) rfl)))) rfl
theorem my_M_left : Cond.laysFinal R_M R_M "left" "[I" ∈ zT := zT_mem (List.mem_append_right _ (List.mem_append_right _ (List.mem_append_right _ (List.mem_of_getElem? (i := 0) rfl)))) rfl
theorem my_M_right : Cond.laysFinal R_M R_M "right" "[I" ∈ zT := zT_mem (List.mem_append_right _ (List.mem_append_right _ (List.mem_append_right _ (List.mem_of_getElem? (i := 2) rfl)))) rfl
theorem my_M_leafOf : Cond.laysFinal R_M R_M "leafOf" "[I" ∈ zT := zT_mem (List.mem_append_right _ (List.mem_append_right _ (List.mem_append_right _ (List.mem_of_getElem? (i := 4) rfl)))) rfl
theorem my_M_bases : Cond.laysFinal R_M R_M "bases" "[I" ∈ zT := zT_mem (List.mem_append_right _ (List.mem_append_right _ (List.mem_append_right _ (List.mem_of_getElem? (i := 6) rfl)))) rfl
theorem my_M_images : Cond.laysFinal R_M R_M "images" "[I" ∈ zT := zT_mem (List.mem_append_right _ (List.mem_append_right _ (List.mem_append_right _ (List.mem_of_getElem? (i := 8) rfl)))) rfl
theorem my_M_witnesses : Cond.laysFinal R_M R_M "witnesses" "[I" ∈ zT := zT_mem (List.mem_append_right _ (List.mem_append_right _ (List.mem_append_right _ (List.mem_of_getElem? (i := 10) rfl)))) rfl
theorem my_M_commitment : Cond.laysFinal R_M R_M "commitment" "[I" ∈ zT := zT_mem (List.mem_append_right _ (List.mem_append_right _ (List.mem_append_right _ (List.mem_of_getElem? (i := 12) rfl)))) rfl
theorem my_M_challenged : Cond.laysFinal R_M R_M "challenged" "[I" ∈ zT := zT_mem (List.mem_append_right _ (List.mem_append_right _ (List.mem_append_right _ (List.mem_of_getElem? (i := 14) rfl)))) rfl
theorem my_M_response : Cond.laysFinal R_M R_M "response" "[I" ∈ zT := zT_mem (List.mem_append_right _ (List.mem_append_right _ (List.mem_append_right _ (List.mem_of_getElem? (i := 16) rfl)))) rfl
theorem my_M_savedCommitment : Cond.laysFinal R_M R_M "savedCommitment" "[I" ∈ zT := zT_mem (List.mem_append_right _ (List.mem_append_right _ (List.mem_append_right _ (List.mem_of_getElem? (i := 18) rfl)))) rfl
theorem my_M_savedChallenge : Cond.laysFinal R_M R_M "savedChallenge" "[I" ∈ zT := zT_mem (List.mem_append_right _ (List.mem_append_right _ (List.mem_append_right _ (List.mem_of_getElem? (i := 20) rfl)))) rfl
theorem my_M_savedResponse : Cond.laysFinal R_M R_M "savedResponse" "[I" ∈ zT := zT_mem (List.mem_append_right _ (List.mem_append_right _ (List.mem_append_right _ (List.mem_of_getElem? (i := 22) rfl)))) rfl
theorem my_M_saved : Cond.lays R_M R_M "saved" "Z" ∈ zT := zT_mem (List.mem_append_right _ (List.mem_append_right _ (List.mem_append_right _ (List.mem_of_getElem? (i := 24) rfl)))) rfl
theorem my_M_committed : Cond.lays R_M R_M "committed" "Z" ∈ zT := zT_mem (List.mem_append_right _ (List.mem_append_right _ (List.mem_append_right _ (List.mem_of_getElem? (i := 26) rfl)))) rfl
theorem my_M_nonce : Cond.laysFinal R_M R_M "nonce" "[I" ∈ zT := zT_mem (List.mem_append_right _ (List.mem_append_right _ (List.mem_append_right _ (List.mem_of_getElem? (i := 28) rfl)))) rfl
theorem my_M_leftReal : Cond.laysFinal R_M R_M "leftReal" "[Z" ∈ zT := zT_mem (List.mem_append_right _ (List.mem_append_right _ (List.mem_append_right _ (List.mem_of_getElem? (i := 30) rfl)))) rfl
theorem my_M_drawn : Cond.laysFinal R_M R_M "drawn" "[I" ∈ zT := zT_mem (List.mem_append_right _ (List.mem_append_right _ (List.mem_append_right _ (List.mem_of_getElem? (i := 32) rfl)))) rfl
theorem my_M_state : Cond.lays R_M R_M "state" "I" ∈ zT := zT_mem (List.mem_append_right _ (List.mem_append_right _ (List.mem_append_right _ (List.mem_of_getElem? (i := 34) rfl)))) rfl
theorem my_M_todo : Cond.lays R_M R_M "todo" "I" ∈ zT := zT_mem (List.mem_append_right _ (List.mem_append_right _ (List.mem_append_right _ (List.mem_of_getElem? (i := 36) rfl)))) rfl
theorem my_M_queue : Cond.laysFinal R_M R_M "queue" "[I" ∈ zT := zT_mem (List.mem_append_right _ (List.mem_append_right _ (List.mem_append_right _ (List.mem_of_getElem? (i := 38) rfl)))) rfl
theorem my_M_with : Cond.laysFinal R_M R_M "with" "[I" ∈ zT := zT_mem (List.mem_append_right _ (List.mem_append_right _ (List.mem_append_right _ (List.mem_of_getElem? (i := 40) rfl)))) rfl
theorem my_M_real : Cond.laysFinal R_M R_M "real" "[Z" ∈ zT := zT_mem (List.mem_append_right _ (List.mem_append_right _ (List.mem_append_right _ (List.mem_of_getElem? (i := 42) rfl)))) rfl
theorem my_M_value : Cond.laysFinal R_M R_M "value" "[I" ∈ zT := zT_mem (List.mem_append_right _ (List.mem_append_right _ (List.mem_append_right _ (List.mem_of_getElem? (i := 44) rfl)))) rfl
theorem my_M_held : Cond.laysFinal R_M R_M "held" "[Z" ∈ zT := zT_mem (List.mem_append_right _ (List.mem_append_right _ (List.mem_append_right _ (List.mem_of_getElem? (i := 46) rfl)))) rfl
theorem ma_boolean : Cond.arrayClass .boolean ∈ zT := zT_mem (List.mem_append_right _ (List.mem_append_right _ (List.mem_append_right _ (List.mem_of_getElem? (i := 49) rfl)))) rfl
theorem mk_L_17 : Cond.methodLink R_L 17 y_M_power ∈ zT := zT_mem (List.mem_append_right _ (List.mem_append_right _ (List.mem_append_right _ (List.mem_of_getElem? (i := 50) rfl)))) rfl
theorem mo_M_power : Cond.instanceMethod y_M_power ∈ zT := zT_mem (List.mem_append_right _ (List.mem_append_right _ (List.mem_append_right _ (List.mem_of_getElem? (i := 51) rfl)))) rfl
theorem me_M_M_power_M : Cond.selects R_M y_M_power y_M_power ∈ zT := zT_mem (List.mem_append_right _ (List.mem_append_right _ (List.mem_append_right _ (List.mem_of_getElem? (i := 52) rfl)))) rfl
theorem mc_M_power : Cond.code y_M_power c_M_power 3 (some .int) ∈ zT := zT_mem (List.mem_append_right _ (List.mem_append_right _ (List.mem_append_right _ (List.mem_of_getElem? (i := 53) rfl)))) rfl
theorem mk_M_100 : Cond.methodLink R_M 100 y_M_isElement ∈ zT := zT_mem (List.mem_append_right _ (List.mem_append_right _ (List.mem_append_right _ (List.mem_of_getElem? (i := 54) rfl)))) rfl
theorem ms_M_isElement : Cond.static y_M_isElement ∈ zT := zT_mem (List.mem_append_right _ (List.mem_append_right _ (List.mem_append_right _ (List.mem_of_getElem? (i := 55) rfl)))) rfl
theorem mc_M_isElement : Cond.code y_M_isElement c_M_isElement 1 (some .boolean) ∈ zT := zT_mem (List.mem_append_right _ (List.mem_append_right _ (List.mem_append_right _ (List.mem_of_getElem? (i := 56) rfl)))) rfl
theorem mk_M_96 : Cond.methodLink R_M 96 y_M_raised ∈ zT := zT_mem (List.mem_append_right _ (List.mem_append_right _ (List.mem_append_right _ (List.mem_of_getElem? (i := 57) rfl)))) rfl
theorem ms_M_raised : Cond.static y_M_raised ∈ zT := zT_mem (List.mem_append_right _ (List.mem_append_right _ (List.mem_append_right _ (List.mem_of_getElem? (i := 58) rfl)))) rfl
theorem mc_M_raised : Cond.code y_M_raised c_M_raised 6 (some .int) ∈ zT := zT_mem (List.mem_append_right _ (List.mem_append_right _ (List.mem_append_right _ (List.mem_of_getElem? (i := 59) rfl)))) rfl
theorem mk_M_92 : Cond.methodLink R_M 92 y_M_times ∈ zT := zT_mem (List.mem_append_right _ (List.mem_append_right _ (List.mem_append_right _ (List.mem_of_getElem? (i := 60) rfl)))) rfl
theorem ms_M_times : Cond.static y_M_times ∈ zT := zT_mem (List.mem_append_right _ (List.mem_append_right _ (List.mem_append_right _ (List.mem_of_getElem? (i := 61) rfl)))) rfl
theorem mc_M_times : Cond.code y_M_times c_M_times 3 (some .int) ∈ zT := zT_mem (List.mem_append_right _ (List.mem_append_right _ (List.mem_append_right _ (List.mem_of_getElem? (i := 62) rfl)))) rfl
theorem mk_M_109 : Cond.methodLink R_M 109 y_M_isExponent ∈ zT := zT_mem (List.mem_append_right _ (List.mem_append_right _ (List.mem_append_right _ (List.mem_of_getElem? (i := 63) rfl)))) rfl
theorem ms_M_isExponent : Cond.static y_M_isExponent ∈ zT := zT_mem (List.mem_append_right _ (List.mem_append_right _ (List.mem_append_right _ (List.mem_of_getElem? (i := 64) rfl)))) rfl
theorem mc_M_isExponent : Cond.code y_M_isExponent c_M_isExponent 1 (some .boolean) ∈ zT := zT_mem (List.mem_append_right _ (List.mem_append_right _ (List.mem_append_right _ (List.mem_of_getElem? (i := 65) rfl)))) rfl
theorem mk_L_22 : Cond.methodLink R_L 22 y_M_leaf ∈ zT := zT_mem (List.mem_append_right _ (List.mem_append_right _ (List.mem_append_right _ (List.mem_of_getElem? (i := 66) rfl)))) rfl
theorem mo_M_leaf : Cond.instanceMethod y_M_leaf ∈ zT := zT_mem (List.mem_append_right _ (List.mem_append_right _ (List.mem_append_right _ (List.mem_of_getElem? (i := 67) rfl)))) rfl
theorem me_M_M_leaf_M : Cond.selects R_M y_M_leaf y_M_leaf ∈ zT := zT_mem (List.mem_append_right _ (List.mem_append_right _ (List.mem_append_right _ (List.mem_of_getElem? (i := 68) rfl)))) rfl
theorem mc_M_leaf : Cond.code y_M_leaf c_M_leaf 3 (some .boolean) ∈ zT := zT_mem (List.mem_append_right _ (List.mem_append_right _ (List.mem_append_right _ (List.mem_of_getElem? (i := 69) rfl)))) rfl
theorem mk_M_115 : Cond.methodLink R_M 115 y_M_isBase ∈ zT := zT_mem (List.mem_append_right _ (List.mem_append_right _ (List.mem_append_right _ (List.mem_of_getElem? (i := 70) rfl)))) rfl
theorem ms_M_isBase : Cond.static y_M_isBase ∈ zT := zT_mem (List.mem_append_right _ (List.mem_append_right _ (List.mem_append_right _ (List.mem_of_getElem? (i := 71) rfl)))) rfl
theorem mc_M_isBase : Cond.code y_M_isBase c_M_isBase 1 (some .boolean) ∈ zT := zT_mem (List.mem_append_right _ (List.mem_append_right _ (List.mem_append_right _ (List.mem_of_getElem? (i := 72) rfl)))) rfl
theorem mk_M_118 : Cond.methodLink R_M 118 y_M_push ∈ zT := zT_mem (List.mem_append_right _ (List.mem_append_right _ (List.mem_append_right _ (List.mem_of_getElem? (i := 73) rfl)))) rfl
theorem mo_M_push : Cond.instanceMethod y_M_push ∈ zT := zT_mem (List.mem_append_right _ (List.mem_append_right _ (List.mem_append_right _ (List.mem_of_getElem? (i := 75) rfl)))) rfl
theorem mc_M_push : Cond.code y_M_push c_M_push 7 none ∈ zT := zT_mem (List.mem_append_right _ (List.mem_append_right _ (List.mem_append_right _ (List.mem_of_getElem? (i := 76) rfl)))) rfl
theorem mk_L_27 : Cond.methodLink R_L 27 y_M_equal ∈ zT := zT_mem (List.mem_append_right _ (List.mem_append_right _ (List.mem_append_right _ (List.mem_of_getElem? (i := 77) rfl)))) rfl
theorem mo_M_equal : Cond.instanceMethod y_M_equal ∈ zT := zT_mem (List.mem_append_right _ (List.mem_append_right _ (List.mem_append_right _ (List.mem_of_getElem? (i := 78) rfl)))) rfl
theorem me_M_M_equal_M : Cond.selects R_M y_M_equal y_M_equal ∈ zT := zT_mem (List.mem_append_right _ (List.mem_append_right _ (List.mem_append_right _ (List.mem_of_getElem? (i := 79) rfl)))) rfl
theorem mc_M_equal : Cond.code y_M_equal c_M_equal 5 (some .boolean) ∈ zT := zT_mem (List.mem_append_right _ (List.mem_append_right _ (List.mem_append_right _ (List.mem_of_getElem? (i := 80) rfl)))) rfl
theorem mk_L_32 : Cond.methodLink R_L 32 y_M_join ∈ zT := zT_mem (List.mem_append_right _ (List.mem_append_right _ (List.mem_append_right _ (List.mem_of_getElem? (i := 81) rfl)))) rfl
theorem mo_M_join : Cond.instanceMethod y_M_join ∈ zT := zT_mem (List.mem_append_right _ (List.mem_append_right _ (List.mem_append_right _ (List.mem_of_getElem? (i := 82) rfl)))) rfl
theorem me_M_M_join_M : Cond.selects R_M y_M_join y_M_join ∈ zT := zT_mem (List.mem_append_right _ (List.mem_append_right _ (List.mem_append_right _ (List.mem_of_getElem? (i := 83) rfl)))) rfl
theorem mc_M_join : Cond.code y_M_join c_M_join 4 (some .boolean) ∈ zT := zT_mem (List.mem_append_right _ (List.mem_append_right _ (List.mem_append_right _ (List.mem_of_getElem? (i := 84) rfl)))) rfl
theorem mk_L_37 : Cond.methodLink R_L 37 y_M_discard ∈ zT := zT_mem (List.mem_append_right _ (List.mem_append_right _ (List.mem_append_right _ (List.mem_of_getElem? (i := 85) rfl)))) rfl
theorem mo_M_discard : Cond.instanceMethod y_M_discard ∈ zT := zT_mem (List.mem_append_right _ (List.mem_append_right _ (List.mem_append_right _ (List.mem_of_getElem? (i := 86) rfl)))) rfl
theorem me_M_M_discard_M : Cond.selects R_M y_M_discard y_M_discard ∈ zT := zT_mem (List.mem_append_right _ (List.mem_append_right _ (List.mem_append_right _ (List.mem_of_getElem? (i := 87) rfl)))) rfl
theorem mc_M_discard : Cond.code y_M_discard c_M_discard 1 (some .boolean) ∈ zT := zT_mem (List.mem_append_right _ (List.mem_append_right _ (List.mem_append_right _ (List.mem_of_getElem? (i := 88) rfl)))) rfl
theorem mk_L_42 : Cond.methodLink R_L 42 y_M_accept ∈ zT := zT_mem (List.mem_append_right _ (List.mem_append_right _ (List.mem_append_right _ (List.mem_of_getElem? (i := 89) rfl)))) rfl
theorem mo_M_accept : Cond.instanceMethod y_M_accept ∈ zT := zT_mem (List.mem_append_right _ (List.mem_append_right _ (List.mem_append_right _ (List.mem_of_getElem? (i := 90) rfl)))) rfl
theorem me_M_M_accept_M : Cond.selects R_M y_M_accept y_M_accept ∈ zT := zT_mem (List.mem_append_right _ (List.mem_append_right _ (List.mem_append_right _ (List.mem_of_getElem? (i := 91) rfl)))) rfl
theorem mc_M_accept : Cond.code y_M_accept c_M_accept 3 (some .int) ∈ zT := zT_mem (List.mem_append_right _ (List.mem_append_right _ (List.mem_append_right _ (List.mem_of_getElem? (i := 92) rfl)))) rfl
theorem mk_L_46 : Cond.methodLink R_L 46 y_M_tell ∈ zT := zT_mem (List.mem_append_right _ (List.mem_append_right _ (List.mem_append_right _ (List.mem_of_getElem? (i := 93) rfl)))) rfl
theorem mo_M_tell : Cond.instanceMethod y_M_tell ∈ zT := zT_mem (List.mem_append_right _ (List.mem_append_right _ (List.mem_append_right _ (List.mem_of_getElem? (i := 94) rfl)))) rfl
theorem me_M_M_tell_M : Cond.selects R_M y_M_tell y_M_tell ∈ zT := zT_mem (List.mem_append_right _ (List.mem_append_right _ (List.mem_append_right _ (List.mem_of_getElem? (i := 95) rfl)))) rfl
theorem mc_M_tell : Cond.code y_M_tell c_M_tell 3 (some .boolean) ∈ zT := zT_mem (List.mem_append_right _ (List.mem_append_right _ (List.mem_append_right _ (List.mem_of_getElem? (i := 96) rfl)))) rfl
theorem mk_M_135 : Cond.methodLink R_M 135 y_M_isLeaf ∈ zT := zT_mem (List.mem_append_right _ (List.mem_append_right _ (List.mem_append_right _ (List.mem_of_getElem? (i := 97) rfl)))) rfl
theorem mo_M_isLeaf : Cond.instanceMethod y_M_isLeaf ∈ zT := zT_mem (List.mem_append_right _ (List.mem_append_right _ (List.mem_append_right _ (List.mem_of_getElem? (i := 99) rfl)))) rfl
theorem mc_M_isLeaf : Cond.code y_M_isLeaf c_M_isLeaf 2 (some .boolean) ∈ zT := zT_mem (List.mem_append_right _ (List.mem_append_right _ (List.mem_append_right _ (List.mem_of_getElem? (i := 100) rfl)))) rfl
theorem mk_M_138 : Cond.methodLink R_M 138 y_M_isPair ∈ zT := zT_mem (List.mem_append_right _ (List.mem_append_right _ (List.mem_append_right _ (List.mem_of_getElem? (i := 101) rfl)))) rfl
theorem mo_M_isPair : Cond.instanceMethod y_M_isPair ∈ zT := zT_mem (List.mem_append_right _ (List.mem_append_right _ (List.mem_append_right _ (List.mem_of_getElem? (i := 103) rfl)))) rfl
theorem mc_M_isPair : Cond.code y_M_isPair c_M_isPair 3 (some .boolean) ∈ zT := zT_mem (List.mem_append_right _ (List.mem_append_right _ (List.mem_append_right _ (List.mem_of_getElem? (i := 104) rfl)))) rfl
theorem mk_L_51 : Cond.methodLink R_L 51 y_M_witness ∈ zT := zT_mem (List.mem_append_right _ (List.mem_append_right _ (List.mem_append_right _ (List.mem_of_getElem? (i := 105) rfl)))) rfl
theorem mo_M_witness : Cond.instanceMethod y_M_witness ∈ zT := zT_mem (List.mem_append_right _ (List.mem_append_right _ (List.mem_append_right _ (List.mem_of_getElem? (i := 106) rfl)))) rfl
theorem me_M_M_witness_M : Cond.selects R_M y_M_witness y_M_witness ∈ zT := zT_mem (List.mem_append_right _ (List.mem_append_right _ (List.mem_append_right _ (List.mem_of_getElem? (i := 107) rfl)))) rfl
theorem mc_M_witness : Cond.code y_M_witness c_M_witness 2 (some .int) ∈ zT := zT_mem (List.mem_append_right _ (List.mem_append_right _ (List.mem_append_right _ (List.mem_of_getElem? (i := 108) rfl)))) rfl
theorem mk_L_55 : Cond.methodLink R_L 55 y_M_known ∈ zT := zT_mem (List.mem_append_right _ (List.mem_append_right _ (List.mem_append_right _ (List.mem_of_getElem? (i := 109) rfl)))) rfl
theorem mo_M_known : Cond.instanceMethod y_M_known ∈ zT := zT_mem (List.mem_append_right _ (List.mem_append_right _ (List.mem_append_right _ (List.mem_of_getElem? (i := 110) rfl)))) rfl
theorem me_M_M_known_M : Cond.selects R_M y_M_known y_M_known ∈ zT := zT_mem (List.mem_append_right _ (List.mem_append_right _ (List.mem_append_right _ (List.mem_of_getElem? (i := 111) rfl)))) rfl
theorem mc_M_known : Cond.code y_M_known c_M_known 1 (some .boolean) ∈ zT := zT_mem (List.mem_append_right _ (List.mem_append_right _ (List.mem_append_right _ (List.mem_of_getElem? (i := 112) rfl)))) rfl
theorem mk_M_142 : Cond.methodLink R_M 142 y_M_know ∈ zT := zT_mem (List.mem_append_right _ (List.mem_append_right _ (List.mem_append_right _ (List.mem_of_getElem? (i := 113) rfl)))) rfl
theorem mo_M_know : Cond.instanceMethod y_M_know ∈ zT := zT_mem (List.mem_append_right _ (List.mem_append_right _ (List.mem_append_right _ (List.mem_of_getElem? (i := 115) rfl)))) rfl
theorem mc_M_know : Cond.code y_M_know c_M_know 2 none ∈ zT := zT_mem (List.mem_append_right _ (List.mem_append_right _ (List.mem_append_right _ (List.mem_of_getElem? (i := 116) rfl)))) rfl
theorem mk_L_59 : Cond.methodLink R_L 59 y_M_commit ∈ zT := zT_mem (List.mem_append_right _ (List.mem_append_right _ (List.mem_append_right _ (List.mem_of_getElem? (i := 117) rfl)))) rfl
theorem mo_M_commit : Cond.instanceMethod y_M_commit ∈ zT := zT_mem (List.mem_append_right _ (List.mem_append_right _ (List.mem_append_right _ (List.mem_of_getElem? (i := 118) rfl)))) rfl
theorem me_M_M_commit_M : Cond.selects R_M y_M_commit y_M_commit ∈ zT := zT_mem (List.mem_append_right _ (List.mem_append_right _ (List.mem_append_right _ (List.mem_of_getElem? (i := 119) rfl)))) rfl
theorem mc_M_commit : Cond.code y_M_commit c_M_commit 2 (some .int) ∈ zT := zT_mem (List.mem_append_right _ (List.mem_append_right _ (List.mem_append_right _ (List.mem_of_getElem? (i := 120) rfl)))) rfl
theorem mk_M_169 : Cond.methodLink R_M 169 y_M_known ∈ zT := zT_mem (List.mem_append_right _ (List.mem_append_right _ (List.mem_append_right _ (List.mem_of_getElem? (i := 121) rfl)))) rfl
theorem mk_M_173 : Cond.methodLink R_M 173 y_M_commitTree ∈ zT := zT_mem (List.mem_append_right _ (List.mem_append_right _ (List.mem_append_right _ (List.mem_of_getElem? (i := 122) rfl)))) rfl
theorem mo_M_commitTree : Cond.instanceMethod y_M_commitTree ∈ zT := zT_mem (List.mem_append_right _ (List.mem_append_right _ (List.mem_append_right _ (List.mem_of_getElem? (i := 124) rfl)))) rfl
theorem mc_M_commitTree : Cond.code y_M_commitTree c_M_commitTree 5 none ∈ zT := zT_mem (List.mem_append_right _ (List.mem_append_right _ (List.mem_append_right _ (List.mem_of_getElem? (i := 125) rfl)))) rfl
theorem mk_M_155 : Cond.methodLink R_M 155 y_M_later ∈ zT := zT_mem (List.mem_append_right _ (List.mem_append_right _ (List.mem_append_right _ (List.mem_of_getElem? (i := 126) rfl)))) rfl
theorem mo_M_later : Cond.instanceMethod y_M_later ∈ zT := zT_mem (List.mem_append_right _ (List.mem_append_right _ (List.mem_append_right _ (List.mem_of_getElem? (i := 128) rfl)))) rfl
theorem mc_M_later : Cond.code y_M_later c_M_later 4 none ∈ zT := zT_mem (List.mem_append_right _ (List.mem_append_right _ (List.mem_append_right _ (List.mem_of_getElem? (i := 129) rfl)))) rfl
theorem mk_M_159 : Cond.methodLink R_M 159 y_M_commitLeaf ∈ zT := zT_mem (List.mem_append_right _ (List.mem_append_right _ (List.mem_append_right _ (List.mem_of_getElem? (i := 130) rfl)))) rfl
theorem mo_M_commitLeaf : Cond.instanceMethod y_M_commitLeaf ∈ zT := zT_mem (List.mem_append_right _ (List.mem_append_right _ (List.mem_append_right _ (List.mem_of_getElem? (i := 132) rfl)))) rfl
theorem mc_M_commitLeaf : Cond.code y_M_commitLeaf c_M_commitLeaf 7 none ∈ zT := zT_mem (List.mem_append_right _ (List.mem_append_right _ (List.mem_append_right _ (List.mem_of_getElem? (i := 133) rfl)))) rfl
theorem mk_M_148 : Cond.methodLink R_M 148 y_M_draw ∈ zT := zT_mem (List.mem_append_right _ (List.mem_append_right _ (List.mem_append_right _ (List.mem_of_getElem? (i := 134) rfl)))) rfl
theorem mo_M_draw : Cond.instanceMethod y_M_draw ∈ zT := zT_mem (List.mem_append_right _ (List.mem_append_right _ (List.mem_append_right _ (List.mem_of_getElem? (i := 136) rfl)))) rfl
theorem mc_M_draw : Cond.code y_M_draw c_M_draw 1 (some .int) ∈ zT := zT_mem (List.mem_append_right _ (List.mem_append_right _ (List.mem_append_right _ (List.mem_of_getElem? (i := 137) rfl)))) rfl
theorem mn_M_108 : Cond.constant R_M 108 (1103515245) ∈ zT := zT_mem (List.mem_append_right _ (List.mem_append_right _ (List.mem_append_right _ (List.mem_of_getElem? (i := 138) rfl)))) rfl
theorem mk_M_162 : Cond.methodLink R_M 162 y_M_commitOr ∈ zT := zT_mem (List.mem_append_right _ (List.mem_append_right _ (List.mem_append_right _ (List.mem_of_getElem? (i := 139) rfl)))) rfl
theorem mo_M_commitOr : Cond.instanceMethod y_M_commitOr ∈ zT := zT_mem (List.mem_append_right _ (List.mem_append_right _ (List.mem_append_right _ (List.mem_of_getElem? (i := 141) rfl)))) rfl
theorem mc_M_commitOr : Cond.code y_M_commitOr c_M_commitOr 6 none ∈ zT := zT_mem (List.mem_append_right _ (List.mem_append_right _ (List.mem_append_right _ (List.mem_of_getElem? (i := 142) rfl)))) rfl
theorem mk_M_152 : Cond.methodLink R_M 152 y_M_less ∈ zT := zT_mem (List.mem_append_right _ (List.mem_append_right _ (List.mem_append_right _ (List.mem_of_getElem? (i := 143) rfl)))) rfl
theorem ms_M_less : Cond.static y_M_less ∈ zT := zT_mem (List.mem_append_right _ (List.mem_append_right _ (List.mem_append_right _ (List.mem_of_getElem? (i := 144) rfl)))) rfl
theorem mc_M_less : Cond.code y_M_less c_M_less 2 (some .int) ∈ zT := zT_mem (List.mem_append_right _ (List.mem_append_right _ (List.mem_append_right _ (List.mem_of_getElem? (i := 145) rfl)))) rfl
theorem mk_L_63 : Cond.methodLink R_L 63 y_M_respond ∈ zT := zT_mem (List.mem_append_right _ (List.mem_append_right _ (List.mem_append_right _ (List.mem_of_getElem? (i := 146) rfl)))) rfl
theorem mo_M_respond : Cond.instanceMethod y_M_respond ∈ zT := zT_mem (List.mem_append_right _ (List.mem_append_right _ (List.mem_append_right _ (List.mem_of_getElem? (i := 147) rfl)))) rfl
theorem me_M_M_respond_M : Cond.selects R_M y_M_respond y_M_respond ∈ zT := zT_mem (List.mem_append_right _ (List.mem_append_right _ (List.mem_append_right _ (List.mem_of_getElem? (i := 148) rfl)))) rfl
theorem mc_M_respond : Cond.code y_M_respond c_M_respond 2 (some .int) ∈ zT := zT_mem (List.mem_append_right _ (List.mem_append_right _ (List.mem_append_right _ (List.mem_of_getElem? (i := 149) rfl)))) rfl
theorem mk_M_177 : Cond.methodLink R_M 177 y_M_respondTree ∈ zT := zT_mem (List.mem_append_right _ (List.mem_append_right _ (List.mem_append_right _ (List.mem_of_getElem? (i := 150) rfl)))) rfl
theorem mo_M_respondTree : Cond.instanceMethod y_M_respondTree ∈ zT := zT_mem (List.mem_append_right _ (List.mem_append_right _ (List.mem_append_right _ (List.mem_of_getElem? (i := 152) rfl)))) rfl
theorem mc_M_respondTree : Cond.code y_M_respondTree c_M_respondTree 3 none ∈ zT := zT_mem (List.mem_append_right _ (List.mem_append_right _ (List.mem_append_right _ (List.mem_of_getElem? (i := 153) rfl)))) rfl
theorem mk_M_165 : Cond.methodLink R_M 165 y_M_respondLeaf ∈ zT := zT_mem (List.mem_append_right _ (List.mem_append_right _ (List.mem_append_right _ (List.mem_of_getElem? (i := 154) rfl)))) rfl
theorem mo_M_respondLeaf : Cond.instanceMethod y_M_respondLeaf ∈ zT := zT_mem (List.mem_append_right _ (List.mem_append_right _ (List.mem_append_right _ (List.mem_of_getElem? (i := 156) rfl)))) rfl
theorem mc_M_respondLeaf : Cond.code y_M_respondLeaf c_M_respondLeaf 3 none ∈ zT := zT_mem (List.mem_append_right _ (List.mem_append_right _ (List.mem_append_right _ (List.mem_of_getElem? (i := 157) rfl)))) rfl
theorem mk_L_67 : Cond.methodLink R_L 67 y_M_simulate ∈ zT := zT_mem (List.mem_append_right _ (List.mem_append_right _ (List.mem_append_right _ (List.mem_of_getElem? (i := 158) rfl)))) rfl
theorem mo_M_simulate : Cond.instanceMethod y_M_simulate ∈ zT := zT_mem (List.mem_append_right _ (List.mem_append_right _ (List.mem_append_right _ (List.mem_of_getElem? (i := 159) rfl)))) rfl
theorem me_M_M_simulate_M : Cond.selects R_M y_M_simulate y_M_simulate ∈ zT := zT_mem (List.mem_append_right _ (List.mem_append_right _ (List.mem_append_right _ (List.mem_of_getElem? (i := 160) rfl)))) rfl
theorem mc_M_simulate : Cond.code y_M_simulate c_M_simulate 3 (some .int) ∈ zT := zT_mem (List.mem_append_right _ (List.mem_append_right _ (List.mem_append_right _ (List.mem_of_getElem? (i := 161) rfl)))) rfl
theorem mk_L_71 : Cond.methodLink R_L 71 y_M_prove ∈ zT := zT_mem (List.mem_append_right _ (List.mem_append_right _ (List.mem_append_right _ (List.mem_of_getElem? (i := 162) rfl)))) rfl
theorem mo_M_prove : Cond.instanceMethod y_M_prove ∈ zT := zT_mem (List.mem_append_right _ (List.mem_append_right _ (List.mem_append_right _ (List.mem_of_getElem? (i := 163) rfl)))) rfl
theorem me_M_M_prove_M : Cond.selects R_M y_M_prove y_M_prove ∈ zT := zT_mem (List.mem_append_right _ (List.mem_append_right _ (List.mem_append_right _ (List.mem_of_getElem? (i := 164) rfl)))) rfl
theorem mc_M_prove : Cond.code y_M_prove c_M_prove 4 (some .int) ∈ zT := zT_mem (List.mem_append_right _ (List.mem_append_right _ (List.mem_append_right _ (List.mem_of_getElem? (i := 165) rfl)))) rfl
theorem mk_M_182 : Cond.methodLink R_M 182 y_M_commit ∈ zT := zT_mem (List.mem_append_right _ (List.mem_append_right _ (List.mem_append_right _ (List.mem_of_getElem? (i := 166) rfl)))) rfl
theorem mk_M_186 : Cond.methodLink R_M 186 y_M_hashed ∈ zT := zT_mem (List.mem_append_right _ (List.mem_append_right _ (List.mem_append_right _ (List.mem_of_getElem? (i := 167) rfl)))) rfl
theorem mo_M_hashed : Cond.instanceMethod y_M_hashed ∈ zT := zT_mem (List.mem_append_right _ (List.mem_append_right _ (List.mem_append_right _ (List.mem_of_getElem? (i := 169) rfl)))) rfl
theorem mc_M_hashed : Cond.code y_M_hashed c_M_hashed 4 (some .int) ∈ zT := zT_mem (List.mem_append_right _ (List.mem_append_right _ (List.mem_append_right _ (List.mem_of_getElem? (i := 170) rfl)))) rfl
theorem mn_M_181 : Cond.constant R_M 181 (2147483647) ∈ zT := zT_mem (List.mem_append_right _ (List.mem_append_right _ (List.mem_append_right _ (List.mem_of_getElem? (i := 171) rfl)))) rfl
theorem mk_L_75 : Cond.methodLink R_L 75 y_M_hash ∈ zT := zT_mem (List.mem_append_right _ (List.mem_append_right _ (List.mem_append_right _ (List.mem_of_getElem? (i := 172) rfl)))) rfl
theorem mo_M_hash : Cond.instanceMethod y_M_hash ∈ zT := zT_mem (List.mem_append_right _ (List.mem_append_right _ (List.mem_append_right _ (List.mem_of_getElem? (i := 173) rfl)))) rfl
theorem me_M_M_hash_M : Cond.selects R_M y_M_hash y_M_hash ∈ zT := zT_mem (List.mem_append_right _ (List.mem_append_right _ (List.mem_append_right _ (List.mem_of_getElem? (i := 174) rfl)))) rfl
theorem mc_M_hash : Cond.code y_M_hash c_M_hash 1 (some .int) ∈ zT := zT_mem (List.mem_append_right _ (List.mem_append_right _ (List.mem_append_right _ (List.mem_of_getElem? (i := 175) rfl)))) rfl
theorem mk_L_79 : Cond.methodLink R_L 79 y_M_verify ∈ zT := zT_mem (List.mem_append_right _ (List.mem_append_right _ (List.mem_append_right _ (List.mem_of_getElem? (i := 176) rfl)))) rfl
theorem mo_M_verify : Cond.instanceMethod y_M_verify ∈ zT := zT_mem (List.mem_append_right _ (List.mem_append_right _ (List.mem_append_right _ (List.mem_of_getElem? (i := 177) rfl)))) rfl
theorem me_M_M_verify_M : Cond.selects R_M y_M_verify y_M_verify ∈ zT := zT_mem (List.mem_append_right _ (List.mem_append_right _ (List.mem_append_right _ (List.mem_of_getElem? (i := 178) rfl)))) rfl
theorem mc_M_verify : Cond.code y_M_verify c_M_verify 1 (some .boolean) ∈ zT := zT_mem (List.mem_append_right _ (List.mem_append_right _ (List.mem_append_right _ (List.mem_of_getElem? (i := 179) rfl)))) rfl
theorem mk_M_197 : Cond.methodLink R_M 197 y_M_isAccepted ∈ zT := zT_mem (List.mem_append_right _ (List.mem_append_right _ (List.mem_append_right _ (List.mem_of_getElem? (i := 180) rfl)))) rfl
theorem mo_M_isAccepted : Cond.instanceMethod y_M_isAccepted ∈ zT := zT_mem (List.mem_append_right _ (List.mem_append_right _ (List.mem_append_right _ (List.mem_of_getElem? (i := 182) rfl)))) rfl
theorem mc_M_isAccepted : Cond.code y_M_isAccepted c_M_isAccepted 4 (some .boolean) ∈ zT := zT_mem (List.mem_append_right _ (List.mem_append_right _ (List.mem_append_right _ (List.mem_of_getElem? (i := 183) rfl)))) rfl
theorem mk_M_189 : Cond.methodLink R_M 189 y_M_joined ∈ zT := zT_mem (List.mem_append_right _ (List.mem_append_right _ (List.mem_append_right _ (List.mem_of_getElem? (i := 184) rfl)))) rfl
theorem mo_M_joined : Cond.instanceMethod y_M_joined ∈ zT := zT_mem (List.mem_append_right _ (List.mem_append_right _ (List.mem_append_right _ (List.mem_of_getElem? (i := 186) rfl)))) rfl
theorem mc_M_joined : Cond.code y_M_joined c_M_joined 5 (some .int) ∈ zT := zT_mem (List.mem_append_right _ (List.mem_append_right _ (List.mem_append_right _ (List.mem_of_getElem? (i := 187) rfl)))) rfl
theorem mk_M_193 : Cond.methodLink R_M 193 y_M_accepts ∈ zT := zT_mem (List.mem_append_right _ (List.mem_append_right _ (List.mem_append_right _ (List.mem_of_getElem? (i := 188) rfl)))) rfl
theorem mo_M_accepts : Cond.instanceMethod y_M_accepts ∈ zT := zT_mem (List.mem_append_right _ (List.mem_append_right _ (List.mem_append_right _ (List.mem_of_getElem? (i := 190) rfl)))) rfl
theorem mc_M_accepts : Cond.code y_M_accepts c_M_accepts 9 (some .boolean) ∈ zT := zT_mem (List.mem_append_right _ (List.mem_append_right _ (List.mem_append_right _ (List.mem_of_getElem? (i := 191) rfl)))) rfl
theorem mk_L_83 : Cond.methodLink R_L 83 y_M_challenge ∈ zT := zT_mem (List.mem_append_right _ (List.mem_append_right _ (List.mem_append_right _ (List.mem_of_getElem? (i := 192) rfl)))) rfl
theorem mo_M_challenge : Cond.instanceMethod y_M_challenge ∈ zT := zT_mem (List.mem_append_right _ (List.mem_append_right _ (List.mem_append_right _ (List.mem_of_getElem? (i := 193) rfl)))) rfl
theorem me_M_M_challenge_M : Cond.selects R_M y_M_challenge y_M_challenge ∈ zT := zT_mem (List.mem_append_right _ (List.mem_append_right _ (List.mem_append_right _ (List.mem_of_getElem? (i := 194) rfl)))) rfl
theorem mc_M_challenge : Cond.code y_M_challenge c_M_challenge 2 (some .int) ∈ zT := zT_mem (List.mem_append_right _ (List.mem_append_right _ (List.mem_append_right _ (List.mem_of_getElem? (i := 195) rfl)))) rfl
theorem mk_L_87 : Cond.methodLink R_L 87 y_M_part ∈ zT := zT_mem (List.mem_append_right _ (List.mem_append_right _ (List.mem_append_right _ (List.mem_of_getElem? (i := 196) rfl)))) rfl
theorem mo_M_part : Cond.instanceMethod y_M_part ∈ zT := zT_mem (List.mem_append_right _ (List.mem_append_right _ (List.mem_append_right _ (List.mem_of_getElem? (i := 197) rfl)))) rfl
theorem me_M_M_part_M : Cond.selects R_M y_M_part y_M_part ∈ zT := zT_mem (List.mem_append_right _ (List.mem_append_right _ (List.mem_append_right _ (List.mem_of_getElem? (i := 198) rfl)))) rfl
theorem mc_M_part : Cond.code y_M_part c_M_part 3 (some .int) ∈ zT := zT_mem (List.mem_append_right _ (List.mem_append_right _ (List.mem_append_right _ (List.mem_of_getElem? (i := 199) rfl)))) rfl
theorem mk_M_201 : Cond.methodLink R_M 201 y_M_isPart ∈ zT := zT_mem (List.mem_append_right _ (List.mem_append_right _ (List.mem_append_right _ (List.mem_of_getElem? (i := 200) rfl)))) rfl
theorem mo_M_isPart : Cond.instanceMethod y_M_isPart ∈ zT := zT_mem (List.mem_append_right _ (List.mem_append_right _ (List.mem_append_right _ (List.mem_of_getElem? (i := 202) rfl)))) rfl
theorem mc_M_isPart : Cond.code y_M_isPart c_M_isPart 3 (some .boolean) ∈ zT := zT_mem (List.mem_append_right _ (List.mem_append_right _ (List.mem_append_right _ (List.mem_of_getElem? (i := 203) rfl)))) rfl
theorem mk_L_92 : Cond.methodLink R_L 92 y_M_change ∈ zT := zT_mem (List.mem_append_right _ (List.mem_append_right _ (List.mem_append_right _ (List.mem_of_getElem? (i := 204) rfl)))) rfl
theorem mo_M_change : Cond.instanceMethod y_M_change ∈ zT := zT_mem (List.mem_append_right _ (List.mem_append_right _ (List.mem_append_right _ (List.mem_of_getElem? (i := 205) rfl)))) rfl
theorem me_M_M_change_M : Cond.selects R_M y_M_change y_M_change ∈ zT := zT_mem (List.mem_append_right _ (List.mem_append_right _ (List.mem_append_right _ (List.mem_of_getElem? (i := 206) rfl)))) rfl
theorem mc_M_change : Cond.code y_M_change c_M_change 4 (some .boolean) ∈ zT := zT_mem (List.mem_append_right _ (List.mem_append_right _ (List.mem_append_right _ (List.mem_of_getElem? (i := 207) rfl)))) rfl
theorem mk_L_96 : Cond.methodLink R_L 96 y_M_save ∈ zT := zT_mem (List.mem_append_right _ (List.mem_append_right _ (List.mem_append_right _ (List.mem_of_getElem? (i := 208) rfl)))) rfl
theorem mo_M_save : Cond.instanceMethod y_M_save ∈ zT := zT_mem (List.mem_append_right _ (List.mem_append_right _ (List.mem_append_right _ (List.mem_of_getElem? (i := 209) rfl)))) rfl
theorem me_M_M_save_M : Cond.selects R_M y_M_save y_M_save ∈ zT := zT_mem (List.mem_append_right _ (List.mem_append_right _ (List.mem_append_right _ (List.mem_of_getElem? (i := 210) rfl)))) rfl
theorem mc_M_save : Cond.code y_M_save c_M_save 2 (some .boolean) ∈ zT := zT_mem (List.mem_append_right _ (List.mem_append_right _ (List.mem_append_right _ (List.mem_of_getElem? (i := 211) rfl)))) rfl
theorem mk_L_100 : Cond.methodLink R_L 100 y_M_extract ∈ zT := zT_mem (List.mem_append_right _ (List.mem_append_right _ (List.mem_append_right _ (List.mem_of_getElem? (i := 212) rfl)))) rfl
theorem mo_M_extract : Cond.instanceMethod y_M_extract ∈ zT := zT_mem (List.mem_append_right _ (List.mem_append_right _ (List.mem_append_right _ (List.mem_of_getElem? (i := 213) rfl)))) rfl
theorem me_M_M_extract_M : Cond.selects R_M y_M_extract y_M_extract ∈ zT := zT_mem (List.mem_append_right _ (List.mem_append_right _ (List.mem_append_right _ (List.mem_of_getElem? (i := 214) rfl)))) rfl
theorem mc_M_extract : Cond.code y_M_extract c_M_extract 5 (some .int) ∈ zT := zT_mem (List.mem_append_right _ (List.mem_append_right _ (List.mem_append_right _ (List.mem_of_getElem? (i := 215) rfl)))) rfl
theorem mk_M_204 : Cond.methodLink R_M 204 y_M_sameCommitments ∈ zT := zT_mem (List.mem_append_right _ (List.mem_append_right _ (List.mem_append_right _ (List.mem_of_getElem? (i := 216) rfl)))) rfl
theorem mo_M_sameCommitments : Cond.instanceMethod y_M_sameCommitments ∈ zT := zT_mem (List.mem_append_right _ (List.mem_append_right _ (List.mem_append_right _ (List.mem_of_getElem? (i := 218) rfl)))) rfl
theorem mc_M_sameCommitments : Cond.code y_M_sameCommitments c_M_sameCommitments 3 (some .boolean) ∈ zT := zT_mem (List.mem_append_right _ (List.mem_append_right _ (List.mem_append_right _ (List.mem_of_getElem? (i := 219) rfl)))) rfl
theorem mk_M_207 : Cond.methodLink R_M 207 y_M_inverse ∈ zT := zT_mem (List.mem_append_right _ (List.mem_append_right _ (List.mem_append_right _ (List.mem_of_getElem? (i := 220) rfl)))) rfl
theorem ms_M_inverse : Cond.static y_M_inverse ∈ zT := zT_mem (List.mem_append_right _ (List.mem_append_right _ (List.mem_append_right _ (List.mem_of_getElem? (i := 221) rfl)))) rfl
theorem mc_M_inverse : Cond.code y_M_inverse c_M_inverse 3 (some .int) ∈ zT := zT_mem (List.mem_append_right _ (List.mem_append_right _ (List.mem_append_right _ (List.mem_of_getElem? (i := 222) rfl)))) rfl
theorem mx_A_S : Cond.castable R_A R_S ∈ lw_tbl := List.mem_append_right _ (List.mem_append_right _ (List.mem_append_right _ (List.mem_of_getElem? (i := 223) rfl)))
theorem mx_F_S : Cond.castable R_F R_S ∈ lw_tbl := List.mem_append_right _ (List.mem_append_right _ (List.mem_append_right _ (List.mem_of_getElem? (i := 224) rfl)))
theorem mx_O_S : Cond.castable R_O R_S ∈ lw_tbl := List.mem_append_right _ (List.mem_append_right _ (List.mem_append_right _ (List.mem_of_getElem? (i := 225) rfl)))
theorem me_D_D_isFull_D : Cond.selects R_D y_D_isFull y_D_isFull ∈ zT := zT_mem (List.mem_append_left _ (List.mem_of_getElem? (i := 0) rfl)) rfl
theorem me_D_D_push_D : Cond.selects R_D y_D_push y_D_push ∈ zT := zT_mem (List.mem_append_left _ (List.mem_of_getElem? (i := 1) rfl)) rfl
theorem me_D_D_drop_D : Cond.selects R_D y_D_drop y_D_drop ∈ zT := zT_mem (List.mem_append_left _ (List.mem_of_getElem? (i := 2) rfl)) rfl
theorem me_D_D_isLeaf_D : Cond.selects R_D y_D_isLeaf y_D_isLeaf ∈ zT := zT_mem (List.mem_append_left _ (List.mem_of_getElem? (i := 3) rfl)) rfl
theorem me_D_D_isAccepted_D : Cond.selects R_D y_D_isAccepted y_D_isAccepted ∈ zT := zT_mem (List.mem_append_left _ (List.mem_of_getElem? (i := 4) rfl)) rfl
theorem me_D_D_isPart_D : Cond.selects R_D y_D_isPart y_D_isPart ∈ zT := zT_mem (List.mem_append_left _ (List.mem_of_getElem? (i := 5) rfl)) rfl
theorem me_D_D_sameCommitments_D : Cond.selects R_D y_D_sameCommitments y_D_sameCommitments ∈ zT := zT_mem (List.mem_append_left _ (List.mem_of_getElem? (i := 6) rfl)) rfl
theorem me_D_D_givenAway_D : Cond.selects R_D y_D_givenAway y_D_givenAway ∈ zT := zT_mem (List.mem_append_left _ (List.mem_of_getElem? (i := 7) rfl)) rfl
theorem me_M_M_push_M : Cond.selects R_M y_M_push y_M_push ∈ zT := zT_mem (List.mem_append_left _ (List.mem_of_getElem? (i := 8) rfl)) rfl
theorem me_M_M_isLeaf_M : Cond.selects R_M y_M_isLeaf y_M_isLeaf ∈ zT := zT_mem (List.mem_append_left _ (List.mem_of_getElem? (i := 9) rfl)) rfl
theorem me_M_M_isPair_M : Cond.selects R_M y_M_isPair y_M_isPair ∈ zT := zT_mem (List.mem_append_left _ (List.mem_of_getElem? (i := 10) rfl)) rfl
theorem me_M_M_know_M : Cond.selects R_M y_M_know y_M_know ∈ zT := zT_mem (List.mem_append_left _ (List.mem_of_getElem? (i := 11) rfl)) rfl
theorem me_M_M_commitTree_M : Cond.selects R_M y_M_commitTree y_M_commitTree ∈ zT := zT_mem (List.mem_append_left _ (List.mem_of_getElem? (i := 12) rfl)) rfl
theorem me_M_M_later_M : Cond.selects R_M y_M_later y_M_later ∈ zT := zT_mem (List.mem_append_left _ (List.mem_of_getElem? (i := 13) rfl)) rfl
theorem me_M_M_commitLeaf_M : Cond.selects R_M y_M_commitLeaf y_M_commitLeaf ∈ zT := zT_mem (List.mem_append_left _ (List.mem_of_getElem? (i := 14) rfl)) rfl
theorem me_M_M_draw_M : Cond.selects R_M y_M_draw y_M_draw ∈ zT := zT_mem (List.mem_append_left _ (List.mem_of_getElem? (i := 15) rfl)) rfl
theorem me_M_M_commitOr_M : Cond.selects R_M y_M_commitOr y_M_commitOr ∈ zT := zT_mem (List.mem_append_left _ (List.mem_of_getElem? (i := 16) rfl)) rfl
theorem me_M_M_respondTree_M : Cond.selects R_M y_M_respondTree y_M_respondTree ∈ zT := zT_mem (List.mem_append_left _ (List.mem_of_getElem? (i := 17) rfl)) rfl
theorem me_M_M_respondLeaf_M : Cond.selects R_M y_M_respondLeaf y_M_respondLeaf ∈ zT := zT_mem (List.mem_append_left _ (List.mem_of_getElem? (i := 18) rfl)) rfl
theorem me_M_M_hashed_M : Cond.selects R_M y_M_hashed y_M_hashed ∈ zT := zT_mem (List.mem_append_left _ (List.mem_of_getElem? (i := 19) rfl)) rfl
theorem me_M_M_isAccepted_M : Cond.selects R_M y_M_isAccepted y_M_isAccepted ∈ zT := zT_mem (List.mem_append_left _ (List.mem_of_getElem? (i := 20) rfl)) rfl
theorem me_M_M_joined_M : Cond.selects R_M y_M_joined y_M_joined ∈ zT := zT_mem (List.mem_append_left _ (List.mem_of_getElem? (i := 21) rfl)) rfl
theorem me_M_M_accepts_M : Cond.selects R_M y_M_accepts y_M_accepts ∈ zT := zT_mem (List.mem_append_left _ (List.mem_of_getElem? (i := 22) rfl)) rfl
theorem me_M_M_isPart_M : Cond.selects R_M y_M_isPart y_M_isPart ∈ zT := zT_mem (List.mem_append_left _ (List.mem_of_getElem? (i := 23) rfl)) rfl
theorem me_M_M_sameCommitments_M : Cond.selects R_M y_M_sameCommitments y_M_sameCommitments ∈ zT := zT_mem (List.mem_append_left _ (List.mem_of_getElem? (i := 24) rfl)) rfl
theorem in_D : ∀ w ∈ u_ws R_D T_D 10, w ∈ zT := by
  intro w hw
  obtain ⟨k, hk, rfl⟩ := List.mem_map.mp hw
  have hk := List.mem_range.mp hk
  rcases (show k = 0 ∨ k = 1 ∨ k = 2 ∨ k = 3 ∨ k = 4 ∨ k = 5 ∨ k = 6 ∨ k = 7 ∨ k = 8 ∨ k = 9 by omega) with rfl | rfl | rfl | rfl | rfl | rfl | rfl | rfl | rfl | rfl
  · exact my_D_stack
  · exact my_D_height
  · exact my_D_tree
  · exact my_D_leaves
  · exact my_D_leafCount
  · exact my_D_drawing
  · exact my_D_present
  · exact my_D_kept
  · exact my_D_isKept
  · exact my_D_canRespond
theorem in_M : ∀ w ∈ u_ws R_M T_M 34, w ∈ zT := by
  intro w hw
  obtain ⟨k, hk, rfl⟩ := List.mem_map.mp hw
  have hk := List.mem_range.mp hk
  rcases (show k = 0 ∨ k = 1 ∨ k = 2 ∨ k = 3 ∨ k = 4 ∨ k = 5 ∨ k = 6 ∨ k = 7 ∨ k = 8 ∨ k = 9 ∨ k = 10 ∨ k = 11 ∨ k = 12 ∨ k = 13 ∨ k = 14 ∨ k = 15 ∨ k = 16 ∨ k = 17 ∨ k = 18 ∨ k = 19 ∨ k = 20 ∨ k = 21 ∨ k = 22 ∨ k = 23 ∨ k = 24 ∨ k = 25 ∨ k = 26 ∨ k = 27 ∨ k = 28 ∨ k = 29 ∨ k = 30 ∨ k = 31 ∨ k = 32 ∨ k = 33 by omega) with rfl | rfl | rfl | rfl | rfl | rfl | rfl | rfl | rfl | rfl | rfl | rfl | rfl | rfl | rfl | rfl | rfl | rfl | rfl | rfl | rfl | rfl | rfl | rfl | rfl | rfl | rfl | rfl | rfl | rfl | rfl | rfl | rfl | rfl
  · exact my_M_kind
  · exact my_M_base
  · exact my_M_image
  · exact my_M_base2
  · exact my_M_image2
  · exact my_M_start
  · exact my_M_node
  · exact my_M_left
  · exact my_M_right
  · exact my_M_leafOf
  · exact my_M_bases
  · exact my_M_images
  · exact my_M_witnesses
  · exact my_M_commitment
  · exact my_M_challenged
  · exact my_M_response
  · exact my_M_savedCommitment
  · exact my_M_savedChallenge
  · exact my_M_savedResponse
  · exact my_M_nonce
  · exact my_M_leftReal
  · exact my_M_drawn
  · exact my_M_queue
  · exact my_M_with
  · exact my_M_real
  · exact my_M_value
  · exact my_M_held
  · exact my_M_top
  · exact my_M_size
  · exact my_M_leaves
  · exact my_M_saved
  · exact my_M_committed
  · exact my_M_state
  · exact my_M_todo
theorem in_A : ∀ w ∈ u_ws R_A T_A 3, w ∈ zT := by
  intro w hw
  obtain ⟨k, hk, rfl⟩ := List.mem_map.mp hw
  have hk := List.mem_range.mp hk
  rcases (show k = 0 ∨ k = 1 ∨ k = 2 by omega) with rfl | rfl | rfl
  · exact my_A_left
  · exact my_A_right
  · exact my_A_size
theorem in_O : ∀ w ∈ u_ws R_O T_O 5, w ∈ zT := by
  intro w hw
  obtain ⟨k, hk, rfl⟩ := List.mem_map.mp hw
  have hk := List.mem_range.mp hk
  rcases (show k = 0 ∨ k = 1 ∨ k = 2 ∨ k = 3 ∨ k = 4 by omega) with rfl | rfl | rfl | rfl | rfl
  · exact my_O_left
  · exact my_O_right
  · exact my_O_size
  · exact my_O_leftIsReal
  · exact my_O_otherChallenge
theorem in_F : ∀ w ∈ u_ws R_F T_F 7, w ∈ zT := by
  intro w hw
  obtain ⟨k, hk, rfl⟩ := List.mem_map.mp hw
  have hk := List.mem_range.mp hk
  rcases (show k = 0 ∨ k = 1 ∨ k = 2 ∨ k = 3 ∨ k = 4 ∨ k = 5 ∨ k = 6 by omega) with rfl | rfl | rfl | rfl | rfl | rfl | rfl
  · exact my_F_size
  · exact my_F_bases
  · exact my_F_elements
  · exact my_F_number
  · exact my_F_told
  · exact my_F_witness
  · exact my_F_nonce
theorem in_T : ∀ w ∈ u_ws R_T T_T 1, w ∈ zT := by
  intro w hw
  obtain ⟨k, hk, rfl⟩ := List.mem_map.mp hw
  have hk := List.mem_range.mp hk
  rcases (show k = 0 by omega) with rfl
  · exact my_T_parts
theorem in_G : ∀ w ∈ u_ws R_G T_G 1, w ∈ zT := by
  intro w hw
  obtain ⟨k, hk, rfl⟩ := List.mem_map.mp hw
  have hk := List.mem_range.mp hk
  rcases (show k = 0 by omega) with rfl
  · exact my_G_state
