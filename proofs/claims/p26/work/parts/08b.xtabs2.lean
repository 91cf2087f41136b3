theorem kiL : Cond.initialized RL ∈ TG := TG_in (List.mem_append_right _ (List.mem_of_getElem? (i := 0) (by decide +kernel))) (by decide +kernel)
theorem kiX8 : Cond.initialized RX8 ∈ TG := TG_in (List.mem_append_right _ (List.mem_of_getElem? (i := 1) (by decide +kernel))) (by decide +kernel)
theorem kiX7 : Cond.initialized RX7 ∈ TG := TG_in (List.mem_append_right _ (List.mem_of_getElem? (i := 2) (by decide +kernel))) (by decide +kernel)
theorem kiX4 : Cond.initialized RX4 ∈ TG := TG_in (List.mem_append_right _ (List.mem_of_getElem? (i := 3) (by decide +kernel))) (by decide +kernel)
theorem kiX5 : Cond.initialized RX5 ∈ TG := TG_in (List.mem_append_right _ (List.mem_of_getElem? (i := 4) (by decide +kernel))) (by decide +kernel)
theorem kiX0 : Cond.initialized RX0 ∈ TG := TG_in (List.mem_append_right _ (List.mem_of_getElem? (i := 5) (by decide +kernel))) (by decide +kernel)
theorem kiX6 : Cond.initialized RX6 ∈ TG := TG_in (List.mem_append_right _ (List.mem_of_getElem? (i := 6) (by decide +kernel))) (by decide +kernel)
theorem kiX2 : Cond.initialized RX2 ∈ TG := TG_in (List.mem_append_right _ (List.mem_of_getElem? (i := 7) (by decide +kernel))) (by decide +kernel)
theorem kiX1 : Cond.initialized RX1 ∈ TG := TG_in (List.mem_append_right _ (List.mem_of_getElem? (i := 8) (by decide +kernel))) (by decide +kernel)
theorem kiX3 : Cond.initialized RX3 ∈ TG := TG_in (List.mem_append_right _ (List.mem_of_getElem? (i := 9) (by decide +kernel))) (by decide +kernel)
theorem kiJ9 : Cond.initialized RJ9 ∈ TG := TG_in (List.mem_append_right _ (List.mem_of_getElem? (i := 10) (by decide +kernel))) (by decide +kernel)
theorem kiJ10 : Cond.initialized RJ10 ∈ TG := TG_in (List.mem_append_right _ (List.mem_of_getElem? (i := 11) (by decide +kernel))) (by decide +kernel)
theorem kiJ13 : Cond.initialized RJ13 ∈ TG := TG_in (List.mem_append_right _ (List.mem_of_getElem? (i := 12) (by decide +kernel))) (by decide +kernel)
theorem knX8_init : Cond.instanceMethod yX8_init ∈ TG := TG_in (List.mem_append_right _ (List.mem_of_getElem? (i := 16) (by decide +kernel))) (by decide +kernel)
theorem knX7_init : Cond.instanceMethod yX7_init ∈ TG := TG_in (List.mem_append_right _ (List.mem_of_getElem? (i := 24) (by decide +kernel))) (by decide +kernel)
theorem knX4_init : Cond.instanceMethod yX4_init ∈ TG := TG_in (List.mem_append_right _ (List.mem_of_getElem? (i := 41) (by decide +kernel))) (by decide +kernel)
theorem knX5_init : Cond.instanceMethod yX5_init ∈ TG := TG_in (List.mem_append_right _ (List.mem_of_getElem? (i := 63) (by decide +kernel))) (by decide +kernel)
theorem knX0_init : Cond.instanceMethod yX0_init ∈ TG := TG_in (List.mem_append_right _ (List.mem_of_getElem? (i := 80) (by decide +kernel))) (by decide +kernel)
theorem knX6_init : Cond.instanceMethod yX6_init ∈ TG := TG_in (List.mem_append_right _ (List.mem_of_getElem? (i := 87) (by decide +kernel))) (by decide +kernel)
theorem knX2_init : Cond.instanceMethod yX2_init ∈ TG := TG_in (List.mem_append_right _ (List.mem_of_getElem? (i := 93) (by decide +kernel))) (by decide +kernel)
theorem knX1_init : Cond.instanceMethod yX1_init ∈ TG := TG_in (List.mem_append_right _ (List.mem_of_getElem? (i := 114) (by decide +kernel))) (by decide +kernel)
theorem knX3_init : Cond.instanceMethod yX3_init ∈ TG := TG_in (List.mem_append_right _ (List.mem_of_getElem? (i := 133) (by decide +kernel))) (by decide +kernel)
theorem knX8_add : Cond.instanceMethod yX8_add ∈ TG := TG_in (List.mem_append_right _ (List.mem_of_getElem? (i := 208) (by decide +kernel))) (by decide +kernel)
theorem kvX8_add : Cond.selects yX8_add.cls yX8_add yX8_add ∈ TG := TG_in (List.mem_append_right _ (List.mem_of_getElem? (i := 209) (by decide +kernel))) (by decide +kernel)
theorem knX8_placeOrRoot : Cond.instanceMethod yX8_placeOrRoot ∈ TG := TG_in (List.mem_append_right _ (List.mem_of_getElem? (i := 213) (by decide +kernel))) (by decide +kernel)
theorem kvX8_placeOrRoot : Cond.selects yX8_placeOrRoot.cls yX8_placeOrRoot yX8_placeOrRoot ∈ TG := TG_in (List.mem_append_left _ (List.mem_of_getElem? (i := 0) (by decide +kernel))) (by decide +kernel)
theorem knX5_placeOf : Cond.instanceMethod yX5_placeOf ∈ TG := TG_in (List.mem_append_right _ (List.mem_of_getElem? (i := 216) (by decide +kernel))) (by decide +kernel)
theorem kvX5_placeOf : Cond.selects yX5_placeOf.cls yX5_placeOf yX5_placeOf ∈ TG := TG_in (List.mem_append_right _ (List.mem_of_getElem? (i := 217) (by decide +kernel))) (by decide +kernel)
theorem knX7_fitsNode : Cond.instanceMethod yX7_fitsNode ∈ TG := TG_in (List.mem_append_right _ (List.mem_of_getElem? (i := 220) (by decide +kernel))) (by decide +kernel)
theorem kvX7_fitsNode : Cond.selects yX7_fitsNode.cls yX7_fitsNode yX7_fitsNode ∈ TG := TG_in (List.mem_append_right _ (List.mem_of_getElem? (i := 221) (by decide +kernel))) (by decide +kernel)
theorem knX6_copyFrom : Cond.instanceMethod yX6_copyFrom ∈ TG := TG_in (List.mem_append_right _ (List.mem_of_getElem? (i := 224) (by decide +kernel))) (by decide +kernel)
theorem kvX6_copyFrom : Cond.selects yX6_copyFrom.cls yX6_copyFrom yX6_copyFrom ∈ TG := TG_in (List.mem_append_right _ (List.mem_of_getElem? (i := 225) (by decide +kernel))) (by decide +kernel)
theorem knX2_copyFrom : Cond.instanceMethod yX2_copyFrom ∈ TG := TG_in (List.mem_append_right _ (List.mem_of_getElem? (i := 228) (by decide +kernel))) (by decide +kernel)
theorem kvX2_copyFrom : Cond.selects yX2_copyFrom.cls yX2_copyFrom yX2_copyFrom ∈ TG := TG_in (List.mem_append_right _ (List.mem_of_getElem? (i := 229) (by decide +kernel))) (by decide +kernel)
theorem knX1_copyFrom : Cond.instanceMethod yX1_copyFrom ∈ TG := TG_in (List.mem_append_right _ (List.mem_of_getElem? (i := 235) (by decide +kernel))) (by decide +kernel)
theorem kvX1_copyFrom : Cond.selects yX1_copyFrom.cls yX1_copyFrom yX1_copyFrom ∈ TG := TG_in (List.mem_append_right _ (List.mem_of_getElem? (i := 236) (by decide +kernel))) (by decide +kernel)
theorem knX3_copyFrom : Cond.instanceMethod yX3_copyFrom ∈ TG := TG_in (List.mem_append_right _ (List.mem_of_getElem? (i := 240) (by decide +kernel))) (by decide +kernel)
theorem kvX3_copyFrom : Cond.selects yX3_copyFrom.cls yX3_copyFrom yX3_copyFrom ∈ TG := TG_in (List.mem_append_right _ (List.mem_of_getElem? (i := 241) (by decide +kernel))) (by decide +kernel)
theorem knX2_makeNode : Cond.instanceMethod yX2_makeNode ∈ TG := TG_in (List.mem_append_right _ (List.mem_of_getElem? (i := 245) (by decide +kernel))) (by decide +kernel)
theorem kvX2_makeNode : Cond.selects yX2_makeNode.cls yX2_makeNode yX2_makeNode ∈ TG := TG_in (List.mem_append_right _ (List.mem_of_getElem? (i := 246) (by decide +kernel))) (by decide +kernel)
theorem knX2_setText : Cond.instanceMethod yX2_setText ∈ TG := TG_in (List.mem_append_right _ (List.mem_of_getElem? (i := 249) (by decide +kernel))) (by decide +kernel)
theorem kvX2_setText : Cond.selects yX2_setText.cls yX2_setText yX2_setText ∈ TG := TG_in (List.mem_append_right _ (List.mem_of_getElem? (i := 250) (by decide +kernel))) (by decide +kernel)
theorem ksX2_isNumber : Cond.static yX2_isNumber ∈ TG := TG_in (List.mem_append_right _ (List.mem_of_getElem? (i := 253) (by decide +kernel))) (by decide +kernel)
theorem knX7_codeAt : Cond.instanceMethod yX7_codeAt ∈ TG := TG_in (List.mem_append_right _ (List.mem_of_getElem? (i := 257) (by decide +kernel))) (by decide +kernel)
theorem kvX7_codeAt : Cond.selects yX7_codeAt.cls yX7_codeAt yX7_codeAt ∈ TG := TG_in (List.mem_append_right _ (List.mem_of_getElem? (i := 258) (by decide +kernel))) (by decide +kernel)
theorem knX3_nodeOf : Cond.instanceMethod yX3_nodeOf ∈ TG := TG_in (List.mem_append_right _ (List.mem_of_getElem? (i := 261) (by decide +kernel))) (by decide +kernel)
theorem kvX3_nodeOf : Cond.selects yX3_nodeOf.cls yX3_nodeOf yX3_nodeOf ∈ TG := TG_in (List.mem_append_right _ (List.mem_of_getElem? (i := 262) (by decide +kernel))) (by decide +kernel)
theorem knX3_isThere : Cond.instanceMethod yX3_isThere ∈ TG := TG_in (List.mem_append_right _ (List.mem_of_getElem? (i := 266) (by decide +kernel))) (by decide +kernel)
theorem kvX3_isThere : Cond.selects yX3_isThere.cls yX3_isThere yX3_isThere ∈ TG := TG_in (List.mem_append_left _ (List.mem_of_getElem? (i := 1) (by decide +kernel))) (by decide +kernel)
theorem knX8_attach : Cond.instanceMethod yX8_attach ∈ TG := TG_in (List.mem_append_right _ (List.mem_of_getElem? (i := 270) (by decide +kernel))) (by decide +kernel)
theorem kvX8_attach : Cond.selects yX8_attach.cls yX8_attach yX8_attach ∈ TG := TG_in (List.mem_append_left _ (List.mem_of_getElem? (i := 2) (by decide +kernel))) (by decide +kernel)
theorem knX1_append : Cond.instanceMethod yX1_append ∈ TG := TG_in (List.mem_append_right _ (List.mem_of_getElem? (i := 273) (by decide +kernel))) (by decide +kernel)
theorem kvX1_append : Cond.selects yX1_append.cls yX1_append yX1_append ∈ TG := TG_in (List.mem_append_right _ (List.mem_of_getElem? (i := 274) (by decide +kernel))) (by decide +kernel)
theorem knX6_placeAgain : Cond.instanceMethod yX6_placeAgain ∈ TG := TG_in (List.mem_append_right _ (List.mem_of_getElem? (i := 277) (by decide +kernel))) (by decide +kernel)
theorem kvX6_placeAgain : Cond.selects yX6_placeAgain.cls yX6_placeAgain yX6_placeAgain ∈ TG := TG_in (List.mem_append_right _ (List.mem_of_getElem? (i := 278) (by decide +kernel))) (by decide +kernel)
theorem ksX6_grow : Cond.static yX6_grow ∈ TG := TG_in (List.mem_append_right _ (List.mem_of_getElem? (i := 281) (by decide +kernel))) (by decide +kernel)
theorem knX3_childPlace : Cond.instanceMethod yX3_childPlace ∈ TG := TG_in (List.mem_append_right _ (List.mem_of_getElem? (i := 285) (by decide +kernel))) (by decide +kernel)
theorem kvX3_childPlace : Cond.selects yX3_childPlace.cls yX3_childPlace yX3_childPlace ∈ TG := TG_in (List.mem_append_right _ (List.mem_of_getElem? (i := 286) (by decide +kernel))) (by decide +kernel)
theorem knX3_levelOf : Cond.instanceMethod yX3_levelOf ∈ TG := TG_in (List.mem_append_right _ (List.mem_of_getElem? (i := 289) (by decide +kernel))) (by decide +kernel)
theorem kvX3_levelOf : Cond.selects yX3_levelOf.cls yX3_levelOf yX3_levelOf ∈ TG := TG_in (List.mem_append_right _ (List.mem_of_getElem? (i := 290) (by decide +kernel))) (by decide +kernel)
theorem knX3_foldOf : Cond.instanceMethod yX3_foldOf ∈ TG := TG_in (List.mem_append_right _ (List.mem_of_getElem? (i := 293) (by decide +kernel))) (by decide +kernel)
theorem kvX3_foldOf : Cond.selects yX3_foldOf.cls yX3_foldOf yX3_foldOf ∈ TG := TG_in (List.mem_append_right _ (List.mem_of_getElem? (i := 294) (by decide +kernel))) (by decide +kernel)
theorem knX3_append : Cond.instanceMethod yX3_append ∈ TG := TG_in (List.mem_append_right _ (List.mem_of_getElem? (i := 297) (by decide +kernel))) (by decide +kernel)
theorem kvX3_append : Cond.selects yX3_append.cls yX3_append yX3_append ∈ TG := TG_in (List.mem_append_right _ (List.mem_of_getElem? (i := 298) (by decide +kernel))) (by decide +kernel)
theorem knX8_accept : Cond.instanceMethod yX8_accept ∈ TG := TG_in (List.mem_append_right _ (List.mem_of_getElem? (i := 302) (by decide +kernel))) (by decide +kernel)
theorem kvX8_accept : Cond.selects yX8_accept.cls yX8_accept yX8_accept ∈ TG := TG_in (List.mem_append_left _ (List.mem_of_getElem? (i := 3) (by decide +kernel))) (by decide +kernel)
theorem knX0_push : Cond.instanceMethod yX0_push ∈ TG := TG_in (List.mem_append_right _ (List.mem_of_getElem? (i := 305) (by decide +kernel))) (by decide +kernel)
theorem kvX0_push : Cond.selects yX0_push.cls yX0_push yX0_push ∈ TG := TG_in (List.mem_append_right _ (List.mem_of_getElem? (i := 306) (by decide +kernel))) (by decide +kernel)
theorem ksJ9_floorMod_7cf53 : Cond.static yJ9_floorMod_7cf53 ∈ TG := TG_in (List.mem_append_right _ (List.mem_of_getElem? (i := 309) (by decide +kernel))) (by decide +kernel)
theorem knX5_refresh : Cond.instanceMethod yX5_refresh ∈ TG := TG_in (List.mem_append_right _ (List.mem_of_getElem? (i := 313) (by decide +kernel))) (by decide +kernel)
theorem kvX5_refresh : Cond.selects yX5_refresh.cls yX5_refresh yX5_refresh ∈ TG := TG_in (List.mem_append_right _ (List.mem_of_getElem? (i := 314) (by decide +kernel))) (by decide +kernel)
theorem knX3_countOf : Cond.instanceMethod yX3_countOf ∈ TG := TG_in (List.mem_append_right _ (List.mem_of_getElem? (i := 317) (by decide +kernel))) (by decide +kernel)
theorem kvX3_countOf : Cond.selects yX3_countOf.cls yX3_countOf yX3_countOf ∈ TG := TG_in (List.mem_append_right _ (List.mem_of_getElem? (i := 318) (by decide +kernel))) (by decide +kernel)
theorem knX8_cut : Cond.instanceMethod yX8_cut ∈ TG := TG_in (List.mem_append_right _ (List.mem_of_getElem? (i := 321) (by decide +kernel))) (by decide +kernel)
theorem kvX8_cut : Cond.selects yX8_cut.cls yX8_cut yX8_cut ∈ TG := TG_in (List.mem_append_right _ (List.mem_of_getElem? (i := 322) (by decide +kernel))) (by decide +kernel)
theorem knX8_parentNodeOf : Cond.instanceMethod yX8_parentNodeOf ∈ TG := TG_in (List.mem_append_right _ (List.mem_of_getElem? (i := 326) (by decide +kernel))) (by decide +kernel)
theorem kvX8_parentNodeOf : Cond.selects yX8_parentNodeOf.cls yX8_parentNodeOf yX8_parentNodeOf ∈ TG := TG_in (List.mem_append_left _ (List.mem_of_getElem? (i := 4) (by decide +kernel))) (by decide +kernel)
theorem knX3_parentOf : Cond.instanceMethod yX3_parentOf ∈ TG := TG_in (List.mem_append_right _ (List.mem_of_getElem? (i := 329) (by decide +kernel))) (by decide +kernel)
theorem kvX3_parentOf : Cond.selects yX3_parentOf.cls yX3_parentOf yX3_parentOf ∈ TG := TG_in (List.mem_append_right _ (List.mem_of_getElem? (i := 330) (by decide +kernel))) (by decide +kernel)
theorem knX3_atLevel : Cond.instanceMethod yX3_atLevel ∈ TG := TG_in (List.mem_append_right _ (List.mem_of_getElem? (i := 333) (by decide +kernel))) (by decide +kernel)
theorem kvX3_atLevel : Cond.selects yX3_atLevel.cls yX3_atLevel yX3_atLevel ∈ TG := TG_in (List.mem_append_right _ (List.mem_of_getElem? (i := 334) (by decide +kernel))) (by decide +kernel)
theorem ksJ9_min_7cf53 : Cond.static yJ9_min_7cf53 ∈ TG := TG_in (List.mem_append_right _ (List.mem_of_getElem? (i := 337) (by decide +kernel))) (by decide +kernel)
theorem knX1_drop : Cond.instanceMethod yX1_drop ∈ TG := TG_in (List.mem_append_right _ (List.mem_of_getElem? (i := 340) (by decide +kernel))) (by decide +kernel)
theorem kvX1_drop : Cond.selects yX1_drop.cls yX1_drop yX1_drop ∈ TG := TG_in (List.mem_append_right _ (List.mem_of_getElem? (i := 341) (by decide +kernel))) (by decide +kernel)
theorem knX1_indexOf : Cond.instanceMethod yX1_indexOf ∈ TG := TG_in (List.mem_append_right _ (List.mem_of_getElem? (i := 344) (by decide +kernel))) (by decide +kernel)
theorem kvX1_indexOf : Cond.selects yX1_indexOf.cls yX1_indexOf yX1_indexOf ∈ TG := TG_in (List.mem_append_right _ (List.mem_of_getElem? (i := 345) (by decide +kernel))) (by decide +kernel)
theorem knX3_nodeSet : Cond.instanceMethod yX3_nodeSet ∈ TG := TG_in (List.mem_append_right _ (List.mem_of_getElem? (i := 348) (by decide +kernel))) (by decide +kernel)
theorem kvX3_nodeSet : Cond.selects yX3_nodeSet.cls yX3_nodeSet yX3_nodeSet ∈ TG := TG_in (List.mem_append_right _ (List.mem_of_getElem? (i := 349) (by decide +kernel))) (by decide +kernel)
theorem knX3_nodesWithin : Cond.instanceMethod yX3_nodesWithin ∈ TG := TG_in (List.mem_append_right _ (List.mem_of_getElem? (i := 352) (by decide +kernel))) (by decide +kernel)
theorem kvX3_nodesWithin : Cond.selects yX3_nodesWithin.cls yX3_nodesWithin yX3_nodesWithin ∈ TG := TG_in (List.mem_append_right _ (List.mem_of_getElem? (i := 353) (by decide +kernel))) (by decide +kernel)
theorem knX3_endOf : Cond.instanceMethod yX3_endOf ∈ TG := TG_in (List.mem_append_right _ (List.mem_of_getElem? (i := 356) (by decide +kernel))) (by decide +kernel)
theorem kvX3_endOf : Cond.selects yX3_endOf.cls yX3_endOf yX3_endOf ∈ TG := TG_in (List.mem_append_right _ (List.mem_of_getElem? (i := 357) (by decide +kernel))) (by decide +kernel)
theorem ksJ9_max_7cf53 : Cond.static yJ9_max_7cf53 ∈ TG := TG_in (List.mem_append_right _ (List.mem_of_getElem? (i := 360) (by decide +kernel))) (by decide +kernel)
theorem knX6_dropVanished : Cond.instanceMethod yX6_dropVanished ∈ TG := TG_in (List.mem_append_right _ (List.mem_of_getElem? (i := 363) (by decide +kernel))) (by decide +kernel)
theorem kvX6_dropVanished : Cond.selects yX6_dropVanished.cls yX6_dropVanished yX6_dropVanished ∈ TG := TG_in (List.mem_append_right _ (List.mem_of_getElem? (i := 364) (by decide +kernel))) (by decide +kernel)
theorem knX1_keepParents : Cond.instanceMethod yX1_keepParents ∈ TG := TG_in (List.mem_append_right _ (List.mem_of_getElem? (i := 368) (by decide +kernel))) (by decide +kernel)
theorem kvX1_keepParents : Cond.selects yX1_keepParents.cls yX1_keepParents yX1_keepParents ∈ TG := TG_in (List.mem_append_right _ (List.mem_of_getElem? (i := 369) (by decide +kernel))) (by decide +kernel)
theorem ksJ13_bitCount_95d88 : Cond.static yJ13_bitCount_95d88 ∈ TG := TG_in (List.mem_append_right _ (List.mem_of_getElem? (i := 373) (by decide +kernel))) (by decide +kernel)
theorem knX8_show : Cond.instanceMethod yX8_show ∈ TG := TG_in (List.mem_append_right _ (List.mem_of_getElem? (i := 379) (by decide +kernel))) (by decide +kernel)
theorem kvX8_show : Cond.selects yX8_show.cls yX8_show yX8_show ∈ TG := TG_in (List.mem_append_right _ (List.mem_of_getElem? (i := 380) (by decide +kernel))) (by decide +kernel)
theorem knX3_firstOf : Cond.instanceMethod yX3_firstOf ∈ TG := TG_in (List.mem_append_right _ (List.mem_of_getElem? (i := 383) (by decide +kernel))) (by decide +kernel)
theorem kvX3_firstOf : Cond.selects yX3_firstOf.cls yX3_firstOf yX3_firstOf ∈ TG := TG_in (List.mem_append_right _ (List.mem_of_getElem? (i := 384) (by decide +kernel))) (by decide +kernel)
theorem knX3_unfoldAround : Cond.instanceMethod yX3_unfoldAround ∈ TG := TG_in (List.mem_append_right _ (List.mem_of_getElem? (i := 387) (by decide +kernel))) (by decide +kernel)
theorem kvX3_unfoldAround : Cond.selects yX3_unfoldAround.cls yX3_unfoldAround yX3_unfoldAround ∈ TG := TG_in (List.mem_append_right _ (List.mem_of_getElem? (i := 388) (by decide +kernel))) (by decide +kernel)
theorem knX5_rowOf : Cond.instanceMethod yX5_rowOf ∈ TG := TG_in (List.mem_append_right _ (List.mem_of_getElem? (i := 391) (by decide +kernel))) (by decide +kernel)
theorem kvX5_rowOf : Cond.selects yX5_rowOf.cls yX5_rowOf yX5_rowOf ∈ TG := TG_in (List.mem_append_right _ (List.mem_of_getElem? (i := 392) (by decide +kernel))) (by decide +kernel)
theorem knX8_readOutline : Cond.instanceMethod yX8_readOutline ∈ TG := TG_in (List.mem_append_right _ (List.mem_of_getElem? (i := 395) (by decide +kernel))) (by decide +kernel)
theorem kvX8_readOutline : Cond.selects yX8_readOutline.cls yX8_readOutline yX8_readOutline ∈ TG := TG_in (List.mem_append_right _ (List.mem_of_getElem? (i := 396) (by decide +kernel))) (by decide +kernel)
theorem knX6_clearNodes : Cond.instanceMethod yX6_clearNodes ∈ TG := TG_in (List.mem_append_right _ (List.mem_of_getElem? (i := 399) (by decide +kernel))) (by decide +kernel)
theorem kvX6_clearNodes : Cond.selects yX6_clearNodes.cls yX6_clearNodes yX6_clearNodes ∈ TG := TG_in (List.mem_append_right _ (List.mem_of_getElem? (i := 400) (by decide +kernel))) (by decide +kernel)
theorem knX4_read : Cond.instanceMethod yX4_read ∈ TG := TG_in (List.mem_append_right _ (List.mem_of_getElem? (i := 403) (by decide +kernel))) (by decide +kernel)
theorem kvX4_read : Cond.selects yX4_read.cls yX4_read yX4_read ∈ TG := TG_in (List.mem_append_right _ (List.mem_of_getElem? (i := 404) (by decide +kernel))) (by decide +kernel)
theorem knX4_begin : Cond.instanceMethod yX4_begin ∈ TG := TG_in (List.mem_append_right _ (List.mem_of_getElem? (i := 408) (by decide +kernel))) (by decide +kernel)
theorem kvX4_begin : Cond.selects yX4_begin.cls yX4_begin yX4_begin ∈ TG := TG_in (List.mem_append_left _ (List.mem_of_getElem? (i := 5) (by decide +kernel))) (by decide +kernel)
theorem knX4_takeLetter : Cond.instanceMethod yX4_takeLetter ∈ TG := TG_in (List.mem_append_right _ (List.mem_of_getElem? (i := 413) (by decide +kernel))) (by decide +kernel)
theorem kvX4_takeLetter : Cond.selects yX4_takeLetter.cls yX4_takeLetter yX4_takeLetter ∈ TG := TG_in (List.mem_append_left _ (List.mem_of_getElem? (i := 6) (by decide +kernel))) (by decide +kernel)
theorem knX2_setLetter : Cond.instanceMethod yX2_setLetter ∈ TG := TG_in (List.mem_append_right _ (List.mem_of_getElem? (i := 417) (by decide +kernel))) (by decide +kernel)
theorem kvX2_setLetter : Cond.selects yX2_setLetter.cls yX2_setLetter yX2_setLetter ∈ TG := TG_in (List.mem_append_right _ (List.mem_of_getElem? (i := 418) (by decide +kernel))) (by decide +kernel)
theorem knX4_isOpen : Cond.instanceMethod yX4_isOpen ∈ TG := TG_in (List.mem_append_right _ (List.mem_of_getElem? (i := 422) (by decide +kernel))) (by decide +kernel)
theorem kvX4_isOpen : Cond.selects yX4_isOpen.cls yX4_isOpen yX4_isOpen ∈ TG := TG_in (List.mem_append_left _ (List.mem_of_getElem? (i := 7) (by decide +kernel))) (by decide +kernel)
theorem knX4_takeSign : Cond.instanceMethod yX4_takeSign ∈ TG := TG_in (List.mem_append_right _ (List.mem_of_getElem? (i := 428) (by decide +kernel))) (by decide +kernel)
theorem kvX4_takeSign : Cond.selects yX4_takeSign.cls yX4_takeSign yX4_takeSign ∈ TG := TG_in (List.mem_append_left _ (List.mem_of_getElem? (i := 8) (by decide +kernel))) (by decide +kernel)
theorem knX6_placeAnew : Cond.instanceMethod yX6_placeAnew ∈ TG := TG_in (List.mem_append_right _ (List.mem_of_getElem? (i := 431) (by decide +kernel))) (by decide +kernel)
theorem kvX6_placeAnew : Cond.selects yX6_placeAnew.cls yX6_placeAnew yX6_placeAnew ∈ TG := TG_in (List.mem_append_right _ (List.mem_of_getElem? (i := 432) (by decide +kernel))) (by decide +kernel)
theorem knX8_undo : Cond.instanceMethod yX8_undo ∈ TG := TG_in (List.mem_append_right _ (List.mem_of_getElem? (i := 435) (by decide +kernel))) (by decide +kernel)
theorem kvX8_undo : Cond.selects yX8_undo.cls yX8_undo yX8_undo ∈ TG := TG_in (List.mem_append_right _ (List.mem_of_getElem? (i := 436) (by decide +kernel))) (by decide +kernel)
theorem knX0_popInto : Cond.instanceMethod yX0_popInto ∈ TG := TG_in (List.mem_append_right _ (List.mem_of_getElem? (i := 439) (by decide +kernel))) (by decide +kernel)
theorem kvX0_popInto : Cond.selects yX0_popInto.cls yX0_popInto yX0_popInto ∈ TG := TG_in (List.mem_append_right _ (List.mem_of_getElem? (i := 440) (by decide +kernel))) (by decide +kernel)
theorem knX8_restore : Cond.instanceMethod yX8_restore ∈ TG := TG_in (List.mem_append_right _ (List.mem_of_getElem? (i := 443) (by decide +kernel))) (by decide +kernel)
theorem kvX8_restore : Cond.selects yX8_restore.cls yX8_restore yX8_restore ∈ TG := TG_in (List.mem_append_right _ (List.mem_of_getElem? (i := 444) (by decide +kernel))) (by decide +kernel)
theorem knX8_nextMarked : Cond.instanceMethod yX8_nextMarked ∈ TG := TG_in (List.mem_append_right _ (List.mem_of_getElem? (i := 447) (by decide +kernel))) (by decide +kernel)
theorem kvX8_nextMarked : Cond.selects yX8_nextMarked.cls yX8_nextMarked yX8_nextMarked ∈ TG := TG_in (List.mem_append_right _ (List.mem_of_getElem? (i := 448) (by decide +kernel))) (by decide +kernel)
theorem ksX8_isMark : Cond.static yX8_isMark ∈ TG := TG_in (List.mem_append_right _ (List.mem_of_getElem? (i := 451) (by decide +kernel))) (by decide +kernel)
theorem knX8_nodeOfRow : Cond.instanceMethod yX8_nodeOfRow ∈ TG := TG_in (List.mem_append_right _ (List.mem_of_getElem? (i := 455) (by decide +kernel))) (by decide +kernel)
theorem kvX8_nodeOfRow : Cond.selects yX8_nodeOfRow.cls yX8_nodeOfRow yX8_nodeOfRow ∈ TG := TG_in (List.mem_append_left _ (List.mem_of_getElem? (i := 9) (by decide +kernel))) (by decide +kernel)
theorem knX2_marksOf : Cond.instanceMethod yX2_marksOf ∈ TG := TG_in (List.mem_append_right _ (List.mem_of_getElem? (i := 458) (by decide +kernel))) (by decide +kernel)
theorem kvX2_marksOf : Cond.selects yX2_marksOf.cls yX2_marksOf yX2_marksOf ∈ TG := TG_in (List.mem_append_right _ (List.mem_of_getElem? (i := 459) (by decide +kernel))) (by decide +kernel)
theorem knX8_count : Cond.instanceMethod yX8_count ∈ TG := TG_in (List.mem_append_right _ (List.mem_of_getElem? (i := 462) (by decide +kernel))) (by decide +kernel)
theorem kvX8_count : Cond.selects yX8_count.cls yX8_count yX8_count ∈ TG := TG_in (List.mem_append_right _ (List.mem_of_getElem? (i := 463) (by decide +kernel))) (by decide +kernel)
theorem knX3_foldedCount : Cond.instanceMethod yX3_foldedCount ∈ TG := TG_in (List.mem_append_right _ (List.mem_of_getElem? (i := 467) (by decide +kernel))) (by decide +kernel)
theorem kvX3_foldedCount : Cond.selects yX3_foldedCount.cls yX3_foldedCount yX3_foldedCount ∈ TG := TG_in (List.mem_append_right _ (List.mem_of_getElem? (i := 468) (by decide +kernel))) (by decide +kernel)
theorem knX1_sharedCount : Cond.instanceMethod yX1_sharedCount ∈ TG := TG_in (List.mem_append_right _ (List.mem_of_getElem? (i := 471) (by decide +kernel))) (by decide +kernel)
theorem kvX1_sharedCount : Cond.selects yX1_sharedCount.cls yX1_sharedCount yX1_sharedCount ∈ TG := TG_in (List.mem_append_right _ (List.mem_of_getElem? (i := 472) (by decide +kernel))) (by decide +kernel)
theorem knX1_parentCount : Cond.instanceMethod yX1_parentCount ∈ TG := TG_in (List.mem_append_right _ (List.mem_of_getElem? (i := 475) (by decide +kernel))) (by decide +kernel)
theorem kvX1_parentCount : Cond.selects yX1_parentCount.cls yX1_parentCount yX1_parentCount ∈ TG := TG_in (List.mem_append_right _ (List.mem_of_getElem? (i := 476) (by decide +kernel))) (by decide +kernel)
theorem knX3_greatestLevel : Cond.instanceMethod yX3_greatestLevel ∈ TG := TG_in (List.mem_append_right _ (List.mem_of_getElem? (i := 479) (by decide +kernel))) (by decide +kernel)
theorem kvX3_greatestLevel : Cond.selects yX3_greatestLevel.cls yX3_greatestLevel yX3_greatestLevel ∈ TG := TG_in (List.mem_append_right _ (List.mem_of_getElem? (i := 480) (by decide +kernel))) (by decide +kernel)
theorem ksL_cell : Cond.static yL_cell ∈ TG := TG_in (List.mem_append_right _ (List.mem_of_getElem? (i := 483) (by decide +kernel))) (by decide +kernel)
theorem ksL_low : Cond.static yL_low ∈ TG := TG_in (List.mem_append_right _ (List.mem_of_getElem? (i := 487) (by decide +kernel))) (by decide +kernel)
theorem ksL_digest : Cond.static yL_digest ∈ TG := TG_in (List.mem_append_right _ (List.mem_of_getElem? (i := 491) (by decide +kernel))) (by decide +kernel)
theorem knX8_row : Cond.instanceMethod yX8_row ∈ TG := TG_in (List.mem_append_right _ (List.mem_of_getElem? (i := 497) (by decide +kernel))) (by decide +kernel)
theorem kvX8_row : Cond.selects yX8_row.cls yX8_row yX8_row ∈ TG := TG_in (List.mem_append_right _ (List.mem_of_getElem? (i := 498) (by decide +kernel))) (by decide +kernel)
theorem knX8_positionAt : Cond.instanceMethod yX8_positionAt ∈ TG := TG_in (List.mem_append_right _ (List.mem_of_getElem? (i := 503) (by decide +kernel))) (by decide +kernel)
theorem kvX8_positionAt : Cond.selects yX8_positionAt.cls yX8_positionAt yX8_positionAt ∈ TG := TG_in (List.mem_append_left _ (List.mem_of_getElem? (i := 10) (by decide +kernel))) (by decide +kernel)
theorem knX1_position : Cond.instanceMethod yX1_position ∈ TG := TG_in (List.mem_append_right _ (List.mem_of_getElem? (i := 506) (by decide +kernel))) (by decide +kernel)
theorem kvX1_position : Cond.selects yX1_position.cls yX1_position yX1_position ∈ TG := TG_in (List.mem_append_right _ (List.mem_of_getElem? (i := 507) (by decide +kernel))) (by decide +kernel)
theorem knX1_childCount : Cond.instanceMethod yX1_childCount ∈ TG := TG_in (List.mem_append_right _ (List.mem_of_getElem? (i := 510) (by decide +kernel))) (by decide +kernel)
theorem kvX1_childCount : Cond.selects yX1_childCount.cls yX1_childCount yX1_childCount ∈ TG := TG_in (List.mem_append_right _ (List.mem_of_getElem? (i := 511) (by decide +kernel))) (by decide +kernel)
theorem knX8_parentRow : Cond.instanceMethod yX8_parentRow ∈ TG := TG_in (List.mem_append_right _ (List.mem_of_getElem? (i := 516) (by decide +kernel))) (by decide +kernel)
theorem kvX8_parentRow : Cond.selects yX8_parentRow.cls yX8_parentRow yX8_parentRow ∈ TG := TG_in (List.mem_append_left _ (List.mem_of_getElem? (i := 11) (by decide +kernel))) (by decide +kernel)
theorem knX5_seenBetween : Cond.instanceMethod yX5_seenBetween ∈ TG := TG_in (List.mem_append_right _ (List.mem_of_getElem? (i := 520) (by decide +kernel))) (by decide +kernel)
theorem kvX5_seenBetween : Cond.selects yX5_seenBetween.cls yX5_seenBetween yX5_seenBetween ∈ TG := TG_in (List.mem_append_right _ (List.mem_of_getElem? (i := 521) (by decide +kernel))) (by decide +kernel)
theorem knX8_node : Cond.instanceMethod yX8_node ∈ TG := TG_in (List.mem_append_right _ (List.mem_of_getElem? (i := 526) (by decide +kernel))) (by decide +kernel)
theorem kvX8_node : Cond.selects yX8_node.cls yX8_node yX8_node ∈ TG := TG_in (List.mem_append_right _ (List.mem_of_getElem? (i := 527) (by decide +kernel))) (by decide +kernel)
theorem knX5_seenOf : Cond.instanceMethod yX5_seenOf ∈ TG := TG_in (List.mem_append_right _ (List.mem_of_getElem? (i := 531) (by decide +kernel))) (by decide +kernel)
theorem kvX5_seenOf : Cond.selects yX5_seenOf.cls yX5_seenOf yX5_seenOf ∈ TG := TG_in (List.mem_append_right _ (List.mem_of_getElem? (i := 532) (by decide +kernel))) (by decide +kernel)
theorem knX5_firstOf : Cond.instanceMethod yX5_firstOf ∈ TG := TG_in (List.mem_append_right _ (List.mem_of_getElem? (i := 536) (by decide +kernel))) (by decide +kernel)
theorem kvX5_firstOf : Cond.selects yX5_firstOf.cls yX5_firstOf yX5_firstOf ∈ TG := TG_in (List.mem_append_right _ (List.mem_of_getElem? (i := 537) (by decide +kernel))) (by decide +kernel)
theorem knX2_lengthOf : Cond.instanceMethod yX2_lengthOf ∈ TG := TG_in (List.mem_append_right _ (List.mem_of_getElem? (i := 540) (by decide +kernel))) (by decide +kernel)
theorem kvX2_lengthOf : Cond.selects yX2_lengthOf.cls yX2_lengthOf yX2_lengthOf ∈ TG := TG_in (List.mem_append_right _ (List.mem_of_getElem? (i := 541) (by decide +kernel))) (by decide +kernel)
theorem ksL_sound : Cond.static yL_sound ∈ TG := TG_in (List.mem_append_right _ (List.mem_of_getElem? (i := 545) (by decide +kernel))) (by decide +kernel)
theorem knX8_number : Cond.instanceMethod yX8_number ∈ TG := TG_in (List.mem_append_right _ (List.mem_of_getElem? (i := 548) (by decide +kernel))) (by decide +kernel)
theorem kvX8_number : Cond.selects yX8_number.cls yX8_number yX8_number ∈ TG := TG_in (List.mem_append_right _ (List.mem_of_getElem? (i := 549) (by decide +kernel))) (by decide +kernel)
theorem knX8_charAt : Cond.instanceMethod yX8_charAt ∈ TG := TG_in (List.mem_append_right _ (List.mem_of_getElem? (i := 553) (by decide +kernel))) (by decide +kernel)
theorem kvX8_charAt : Cond.selects yX8_charAt.cls yX8_charAt yX8_charAt ∈ TG := TG_in (List.mem_append_right _ (List.mem_of_getElem? (i := 554) (by decide +kernel))) (by decide +kernel)
theorem knX2_codeAt : Cond.instanceMethod yX2_codeAt ∈ TG := TG_in (List.mem_append_right _ (List.mem_of_getElem? (i := 557) (by decide +kernel))) (by decide +kernel)
theorem kvX2_codeAt : Cond.selects yX2_codeAt.cls yX2_codeAt yX2_codeAt ∈ TG := TG_in (List.mem_append_right _ (List.mem_of_getElem? (i := 558) (by decide +kernel))) (by decide +kernel)
theorem ksL_nodes : Cond.static yL_nodes ∈ TG := TG_in (List.mem_append_right _ (List.mem_of_getElem? (i := 561) (by decide +kernel))) (by decide +kernel)
theorem ksL_grows : Cond.static yL_grows ∈ TG := TG_in (List.mem_append_right _ (List.mem_of_getElem? (i := 564) (by decide +kernel))) (by decide +kernel)
theorem ksL_texts : Cond.static yL_texts ∈ TG := TG_in (List.mem_append_right _ (List.mem_of_getElem? (i := 567) (by decide +kernel))) (by decide +kernel)
theorem knX8_clearText : Cond.instanceMethod yX8_clearText ∈ TG := TG_in (List.mem_append_right _ (List.mem_of_getElem? (i := 570) (by decide +kernel))) (by decide +kernel)
theorem kvX8_clearText : Cond.selects yX8_clearText.cls yX8_clearText yX8_clearText ∈ TG := TG_in (List.mem_append_right _ (List.mem_of_getElem? (i := 571) (by decide +kernel))) (by decide +kernel)
theorem knX8_type : Cond.instanceMethod yX8_type ∈ TG := TG_in (List.mem_append_right _ (List.mem_of_getElem? (i := 574) (by decide +kernel))) (by decide +kernel)
theorem kvX8_type : Cond.selects yX8_type.cls yX8_type yX8_type ∈ TG := TG_in (List.mem_append_right _ (List.mem_of_getElem? (i := 575) (by decide +kernel))) (by decide +kernel)
theorem knX7_append : Cond.instanceMethod yX7_append ∈ TG := TG_in (List.mem_append_right _ (List.mem_of_getElem? (i := 578) (by decide +kernel))) (by decide +kernel)
theorem kvX7_append : Cond.selects yX7_append.cls yX7_append yX7_append ∈ TG := TG_in (List.mem_append_right _ (List.mem_of_getElem? (i := 579) (by decide +kernel))) (by decide +kernel)
theorem knX8_cloneTo : Cond.instanceMethod yX8_cloneTo ∈ TG := TG_in (List.mem_append_right _ (List.mem_of_getElem? (i := 582) (by decide +kernel))) (by decide +kernel)
theorem kvX8_cloneTo : Cond.selects yX8_cloneTo.cls yX8_cloneTo yX8_cloneTo ∈ TG := TG_in (List.mem_append_right _ (List.mem_of_getElem? (i := 583) (by decide +kernel))) (by decide +kernel)
theorem knX8_refusalOfParent : Cond.instanceMethod yX8_refusalOfParent ∈ TG := TG_in (List.mem_append_right _ (List.mem_of_getElem? (i := 587) (by decide +kernel))) (by decide +kernel)
theorem kvX8_refusalOfParent : Cond.selects yX8_refusalOfParent.cls yX8_refusalOfParent yX8_refusalOfParent ∈ TG := TG_in (List.mem_append_left _ (List.mem_of_getElem? (i := 12) (by decide +kernel))) (by decide +kernel)
theorem knX8_move : Cond.instanceMethod yX8_move ∈ TG := TG_in (List.mem_append_right _ (List.mem_of_getElem? (i := 591) (by decide +kernel))) (by decide +kernel)
theorem kvX8_move : Cond.selects yX8_move.cls yX8_move yX8_move ∈ TG := TG_in (List.mem_append_right _ (List.mem_of_getElem? (i := 592) (by decide +kernel))) (by decide +kernel)
theorem ksL_changes : Cond.static yL_changes ∈ TG := TG_in (List.mem_append_right _ (List.mem_of_getElem? (i := 595) (by decide +kernel))) (by decide +kernel)
theorem knX8_shift : Cond.instanceMethod yX8_shift ∈ TG := TG_in (List.mem_append_right _ (List.mem_of_getElem? (i := 598) (by decide +kernel))) (by decide +kernel)
theorem kvX8_shift : Cond.selects yX8_shift.cls yX8_shift yX8_shift ∈ TG := TG_in (List.mem_append_right _ (List.mem_of_getElem? (i := 599) (by decide +kernel))) (by decide +kernel)
theorem knX1_shiftChild : Cond.instanceMethod yX1_shiftChild ∈ TG := TG_in (List.mem_append_right _ (List.mem_of_getElem? (i := 602) (by decide +kernel))) (by decide +kernel)
theorem kvX1_shiftChild : Cond.selects yX1_shiftChild.cls yX1_shiftChild yX1_shiftChild ∈ TG := TG_in (List.mem_append_right _ (List.mem_of_getElem? (i := 603) (by decide +kernel))) (by decide +kernel)
theorem ksJ9_abs_0f7a4 : Cond.static yJ9_abs_0f7a4 ∈ TG := TG_in (List.mem_append_right _ (List.mem_of_getElem? (i := 606) (by decide +kernel))) (by decide +kernel)
theorem knX8_mark : Cond.instanceMethod yX8_mark ∈ TG := TG_in (List.mem_append_right _ (List.mem_of_getElem? (i := 609) (by decide +kernel))) (by decide +kernel)
theorem kvX8_mark : Cond.selects yX8_mark.cls yX8_mark yX8_mark ∈ TG := TG_in (List.mem_append_right _ (List.mem_of_getElem? (i := 610) (by decide +kernel))) (by decide +kernel)
theorem knX2_toggleMark : Cond.instanceMethod yX2_toggleMark ∈ TG := TG_in (List.mem_append_right _ (List.mem_of_getElem? (i := 613) (by decide +kernel))) (by decide +kernel)
theorem kvX2_toggleMark : Cond.selects yX2_toggleMark.cls yX2_toggleMark yX2_toggleMark ∈ TG := TG_in (List.mem_append_right _ (List.mem_of_getElem? (i := 614) (by decide +kernel))) (by decide +kernel)
theorem knX8_fold : Cond.instanceMethod yX8_fold ∈ TG := TG_in (List.mem_append_right _ (List.mem_of_getElem? (i := 618) (by decide +kernel))) (by decide +kernel)
theorem kvX8_fold : Cond.selects yX8_fold.cls yX8_fold yX8_fold ∈ TG := TG_in (List.mem_append_right _ (List.mem_of_getElem? (i := 619) (by decide +kernel))) (by decide +kernel)
theorem knX3_hasChildren : Cond.instanceMethod yX3_hasChildren ∈ TG := TG_in (List.mem_append_right _ (List.mem_of_getElem? (i := 622) (by decide +kernel))) (by decide +kernel)
theorem kvX3_hasChildren : Cond.selects yX3_hasChildren.cls yX3_hasChildren yX3_hasChildren ∈ TG := TG_in (List.mem_append_right _ (List.mem_of_getElem? (i := 623) (by decide +kernel))) (by decide +kernel)
theorem knX3_setFold : Cond.instanceMethod yX3_setFold ∈ TG := TG_in (List.mem_append_right _ (List.mem_of_getElem? (i := 626) (by decide +kernel))) (by decide +kernel)
theorem kvX3_setFold : Cond.selects yX3_setFold.cls yX3_setFold yX3_setFold ∈ TG := TG_in (List.mem_append_right _ (List.mem_of_getElem? (i := 627) (by decide +kernel))) (by decide +kernel)
theorem knX8_edit : Cond.instanceMethod yX8_edit ∈ TG := TG_in (List.mem_append_right _ (List.mem_of_getElem? (i := 630) (by decide +kernel))) (by decide +kernel)
theorem kvX8_edit : Cond.selects yX8_edit.cls yX8_edit yX8_edit ∈ TG := TG_in (List.mem_append_right _ (List.mem_of_getElem? (i := 631) (by decide +kernel))) (by decide +kernel)
theorem knX2_hasText : Cond.instanceMethod yX2_hasText ∈ TG := TG_in (List.mem_append_right _ (List.mem_of_getElem? (i := 634) (by decide +kernel))) (by decide +kernel)
theorem kvX2_hasText : Cond.selects yX2_hasText.cls yX2_hasText yX2_hasText ∈ TG := TG_in (List.mem_append_right _ (List.mem_of_getElem? (i := 635) (by decide +kernel))) (by decide +kernel)
theorem knX8_find : Cond.instanceMethod yX8_find ∈ TG := TG_in (List.mem_append_right _ (List.mem_of_getElem? (i := 640) (by decide +kernel))) (by decide +kernel)
theorem kvX8_find : Cond.selects yX8_find.cls yX8_find yX8_find ∈ TG := TG_in (List.mem_append_right _ (List.mem_of_getElem? (i := 641) (by decide +kernel))) (by decide +kernel)
theorem knX8_foldLevel : Cond.instanceMethod yX8_foldLevel ∈ TG := TG_in (List.mem_append_right _ (List.mem_of_getElem? (i := 644) (by decide +kernel))) (by decide +kernel)
theorem kvX8_foldLevel : Cond.selects yX8_foldLevel.cls yX8_foldLevel yX8_foldLevel ∈ TG := TG_in (List.mem_append_right _ (List.mem_of_getElem? (i := 645) (by decide +kernel))) (by decide +kernel)
theorem knX3_foldAtLevel : Cond.instanceMethod yX3_foldAtLevel ∈ TG := TG_in (List.mem_append_right _ (List.mem_of_getElem? (i := 648) (by decide +kernel))) (by decide +kernel)
theorem kvX3_foldAtLevel : Cond.selects yX3_foldAtLevel.cls yX3_foldAtLevel yX3_foldAtLevel ∈ TG := TG_in (List.mem_append_right _ (List.mem_of_getElem? (i := 649) (by decide +kernel))) (by decide +kernel)
theorem lL_87 : MI RL 87 mX8_init 0 := ⟨⟨TG_in (List.mem_append_right _ (List.mem_of_getElem? (i := 15) (by decide +kernel))) (by decide +kernel), kiX8, kcX8_init, ⟨by decide +kernel, by decide +kernel⟩, by decide +kernel⟩, knX8_init, rfl, rfl⟩
theorem oiX8 : Cond.methodLink RX8 1 objectInit ∈ TG := TG_in (List.mem_append_right _ (List.mem_of_getElem? (i := 18) (by decide +kernel))) (by decide +kernel)
theorem lX8_9 : MIn RX8 9 mX7_init 0 := ⟨⟨(by decide +kernel), kiX7, kcX7_init, ⟨by decide +kernel, by decide +kernel⟩, by decide +kernel⟩, knX7_init, rfl, rfl⟩
theorem oiX7 : Cond.methodLink RX7 3 objectInit ∈ TG := TG_in (List.mem_append_right _ (List.mem_of_getElem? (i := 26) (by decide +kernel))) (by decide +kernel)
theorem lX8_18 : MIn RX8 18 mX4_init 0 := ⟨⟨(by decide +kernel), kiX4, kcX4_init, ⟨by decide +kernel, by decide +kernel⟩, by decide +kernel⟩, knX4_init, rfl, rfl⟩
theorem oiX4 : Cond.methodLink RX4 3 objectInit ∈ TG := TG_in (List.mem_append_right _ (List.mem_of_getElem? (i := 43) (by decide +kernel))) (by decide +kernel)
theorem lX8_25 : MIn RX8 25 mX5_init 0 := ⟨⟨(by decide +kernel), kiX5, kcX5_init, ⟨by decide +kernel, by decide +kernel⟩, by decide +kernel⟩, knX5_init, rfl, rfl⟩
theorem oiX5 : Cond.methodLink RX5 3 objectInit ∈ TG := TG_in (List.mem_append_right _ (List.mem_of_getElem? (i := 65) (by decide +kernel))) (by decide +kernel)
theorem lX8_32 : MI RX8 32 mX0_init 0 := ⟨⟨TG_in (List.mem_append_right _ (List.mem_of_getElem? (i := 79) (by decide +kernel))) (by decide +kernel), kiX0, kcX0_init, ⟨by decide +kernel, by decide +kernel⟩, by decide +kernel⟩, knX0_init, rfl, rfl⟩
theorem oiX0 : Cond.methodLink RX0 3 objectInit ∈ TG := TG_in (List.mem_append_right _ (List.mem_of_getElem? (i := 82) (by decide +kernel))) (by decide +kernel)
theorem lX0_17 : MIn RX0 17 mX6_init 0 := ⟨⟨(by decide +kernel), kiX6, kcX6_init, ⟨by decide +kernel, by decide +kernel⟩, by decide +kernel⟩, knX6_init, rfl, rfl⟩
theorem oiX6 : Cond.methodLink RX6 3 objectInit ∈ TG := TG_in (List.mem_append_right _ (List.mem_of_getElem? (i := 89) (by decide +kernel))) (by decide +kernel)
theorem lX6_11 : MIn RX6 11 mX2_init 0 := ⟨⟨(by decide +kernel), kiX2, kcX2_init, ⟨by decide +kernel, by decide +kernel⟩, by decide +kernel⟩, knX2_init, rfl, rfl⟩
theorem oiX2 : Cond.methodLink RX2 3 objectInit ∈ TG := TG_in (List.mem_append_right _ (List.mem_of_getElem? (i := 95) (by decide +kernel))) (by decide +kernel)
theorem lX6_20 : MIn RX6 20 mX1_init 0 := ⟨⟨(by decide +kernel), kiX1, kcX1_init, ⟨by decide +kernel, by decide +kernel⟩, by decide +kernel⟩, knX1_init, rfl, rfl⟩
theorem oiX1 : Cond.methodLink RX1 3 objectInit ∈ TG := TG_in (List.mem_append_right _ (List.mem_of_getElem? (i := 116) (by decide +kernel))) (by decide +kernel)
theorem lX6_27 : MIn RX6 27 mX3_init 0 := ⟨⟨(by decide +kernel), kiX3, kcX3_init, ⟨by decide +kernel, by decide +kernel⟩, by decide +kernel⟩, knX3_init, rfl, rfl⟩
theorem oiX3 : Cond.methodLink RX3 3 objectInit ∈ TG := TG_in (List.mem_append_right _ (List.mem_of_getElem? (i := 135) (by decide +kernel))) (by decide +kernel)
theorem lX8_39 : MIn RX8 39 mX6_init 0 := ⟨⟨(by decide +kernel), kiX6, kcX6_init, ⟨by decide +kernel, by decide +kernel⟩, by decide +kernel⟩, knX6_init, rfl, rfl⟩
theorem lL_53 : MV RL 53 mX8_add 1 := ⟨⟨TG_in (List.mem_append_right _ (List.mem_of_getElem? (i := 207) (by decide +kernel))) (by decide +kernel), kiX8, kcX8_add, ⟨by decide +kernel, by decide +kernel⟩, by decide +kernel⟩, knX8_add, kvX8_add⟩
theorem lX8_54 : MV RX8 54 mX8_placeOrRoot 1 := ⟨⟨TG_in (List.mem_append_right _ (List.mem_of_getElem? (i := 211) (by decide +kernel))) (by decide +kernel), kiX8, kcX8_placeOrRoot, ⟨by decide +kernel, by decide +kernel⟩, by decide +kernel⟩, knX8_placeOrRoot, kvX8_placeOrRoot⟩
theorem lX8_107 : MV RX8 107 mX5_placeOf 1 := ⟨⟨TG_in (List.mem_append_right _ (List.mem_of_getElem? (i := 215) (by decide +kernel))) (by decide +kernel), kiX5, kcX5_placeOf, ⟨by decide +kernel, by decide +kernel⟩, by decide +kernel⟩, knX5_placeOf, kvX5_placeOf⟩
theorem lX8_58 : MV RX8 58 mX7_fitsNode 0 := ⟨⟨TG_in (List.mem_append_right _ (List.mem_of_getElem? (i := 219) (by decide +kernel))) (by decide +kernel), kiX7, kcX7_fitsNode, ⟨by decide +kernel, by decide +kernel⟩, by decide +kernel⟩, knX7_fitsNode, kvX7_fitsNode⟩
theorem lX8_72 : MV RX8 72 mX6_copyFrom 1 := ⟨⟨TG_in (List.mem_append_right _ (List.mem_of_getElem? (i := 223) (by decide +kernel))) (by decide +kernel), kiX6, kcX6_copyFrom, ⟨by decide +kernel, by decide +kernel⟩, by decide +kernel⟩, knX6_copyFrom, kvX6_copyFrom⟩
theorem lX6_32 : MV RX6 32 mX2_copyFrom 1 := ⟨⟨TG_in (List.mem_append_right _ (List.mem_of_getElem? (i := 227) (by decide +kernel))) (by decide +kernel), kiX2, kcX2_copyFrom, ⟨by decide +kernel, by decide +kernel⟩, by decide +kernel⟩, knX2_copyFrom, kvX2_copyFrom⟩
theorem acX2 : Cond.methodLink RX2 25 arraycopyName ∈ TG := TG_in (List.mem_append_right _ (List.mem_of_getElem? (i := 231) (by decide +kernel))) (by decide +kernel)
theorem lX6_36 : MV RX6 36 mX1_copyFrom 1 := ⟨⟨TG_in (List.mem_append_right _ (List.mem_of_getElem? (i := 234) (by decide +kernel))) (by decide +kernel), kiX1, kcX1_copyFrom, ⟨by decide +kernel, by decide +kernel⟩, by decide +kernel⟩, knX1_copyFrom, kvX1_copyFrom⟩
theorem acX1 : Cond.methodLink RX1 22 arraycopyName ∈ TG := TG_in (List.mem_append_right _ (List.mem_of_getElem? (i := 238) (by decide +kernel))) (by decide +kernel)
theorem lX6_39 : MV RX6 39 mX3_copyFrom 1 := ⟨⟨TG_in (List.mem_append_right _ (List.mem_of_getElem? (i := 239) (by decide +kernel))) (by decide +kernel), kiX3, kcX3_copyFrom, ⟨by decide +kernel, by decide +kernel⟩, by decide +kernel⟩, knX3_copyFrom, kvX3_copyFrom⟩
theorem acX3 : Cond.methodLink RX3 25 arraycopyName ∈ TG := TG_in (List.mem_append_right _ (List.mem_of_getElem? (i := 243) (by decide +kernel))) (by decide +kernel)
theorem lX8_76 : MV RX8 76 mX2_makeNode 0 := ⟨⟨TG_in (List.mem_append_right _ (List.mem_of_getElem? (i := 244) (by decide +kernel))) (by decide +kernel), kiX2, kcX2_makeNode, ⟨by decide +kernel, by decide +kernel⟩, by decide +kernel⟩, knX2_makeNode, kvX2_makeNode⟩
theorem lX8_80 : MV RX8 80 mX2_setText 2 := ⟨⟨TG_in (List.mem_append_right _ (List.mem_of_getElem? (i := 248) (by decide +kernel))) (by decide +kernel), kiX2, kcX2_setText, ⟨by decide +kernel, by decide +kernel⟩, by decide +kernel⟩, knX2_setText, kvX2_setText⟩
theorem lX2_31 : MS RX2 31 mX2_isNumber 1 := ⟨⟨TG_in (List.mem_append_right _ (List.mem_of_getElem? (i := 252) (by decide +kernel))) (by decide +kernel), kiX2, kcX2_isNumber, ⟨by decide +kernel, by decide +kernel⟩, by decide +kernel⟩, ksX2_isNumber⟩
theorem lX2_35 : MV RX2 35 mX7_fitsNode 0 := ⟨⟨TG_in (List.mem_append_right _ (List.mem_of_getElem? (i := 255) (by decide +kernel))) (by decide +kernel), kiX7, kcX7_fitsNode, ⟨by decide +kernel, by decide +kernel⟩, by decide +kernel⟩, knX7_fitsNode, kvX7_fitsNode⟩
theorem lX2_44 : MV RX2 44 mX7_codeAt 1 := ⟨⟨TG_in (List.mem_append_right _ (List.mem_of_getElem? (i := 256) (by decide +kernel))) (by decide +kernel), kiX7, kcX7_codeAt, ⟨by decide +kernel, by decide +kernel⟩, by decide +kernel⟩, knX7_codeAt, kvX7_codeAt⟩
theorem lX8_88 : MV RX8 88 mX3_nodeOf 1 := ⟨⟨TG_in (List.mem_append_right _ (List.mem_of_getElem? (i := 260) (by decide +kernel))) (by decide +kernel), kiX3, kcX3_nodeOf, ⟨by decide +kernel, by decide +kernel⟩, by decide +kernel⟩, knX3_nodeOf, kvX3_nodeOf⟩
theorem lX3_35 : MV RX3 35 mX3_isThere 1 := ⟨⟨TG_in (List.mem_append_right _ (List.mem_of_getElem? (i := 264) (by decide +kernel))) (by decide +kernel), kiX3, kcX3_isThere, ⟨by decide +kernel, by decide +kernel⟩, by decide +kernel⟩, knX3_isThere, kvX3_isThere⟩
theorem lX8_93 : MV RX8 93 mX8_attach 2 := ⟨⟨TG_in (List.mem_append_right _ (List.mem_of_getElem? (i := 268) (by decide +kernel))) (by decide +kernel), kiX8, kcX8_attach, ⟨by decide +kernel, by decide +kernel⟩, by decide +kernel⟩, knX8_attach, kvX8_attach⟩
theorem lX8_269 : MV RX8 269 mX1_append 2 := ⟨⟨TG_in (List.mem_append_right _ (List.mem_of_getElem? (i := 272) (by decide +kernel))) (by decide +kernel), kiX1, kcX1_append, ⟨by decide +kernel, by decide +kernel⟩, by decide +kernel⟩, knX1_append, kvX1_append⟩
theorem lX8_119 : MV RX8 119 mX6_placeAgain 1 := ⟨⟨TG_in (List.mem_append_right _ (List.mem_of_getElem? (i := 276) (by decide +kernel))) (by decide +kernel), kiX6, kcX6_placeAgain, ⟨by decide +kernel, by decide +kernel⟩, by decide +kernel⟩, knX6_placeAgain, kvX6_placeAgain⟩
theorem lX6_50 : MS RX6 50 mX6_grow 5 := ⟨⟨TG_in (List.mem_append_right _ (List.mem_of_getElem? (i := 280) (by decide +kernel))) (by decide +kernel), kiX6, kcX6_grow, ⟨by decide +kernel, by decide +kernel⟩, by decide +kernel⟩, ksX6_grow⟩
theorem lX6_54 : MV RX6 54 mX3_nodeOf 1 := ⟨⟨TG_in (List.mem_append_right _ (List.mem_of_getElem? (i := 283) (by decide +kernel))) (by decide +kernel), kiX3, kcX3_nodeOf, ⟨by decide +kernel, by decide +kernel⟩, by decide +kernel⟩, knX3_nodeOf, kvX3_nodeOf⟩
theorem lX6_65 : MV RX6 65 mX3_childPlace 2 := ⟨⟨TG_in (List.mem_append_right _ (List.mem_of_getElem? (i := 284) (by decide +kernel))) (by decide +kernel), kiX3, kcX3_childPlace, ⟨by decide +kernel, by decide +kernel⟩, by decide +kernel⟩, knX3_childPlace, kvX3_childPlace⟩
theorem lX3_31 : MV RX3 31 mX3_levelOf 1 := ⟨⟨TG_in (List.mem_append_right _ (List.mem_of_getElem? (i := 288) (by decide +kernel))) (by decide +kernel), kiX3, kcX3_levelOf, ⟨by decide +kernel, by decide +kernel⟩, by decide +kernel⟩, knX3_levelOf, kvX3_levelOf⟩
theorem lX6_69 : MV RX6 69 mX3_foldOf 1 := ⟨⟨TG_in (List.mem_append_right _ (List.mem_of_getElem? (i := 292) (by decide +kernel))) (by decide +kernel), kiX3, kcX3_foldOf, ⟨by decide +kernel, by decide +kernel⟩, by decide +kernel⟩, knX3_foldOf, kvX3_foldOf⟩
theorem lX6_72 : MV RX6 72 mX3_append 3 := ⟨⟨TG_in (List.mem_append_right _ (List.mem_of_getElem? (i := 296) (by decide +kernel))) (by decide +kernel), kiX3, kcX3_append, ⟨by decide +kernel, by decide +kernel⟩, by decide +kernel⟩, knX3_append, kvX3_append⟩
theorem lX8_131 : MV RX8 131 mX8_accept 0 := ⟨⟨TG_in (List.mem_append_right _ (List.mem_of_getElem? (i := 300) (by decide +kernel))) (by decide +kernel), kiX8, kcX8_accept, ⟨by decide +kernel, by decide +kernel⟩, by decide +kernel⟩, knX8_accept, kvX8_accept⟩
theorem lX8_272 : MV RX8 272 mX0_push 1 := ⟨⟨TG_in (List.mem_append_right _ (List.mem_of_getElem? (i := 304) (by decide +kernel))) (by decide +kernel), kiX0, kcX0_push, ⟨by decide +kernel, by decide +kernel⟩, by decide +kernel⟩, knX0_push, kvX0_push⟩
theorem lX0_25 : MS RX0 25 mJ9_floorMod_7cf53 2 := ⟨⟨TG_in (List.mem_append_right _ (List.mem_of_getElem? (i := 308) (by decide +kernel))) (by decide +kernel), kiJ9, kcJ9_floorMod_7cf53, ⟨by decide +kernel, by decide +kernel⟩, by decide +kernel⟩, ksJ9_floorMod_7cf53⟩
theorem lX0_31 : MV RX0 31 mX6_copyFrom 1 := ⟨⟨TG_in (List.mem_append_right _ (List.mem_of_getElem? (i := 311) (by decide +kernel))) (by decide +kernel), kiX6, kcX6_copyFrom, ⟨by decide +kernel, by decide +kernel⟩, by decide +kernel⟩, knX6_copyFrom, kvX6_copyFrom⟩
theorem lX8_207 : MV RX8 207 mX5_refresh 1 := ⟨⟨TG_in (List.mem_append_right _ (List.mem_of_getElem? (i := 312) (by decide +kernel))) (by decide +kernel), kiX5, kcX5_refresh, ⟨by decide +kernel, by decide +kernel⟩, by decide +kernel⟩, knX5_refresh, kvX5_refresh⟩
theorem lX8_148 : MV RX8 148 mX3_countOf 1 := ⟨⟨TG_in (List.mem_append_right _ (List.mem_of_getElem? (i := 316) (by decide +kernel))) (by decide +kernel), kiX3, kcX3_countOf, ⟨by decide +kernel, by decide +kernel⟩, by decide +kernel⟩, knX3_countOf, kvX3_countOf⟩
theorem lL_62 : MV RL 62 mX8_cut 1 := ⟨⟨TG_in (List.mem_append_right _ (List.mem_of_getElem? (i := 320) (by decide +kernel))) (by decide +kernel), kiX8, kcX8_cut, ⟨by decide +kernel, by decide +kernel⟩, by decide +kernel⟩, knX8_cut, kvX8_cut⟩
theorem lX8_110 : MV RX8 110 mX8_parentNodeOf 1 := ⟨⟨TG_in (List.mem_append_right _ (List.mem_of_getElem? (i := 324) (by decide +kernel))) (by decide +kernel), kiX8, kcX8_parentNodeOf, ⟨by decide +kernel, by decide +kernel⟩, by decide +kernel⟩, knX8_parentNodeOf, kvX8_parentNodeOf⟩
theorem lX8_263 : MV RX8 263 mX3_parentOf 1 := ⟨⟨TG_in (List.mem_append_right _ (List.mem_of_getElem? (i := 328) (by decide +kernel))) (by decide +kernel), kiX3, kcX3_parentOf, ⟨by decide +kernel, by decide +kernel⟩, by decide +kernel⟩, knX3_parentOf, kvX3_parentOf⟩
theorem lX3_48 : MV RX3 48 mX3_atLevel 2 := ⟨⟨TG_in (List.mem_append_right _ (List.mem_of_getElem? (i := 332) (by decide +kernel))) (by decide +kernel), kiX3, kcX3_atLevel, ⟨by decide +kernel, by decide +kernel⟩, by decide +kernel⟩, knX3_atLevel, kvX3_atLevel⟩
theorem lX3_45 : MS RX3 45 mJ9_min_7cf53 2 := ⟨⟨TG_in (List.mem_append_right _ (List.mem_of_getElem? (i := 336) (by decide +kernel))) (by decide +kernel), kiJ9, kcJ9_min_7cf53, ⟨by decide +kernel, by decide +kernel⟩, by decide +kernel⟩, ksJ9_min_7cf53⟩
theorem lX8_113 : MV RX8 113 mX1_drop 2 := ⟨⟨TG_in (List.mem_append_right _ (List.mem_of_getElem? (i := 339) (by decide +kernel))) (by decide +kernel), kiX1, kcX1_drop, ⟨by decide +kernel, by decide +kernel⟩, by decide +kernel⟩, knX1_drop, kvX1_drop⟩
theorem lX1_28 : MV RX1 28 mX1_indexOf 2 := ⟨⟨TG_in (List.mem_append_right _ (List.mem_of_getElem? (i := 343) (by decide +kernel))) (by decide +kernel), kiX1, kcX1_indexOf, ⟨by decide +kernel, by decide +kernel⟩, by decide +kernel⟩, knX1_indexOf, kvX1_indexOf⟩
theorem lX8_123 : MV RX8 123 mX3_nodeSet 0 := ⟨⟨TG_in (List.mem_append_right _ (List.mem_of_getElem? (i := 347) (by decide +kernel))) (by decide +kernel), kiX3, kcX3_nodeSet, ⟨by decide +kernel, by decide +kernel⟩, by decide +kernel⟩, knX3_nodeSet, kvX3_nodeSet⟩
theorem lX3_51 : MV RX3 51 mX3_nodesWithin 1 := ⟨⟨TG_in (List.mem_append_right _ (List.mem_of_getElem? (i := 351) (by decide +kernel))) (by decide +kernel), kiX3, kcX3_nodesWithin, ⟨by decide +kernel, by decide +kernel⟩, by decide +kernel⟩, knX3_nodesWithin, kvX3_nodesWithin⟩
theorem lX3_55 : MV RX3 55 mX3_endOf 1 := ⟨⟨TG_in (List.mem_append_right _ (List.mem_of_getElem? (i := 355) (by decide +kernel))) (by decide +kernel), kiX3, kcX3_endOf, ⟨by decide +kernel, by decide +kernel⟩, by decide +kernel⟩, knX3_endOf, kvX3_endOf⟩
theorem lX3_39 : MS RX3 39 mJ9_max_7cf53 2 := ⟨⟨TG_in (List.mem_append_right _ (List.mem_of_getElem? (i := 359) (by decide +kernel))) (by decide +kernel), kiJ9, kcJ9_max_7cf53, ⟨by decide +kernel, by decide +kernel⟩, by decide +kernel⟩, ksJ9_max_7cf53⟩
theorem lX8_127 : MV RX8 127 mX6_dropVanished 1 := ⟨⟨TG_in (List.mem_append_right _ (List.mem_of_getElem? (i := 362) (by decide +kernel))) (by decide +kernel), kiX6, kcX6_dropVanished, ⟨by decide +kernel, by decide +kernel⟩, by decide +kernel⟩, knX6_dropVanished, kvX6_dropVanished⟩
theorem lX6_76 : MV RX6 76 mX3_nodeSet 0 := ⟨⟨TG_in (List.mem_append_right _ (List.mem_of_getElem? (i := 366) (by decide +kernel))) (by decide +kernel), kiX3, kcX3_nodeSet, ⟨by decide +kernel, by decide +kernel⟩, by decide +kernel⟩, knX3_nodeSet, kvX3_nodeSet⟩
theorem lX6_80 : MV RX6 80 mX1_keepParents 1 := ⟨⟨TG_in (List.mem_append_right _ (List.mem_of_getElem? (i := 367) (by decide +kernel))) (by decide +kernel), kiX1, kcX1_keepParents, ⟨by decide +kernel, by decide +kernel⟩, by decide +kernel⟩, knX1_keepParents, kvX1_keepParents⟩
theorem lX6_86 : MS RX6 86 mJ13_bitCount_95d88 1 := ⟨⟨TG_in (List.mem_append_right _ (List.mem_of_getElem? (i := 372) (by decide +kernel))) (by decide +kernel), kiJ13, kcJ13_bitCount_95d88, ⟨by decide +kernel, by decide +kernel⟩, by decide +kernel⟩, ksJ13_bitCount_95d88⟩
theorem lL_84 : MV RL 84 mX8_show 1 := ⟨⟨TG_in (List.mem_append_right _ (List.mem_of_getElem? (i := 378) (by decide +kernel))) (by decide +kernel), kiX8, kcX8_show, ⟨by decide +kernel, by decide +kernel⟩, by decide +kernel⟩, knX8_show, kvX8_show⟩
theorem lX8_176 : MV RX8 176 mX3_firstOf 1 := ⟨⟨TG_in (List.mem_append_right _ (List.mem_of_getElem? (i := 382) (by decide +kernel))) (by decide +kernel), kiX3, kcX3_firstOf, ⟨by decide +kernel, by decide +kernel⟩, by decide +kernel⟩, knX3_firstOf, kvX3_firstOf⟩
theorem lX8_179 : MV RX8 179 mX3_unfoldAround 1 := ⟨⟨TG_in (List.mem_append_right _ (List.mem_of_getElem? (i := 386) (by decide +kernel))) (by decide +kernel), kiX3, kcX3_unfoldAround, ⟨by decide +kernel, by decide +kernel⟩, by decide +kernel⟩, knX3_unfoldAround, kvX3_unfoldAround⟩
theorem lX8_182 : MV RX8 182 mX5_rowOf 1 := ⟨⟨TG_in (List.mem_append_right _ (List.mem_of_getElem? (i := 390) (by decide +kernel))) (by decide +kernel), kiX5, kcX5_rowOf, ⟨by decide +kernel, by decide +kernel⟩, by decide +kernel⟩, knX5_rowOf, kvX5_rowOf⟩
theorem lL_94 : MV RL 94 mX8_readOutline 0 := ⟨⟨TG_in (List.mem_append_right _ (List.mem_of_getElem? (i := 394) (by decide +kernel))) (by decide +kernel), kiX8, kcX8_readOutline, ⟨by decide +kernel, by decide +kernel⟩, by decide +kernel⟩, knX8_readOutline, kvX8_readOutline⟩
theorem lX8_192 : MV RX8 192 mX6_clearNodes 0 := ⟨⟨TG_in (List.mem_append_right _ (List.mem_of_getElem? (i := 398) (by decide +kernel))) (by decide +kernel), kiX6, kcX6_clearNodes, ⟨by decide +kernel, by decide +kernel⟩, by decide +kernel⟩, knX6_clearNodes, kvX6_clearNodes⟩
theorem lX8_195 : MV RX8 195 mX4_read 2 := ⟨⟨TG_in (List.mem_append_right _ (List.mem_of_getElem? (i := 402) (by decide +kernel))) (by decide +kernel), kiX4, kcX4_read, ⟨by decide +kernel, by decide +kernel⟩, by decide +kernel⟩, knX4_read, kvX4_read⟩
theorem lX4_18 : MV RX4 18 mX4_begin 0 := ⟨⟨TG_in (List.mem_append_right _ (List.mem_of_getElem? (i := 406) (by decide +kernel))) (by decide +kernel), kiX4, kcX4_begin, ⟨by decide +kernel, by decide +kernel⟩, by decide +kernel⟩, knX4_begin, kvX4_begin⟩
theorem lX4_27 : MV RX4 27 mX7_codeAt 1 := ⟨⟨TG_in (List.mem_append_right _ (List.mem_of_getElem? (i := 410) (by decide +kernel))) (by decide +kernel), kiX7, kcX7_codeAt, ⟨by decide +kernel, by decide +kernel⟩, by decide +kernel⟩, knX7_codeAt, kvX7_codeAt⟩
theorem lX4_35 : MV RX4 35 mX4_takeLetter 2 := ⟨⟨TG_in (List.mem_append_right _ (List.mem_of_getElem? (i := 411) (by decide +kernel))) (by decide +kernel), kiX4, kcX4_takeLetter, ⟨by decide +kernel, by decide +kernel⟩, by decide +kernel⟩, knX4_takeLetter, kvX4_takeLetter⟩
theorem lX4_55 : MV RX4 55 mX2_makeNode 0 := ⟨⟨TG_in (List.mem_append_right _ (List.mem_of_getElem? (i := 415) (by decide +kernel))) (by decide +kernel), kiX2, kcX2_makeNode, ⟨by decide +kernel, by decide +kernel⟩, by decide +kernel⟩, knX2_makeNode, kvX2_makeNode⟩
theorem lX4_61 : MV RX4 61 mX2_setLetter 2 := ⟨⟨TG_in (List.mem_append_right _ (List.mem_of_getElem? (i := 416) (by decide +kernel))) (by decide +kernel), kiX2, kcX2_setLetter, ⟨by decide +kernel, by decide +kernel⟩, by decide +kernel⟩, knX2_setLetter, kvX2_setLetter⟩
theorem lX4_65 : MV RX4 65 mX4_isOpen 1 := ⟨⟨TG_in (List.mem_append_right _ (List.mem_of_getElem? (i := 420) (by decide +kernel))) (by decide +kernel), kiX4, kcX4_isOpen, ⟨by decide +kernel, by decide +kernel⟩, by decide +kernel⟩, knX4_isOpen, kvX4_isOpen⟩
theorem lX4_72 : MV RX4 72 mX1_indexOf 2 := ⟨⟨TG_in (List.mem_append_right _ (List.mem_of_getElem? (i := 424) (by decide +kernel))) (by decide +kernel), kiX1, kcX1_indexOf, ⟨by decide +kernel, by decide +kernel⟩, by decide +kernel⟩, knX1_indexOf, kvX1_indexOf⟩
theorem lX4_78 : MV RX4 78 mX1_append 2 := ⟨⟨TG_in (List.mem_append_right _ (List.mem_of_getElem? (i := 425) (by decide +kernel))) (by decide +kernel), kiX1, kcX1_append, ⟨by decide +kernel, by decide +kernel⟩, by decide +kernel⟩, knX1_append, kvX1_append⟩
theorem lX4_39 : MV RX4 39 mX4_takeSign 1 := ⟨⟨TG_in (List.mem_append_right _ (List.mem_of_getElem? (i := 426) (by decide +kernel))) (by decide +kernel), kiX4, kcX4_takeSign, ⟨by decide +kernel, by decide +kernel⟩, by decide +kernel⟩, knX4_takeSign, kvX4_takeSign⟩
theorem lX8_199 : MV RX8 199 mX6_placeAnew 0 := ⟨⟨TG_in (List.mem_append_right _ (List.mem_of_getElem? (i := 430) (by decide +kernel))) (by decide +kernel), kiX6, kcX6_placeAnew, ⟨by decide +kernel, by decide +kernel⟩, by decide +kernel⟩, knX6_placeAnew, kvX6_placeAnew⟩
theorem lL_88 : MV RL 88 mX8_undo 0 := ⟨⟨TG_in (List.mem_append_right _ (List.mem_of_getElem? (i := 434) (by decide +kernel))) (by decide +kernel), kiX8, kcX8_undo, ⟨by decide +kernel, by decide +kernel⟩, by decide +kernel⟩, knX8_undo, kvX8_undo⟩
theorem lX8_203 : MV RX8 203 mX0_popInto 1 := ⟨⟨TG_in (List.mem_append_right _ (List.mem_of_getElem? (i := 438) (by decide +kernel))) (by decide +kernel), kiX0, kcX0_popInto, ⟨by decide +kernel, by decide +kernel⟩, by decide +kernel⟩, knX0_popInto, kvX0_popInto⟩
theorem lL_91 : MV RL 91 mX8_restore 0 := ⟨⟨TG_in (List.mem_append_right _ (List.mem_of_getElem? (i := 442) (by decide +kernel))) (by decide +kernel), kiX8, kcX8_restore, ⟨by decide +kernel, by decide +kernel⟩, by decide +kernel⟩, knX8_restore, kvX8_restore⟩
theorem lL_97 : MV RL 97 mX8_nextMarked 2 := ⟨⟨TG_in (List.mem_append_right _ (List.mem_of_getElem? (i := 446) (by decide +kernel))) (by decide +kernel), kiX8, kcX8_nextMarked, ⟨by decide +kernel, by decide +kernel⟩, by decide +kernel⟩, knX8_nextMarked, kvX8_nextMarked⟩
theorem lX8_151 : MS RX8 151 mX8_isMark 1 := ⟨⟨TG_in (List.mem_append_right _ (List.mem_of_getElem? (i := 450) (by decide +kernel))) (by decide +kernel), kiX8, kcX8_isMark, ⟨by decide +kernel, by decide +kernel⟩, by decide +kernel⟩, ksX8_isMark⟩
theorem lX8_100 : MV RX8 100 mX8_nodeOfRow 1 := ⟨⟨TG_in (List.mem_append_right _ (List.mem_of_getElem? (i := 453) (by decide +kernel))) (by decide +kernel), kiX8, kcX8_nodeOfRow, ⟨by decide +kernel, by decide +kernel⟩, by decide +kernel⟩, knX8_nodeOfRow, kvX8_nodeOfRow⟩
theorem lX8_158 : MV RX8 158 mX2_marksOf 1 := ⟨⟨TG_in (List.mem_append_right _ (List.mem_of_getElem? (i := 457) (by decide +kernel))) (by decide +kernel), kiX2, kcX2_marksOf, ⟨by decide +kernel, by decide +kernel⟩, by decide +kernel⟩, knX2_marksOf, kvX2_marksOf⟩
theorem lL_13 : MV RL 13 mX8_count 1 := ⟨⟨TG_in (List.mem_append_right _ (List.mem_of_getElem? (i := 461) (by decide +kernel))) (by decide +kernel), kiX8, kcX8_count, ⟨by decide +kernel, by decide +kernel⟩, by decide +kernel⟩, knX8_count, kvX8_count⟩
theorem lX8_249 : MS RX8 249 mJ13_bitCount_95d88 1 := ⟨⟨TG_in (List.mem_append_right _ (List.mem_of_getElem? (i := 465) (by decide +kernel))) (by decide +kernel), kiJ13, kcJ13_bitCount_95d88, ⟨by decide +kernel, by decide +kernel⟩, by decide +kernel⟩, ksJ13_bitCount_95d88⟩
theorem lX8_254 : MV RX8 254 mX3_foldedCount 0 := ⟨⟨TG_in (List.mem_append_right _ (List.mem_of_getElem? (i := 466) (by decide +kernel))) (by decide +kernel), kiX3, kcX3_foldedCount, ⟨by decide +kernel, by decide +kernel⟩, by decide +kernel⟩, knX3_foldedCount, kvX3_foldedCount⟩
theorem lX8_257 : MV RX8 257 mX1_sharedCount 0 := ⟨⟨TG_in (List.mem_append_right _ (List.mem_of_getElem? (i := 470) (by decide +kernel))) (by decide +kernel), kiX1, kcX1_sharedCount, ⟨by decide +kernel, by decide +kernel⟩, by decide +kernel⟩, knX1_sharedCount, kvX1_sharedCount⟩
theorem lX1_32 : MV RX1 32 mX1_parentCount 1 := ⟨⟨TG_in (List.mem_append_right _ (List.mem_of_getElem? (i := 474) (by decide +kernel))) (by decide +kernel), kiX1, kcX1_parentCount, ⟨by decide +kernel, by decide +kernel⟩, by decide +kernel⟩, knX1_parentCount, kvX1_parentCount⟩
theorem lX8_260 : MV RX8 260 mX3_greatestLevel 0 := ⟨⟨TG_in (List.mem_append_right _ (List.mem_of_getElem? (i := 478) (by decide +kernel))) (by decide +kernel), kiX3, kcX3_greatestLevel, ⟨by decide +kernel, by decide +kernel⟩, by decide +kernel⟩, knX3_greatestLevel, kvX3_greatestLevel⟩
theorem lL_100 : MS RL 100 mL_cell 2 := ⟨⟨TG_in (List.mem_append_right _ (List.mem_of_getElem? (i := 482) (by decide +kernel))) (by decide +kernel), kiL, kcL_cell, ⟨by decide +kernel, by decide +kernel⟩, by decide +kernel⟩, ksL_cell⟩
theorem lL_40 : MS RL 40 mL_low 2 := ⟨⟨TG_in (List.mem_append_right _ (List.mem_of_getElem? (i := 486) (by decide +kernel))) (by decide +kernel), kiL, kcL_low, ⟨by decide +kernel, by decide +kernel⟩, by decide +kernel⟩, ksL_low⟩
theorem lL_104 : MS RL 104 mL_digest 1 := ⟨⟨TG_in (List.mem_append_right _ (List.mem_of_getElem? (i := 490) (by decide +kernel))) (by decide +kernel), kiL, kcL_digest, ⟨by decide +kernel, by decide +kernel⟩, by decide +kernel⟩, ksL_digest⟩
theorem lL_21 : MV RL 21 mX8_row 2 := ⟨⟨TG_in (List.mem_append_right _ (List.mem_of_getElem? (i := 496) (by decide +kernel))) (by decide +kernel), kiX8, kcX8_row, ⟨by decide +kernel, by decide +kernel⟩, by decide +kernel⟩, knX8_row, kvX8_row⟩
theorem lX8_212 : MV RX8 212 mX3_levelOf 1 := ⟨⟨TG_in (List.mem_append_right _ (List.mem_of_getElem? (i := 500) (by decide +kernel))) (by decide +kernel), kiX3, kcX3_levelOf, ⟨by decide +kernel, by decide +kernel⟩, by decide +kernel⟩, knX3_levelOf, kvX3_levelOf⟩
theorem lX8_215 : MV RX8 215 mX8_positionAt 1 := ⟨⟨TG_in (List.mem_append_right _ (List.mem_of_getElem? (i := 501) (by decide +kernel))) (by decide +kernel), kiX8, kcX8_positionAt, ⟨by decide +kernel, by decide +kernel⟩, by decide +kernel⟩, knX8_positionAt, kvX8_positionAt⟩
theorem lX8_134 : MV RX8 134 mX1_position 2 := ⟨⟨TG_in (List.mem_append_right _ (List.mem_of_getElem? (i := 505) (by decide +kernel))) (by decide +kernel), kiX1, kcX1_position, ⟨by decide +kernel, by decide +kernel⟩, by decide +kernel⟩, knX1_position, kvX1_position⟩
theorem lX8_137 : MV RX8 137 mX1_childCount 1 := ⟨⟨TG_in (List.mem_append_right _ (List.mem_of_getElem? (i := 509) (by decide +kernel))) (by decide +kernel), kiX1, kcX1_childCount, ⟨by decide +kernel, by decide +kernel⟩, by decide +kernel⟩, knX1_childCount, kvX1_childCount⟩
theorem lX8_164 : MV RX8 164 mX3_foldOf 1 := ⟨⟨TG_in (List.mem_append_right _ (List.mem_of_getElem? (i := 513) (by decide +kernel))) (by decide +kernel), kiX3, kcX3_foldOf, ⟨by decide +kernel, by decide +kernel⟩, by decide +kernel⟩, knX3_foldOf, kvX3_foldOf⟩
theorem lX8_218 : MV RX8 218 mX8_parentRow 1 := ⟨⟨TG_in (List.mem_append_right _ (List.mem_of_getElem? (i := 514) (by decide +kernel))) (by decide +kernel), kiX8, kcX8_parentRow, ⟨by decide +kernel, by decide +kernel⟩, by decide +kernel⟩, knX8_parentRow, kvX8_parentRow⟩
theorem lX8_221 : MV RX8 221 mX3_endOf 1 := ⟨⟨TG_in (List.mem_append_right _ (List.mem_of_getElem? (i := 518) (by decide +kernel))) (by decide +kernel), kiX3, kcX3_endOf, ⟨by decide +kernel, by decide +kernel⟩, by decide +kernel⟩, knX3_endOf, kvX3_endOf⟩
theorem lX8_224 : MV RX8 224 mX5_seenBetween 2 := ⟨⟨TG_in (List.mem_append_right _ (List.mem_of_getElem? (i := 519) (by decide +kernel))) (by decide +kernel), kiX5, kcX5_seenBetween, ⟨by decide +kernel, by decide +kernel⟩, by decide +kernel⟩, knX5_seenBetween, kvX5_seenBetween⟩
theorem lX5_31 : MV RX5 31 mX5_rowOf 1 := ⟨⟨TG_in (List.mem_append_right _ (List.mem_of_getElem? (i := 523) (by decide +kernel))) (by decide +kernel), kiX5, kcX5_rowOf, ⟨by decide +kernel, by decide +kernel⟩, by decide +kernel⟩, knX5_rowOf, kvX5_rowOf⟩
theorem lL_27 : MV RL 27 mX8_node 2 := ⟨⟨TG_in (List.mem_append_right _ (List.mem_of_getElem? (i := 525) (by decide +kernel))) (by decide +kernel), kiX8, kcX8_node, ⟨by decide +kernel, by decide +kernel⟩, by decide +kernel⟩, knX8_node, kvX8_node⟩
theorem lX8_236 : MV RX8 236 mX1_parentCount 1 := ⟨⟨TG_in (List.mem_append_right _ (List.mem_of_getElem? (i := 529) (by decide +kernel))) (by decide +kernel), kiX1, kcX1_parentCount, ⟨by decide +kernel, by decide +kernel⟩, by decide +kernel⟩, knX1_parentCount, kvX1_parentCount⟩
theorem lX8_239 : MV RX8 239 mX5_seenOf 2 := ⟨⟨TG_in (List.mem_append_right _ (List.mem_of_getElem? (i := 530) (by decide +kernel))) (by decide +kernel), kiX5, kcX5_seenOf, ⟨by decide +kernel, by decide +kernel⟩, by decide +kernel⟩, knX5_seenOf, kvX5_seenOf⟩
theorem lX5_35 : MV RX5 35 mX3_nodeOf 1 := ⟨⟨TG_in (List.mem_append_right _ (List.mem_of_getElem? (i := 534) (by decide +kernel))) (by decide +kernel), kiX3, kcX3_nodeOf, ⟨by decide +kernel, by decide +kernel⟩, by decide +kernel⟩, knX3_nodeOf, kvX3_nodeOf⟩
theorem lX8_243 : MV RX8 243 mX5_firstOf 2 := ⟨⟨TG_in (List.mem_append_right _ (List.mem_of_getElem? (i := 535) (by decide +kernel))) (by decide +kernel), kiX5, kcX5_firstOf, ⟨by decide +kernel, by decide +kernel⟩, by decide +kernel⟩, knX5_firstOf, kvX5_firstOf⟩
theorem lX8_230 : MV RX8 230 mX2_lengthOf 1 := ⟨⟨TG_in (List.mem_append_right _ (List.mem_of_getElem? (i := 539) (by decide +kernel))) (by decide +kernel), kiX2, kcX2_lengthOf, ⟨by decide +kernel, by decide +kernel⟩, by decide +kernel⟩, knX2_lengthOf, kvX2_lengthOf⟩
theorem lX8_245 : MV RX8 245 mX3_nodesWithin 1 := ⟨⟨TG_in (List.mem_append_right _ (List.mem_of_getElem? (i := 543) (by decide +kernel))) (by decide +kernel), kiX3, kcX3_nodesWithin, ⟨by decide +kernel, by decide +kernel⟩, by decide +kernel⟩, knX3_nodesWithin, kvX3_nodesWithin⟩
theorem lL_119 : MS RL 119 mL_sound 2 := ⟨⟨TG_in (List.mem_append_right _ (List.mem_of_getElem? (i := 544) (by decide +kernel))) (by decide +kernel), kiL, kcL_sound, ⟨by decide +kernel, by decide +kernel⟩, by decide +kernel⟩, ksL_sound⟩
theorem lL_30 : MV RL 30 mX8_number 2 := ⟨⟨TG_in (List.mem_append_right _ (List.mem_of_getElem? (i := 547) (by decide +kernel))) (by decide +kernel), kiX8, kcX8_number, ⟨by decide +kernel, by decide +kernel⟩, by decide +kernel⟩, knX8_number, kvX8_number⟩
theorem lX8_227 : MV RX8 227 mX3_atLevel 2 := ⟨⟨TG_in (List.mem_append_right _ (List.mem_of_getElem? (i := 551) (by decide +kernel))) (by decide +kernel), kiX3, kcX3_atLevel, ⟨by decide +kernel, by decide +kernel⟩, by decide +kernel⟩, knX3_atLevel, kvX3_atLevel⟩
theorem lL_33 : MV RL 33 mX8_charAt 2 := ⟨⟨TG_in (List.mem_append_right _ (List.mem_of_getElem? (i := 552) (by decide +kernel))) (by decide +kernel), kiX8, kcX8_charAt, ⟨by decide +kernel, by decide +kernel⟩, by decide +kernel⟩, knX8_charAt, kvX8_charAt⟩
theorem lX8_233 : MV RX8 233 mX2_codeAt 2 := ⟨⟨TG_in (List.mem_append_right _ (List.mem_of_getElem? (i := 556) (by decide +kernel))) (by decide +kernel), kiX2, kcX2_codeAt, ⟨by decide +kernel, by decide +kernel⟩, by decide +kernel⟩, knX2_codeAt, kvX2_codeAt⟩
theorem lL_115 : MS RL 115 mL_nodes 1 := ⟨⟨TG_in (List.mem_append_right _ (List.mem_of_getElem? (i := 560) (by decide +kernel))) (by decide +kernel), kiL, kcL_nodes, ⟨by decide +kernel, by decide +kernel⟩, by decide +kernel⟩, ksL_nodes⟩
theorem lL_108 : MS RL 108 mL_grows 4 := ⟨⟨TG_in (List.mem_append_right _ (List.mem_of_getElem? (i := 563) (by decide +kernel))) (by decide +kernel), kiL, kcL_grows, ⟨by decide +kernel, by decide +kernel⟩, by decide +kernel⟩, ksL_grows⟩
theorem lL_49 : MS RL 49 mL_texts 3 := ⟨⟨TG_in (List.mem_append_right _ (List.mem_of_getElem? (i := 566) (by decide +kernel))) (by decide +kernel), kiL, kcL_texts, ⟨by decide +kernel, by decide +kernel⟩, by decide +kernel⟩, ksL_texts⟩
theorem lL_36 : MV RL 36 mX8_clearText 0 := ⟨⟨TG_in (List.mem_append_right _ (List.mem_of_getElem? (i := 569) (by decide +kernel))) (by decide +kernel), kiX8, kcX8_clearText, ⟨by decide +kernel, by decide +kernel⟩, by decide +kernel⟩, knX8_clearText, kvX8_clearText⟩
theorem lL_45 : MV RL 45 mX8_type 1 := ⟨⟨TG_in (List.mem_append_right _ (List.mem_of_getElem? (i := 573) (by decide +kernel))) (by decide +kernel), kiX8, kcX8_type, ⟨by decide +kernel, by decide +kernel⟩, by decide +kernel⟩, knX8_type, kvX8_type⟩
theorem lX8_185 : MV RX8 185 mX7_append 1 := ⟨⟨TG_in (List.mem_append_right _ (List.mem_of_getElem? (i := 577) (by decide +kernel))) (by decide +kernel), kiX7, kcX7_append, ⟨by decide +kernel, by decide +kernel⟩, by decide +kernel⟩, knX7_append, kvX7_append⟩
theorem lL_56 : MV RL 56 mX8_cloneTo 2 := ⟨⟨TG_in (List.mem_append_right _ (List.mem_of_getElem? (i := 581) (by decide +kernel))) (by decide +kernel), kiX8, kcX8_cloneTo, ⟨by decide +kernel, by decide +kernel⟩, by decide +kernel⟩, knX8_cloneTo, kvX8_cloneTo⟩
theorem lX8_97 : MV RX8 97 mX8_refusalOfParent 2 := ⟨⟨TG_in (List.mem_append_right _ (List.mem_of_getElem? (i := 585) (by decide +kernel))) (by decide +kernel), kiX8, kcX8_refusalOfParent, ⟨by decide +kernel, by decide +kernel⟩, by decide +kernel⟩, knX8_refusalOfParent, kvX8_refusalOfParent⟩
theorem lX8_266 : MV RX8 266 mX1_indexOf 2 := ⟨⟨TG_in (List.mem_append_right _ (List.mem_of_getElem? (i := 589) (by decide +kernel))) (by decide +kernel), kiX1, kcX1_indexOf, ⟨by decide +kernel, by decide +kernel⟩, by decide +kernel⟩, knX1_indexOf, kvX1_indexOf⟩
theorem lL_59 : MV RL 59 mX8_move 2 := ⟨⟨TG_in (List.mem_append_right _ (List.mem_of_getElem? (i := 590) (by decide +kernel))) (by decide +kernel), kiX8, kcX8_move, ⟨by decide +kernel, by decide +kernel⟩, by decide +kernel⟩, knX8_move, kvX8_move⟩
theorem lL_112 : MS RL 112 mL_changes 4 := ⟨⟨TG_in (List.mem_append_right _ (List.mem_of_getElem? (i := 594) (by decide +kernel))) (by decide +kernel), kiL, kcL_changes, ⟨by decide +kernel, by decide +kernel⟩, by decide +kernel⟩, ksL_changes⟩
theorem lL_65 : MV RL 65 mX8_shift 2 := ⟨⟨TG_in (List.mem_append_right _ (List.mem_of_getElem? (i := 597) (by decide +kernel))) (by decide +kernel), kiX8, kcX8_shift, ⟨by decide +kernel, by decide +kernel⟩, by decide +kernel⟩, knX8_shift, kvX8_shift⟩
theorem lX8_140 : MV RX8 140 mX1_shiftChild 3 := ⟨⟨TG_in (List.mem_append_right _ (List.mem_of_getElem? (i := 601) (by decide +kernel))) (by decide +kernel), kiX1, kcX1_shiftChild, ⟨by decide +kernel, by decide +kernel⟩, by decide +kernel⟩, knX1_shiftChild, kvX1_shiftChild⟩
theorem lX1_36 : MS RX1 36 mJ9_abs_0f7a4 1 := ⟨⟨TG_in (List.mem_append_right _ (List.mem_of_getElem? (i := 605) (by decide +kernel))) (by decide +kernel), kiJ9, kcJ9_abs_0f7a4, ⟨by decide +kernel, by decide +kernel⟩, by decide +kernel⟩, ksJ9_abs_0f7a4⟩
theorem lL_68 : MV RL 68 mX8_mark 2 := ⟨⟨TG_in (List.mem_append_right _ (List.mem_of_getElem? (i := 608) (by decide +kernel))) (by decide +kernel), kiX8, kcX8_mark, ⟨by decide +kernel, by decide +kernel⟩, by decide +kernel⟩, knX8_mark, kvX8_mark⟩
theorem lX8_155 : MV RX8 155 mX2_toggleMark 2 := ⟨⟨TG_in (List.mem_append_right _ (List.mem_of_getElem? (i := 612) (by decide +kernel))) (by decide +kernel), kiX2, kcX2_toggleMark, ⟨by decide +kernel, by decide +kernel⟩, by decide +kernel⟩, knX2_toggleMark, kvX2_toggleMark⟩
theorem lX2_54 : MSn RX2 54 mX8_isMark 1 := ⟨⟨(by decide +kernel), kiX8, kcX8_isMark, ⟨by decide +kernel, by decide +kernel⟩, by decide +kernel⟩, ksX8_isMark⟩
theorem lL_71 : MV RL 71 mX8_fold 2 := ⟨⟨TG_in (List.mem_append_right _ (List.mem_of_getElem? (i := 617) (by decide +kernel))) (by decide +kernel), kiX8, kcX8_fold, ⟨by decide +kernel, by decide +kernel⟩, by decide +kernel⟩, knX8_fold, kvX8_fold⟩
theorem lX8_161 : MV RX8 161 mX3_hasChildren 1 := ⟨⟨TG_in (List.mem_append_right _ (List.mem_of_getElem? (i := 621) (by decide +kernel))) (by decide +kernel), kiX3, kcX3_hasChildren, ⟨by decide +kernel, by decide +kernel⟩, by decide +kernel⟩, knX3_hasChildren, kvX3_hasChildren⟩
theorem lX8_167 : MV RX8 167 mX3_setFold 2 := ⟨⟨TG_in (List.mem_append_right _ (List.mem_of_getElem? (i := 625) (by decide +kernel))) (by decide +kernel), kiX3, kcX3_setFold, ⟨by decide +kernel, by decide +kernel⟩, by decide +kernel⟩, knX3_setFold, kvX3_setFold⟩
theorem lL_75 : MV RL 75 mX8_edit 1 := ⟨⟨TG_in (List.mem_append_right _ (List.mem_of_getElem? (i := 629) (by decide +kernel))) (by decide +kernel), kiX8, kcX8_edit, ⟨by decide +kernel, by decide +kernel⟩, by decide +kernel⟩, knX8_edit, kvX8_edit⟩
theorem lX8_144 : MV RX8 144 mX2_hasText 2 := ⟨⟨TG_in (List.mem_append_right _ (List.mem_of_getElem? (i := 633) (by decide +kernel))) (by decide +kernel), kiX2, kcX2_hasText, ⟨by decide +kernel, by decide +kernel⟩, by decide +kernel⟩, knX2_hasText, kvX2_hasText⟩
theorem lX2_48 : MV RX2 48 mX2_lengthOf 1 := ⟨⟨TG_in (List.mem_append_right _ (List.mem_of_getElem? (i := 637) (by decide +kernel))) (by decide +kernel), kiX2, kcX2_lengthOf, ⟨by decide +kernel, by decide +kernel⟩, by decide +kernel⟩, knX2_lengthOf, kvX2_lengthOf⟩
theorem lX2_51 : MV RX2 51 mX2_codeAt 2 := ⟨⟨TG_in (List.mem_append_right _ (List.mem_of_getElem? (i := 638) (by decide +kernel))) (by decide +kernel), kiX2, kcX2_codeAt, ⟨by decide +kernel, by decide +kernel⟩, by decide +kernel⟩, knX2_codeAt, kvX2_codeAt⟩
theorem lL_78 : MV RL 78 mX8_find 1 := ⟨⟨TG_in (List.mem_append_right _ (List.mem_of_getElem? (i := 639) (by decide +kernel))) (by decide +kernel), kiX8, kcX8_find, ⟨by decide +kernel, by decide +kernel⟩, by decide +kernel⟩, knX8_find, kvX8_find⟩
theorem lL_81 : MV RL 81 mX8_foldLevel 1 := ⟨⟨TG_in (List.mem_append_right _ (List.mem_of_getElem? (i := 643) (by decide +kernel))) (by decide +kernel), kiX8, kcX8_foldLevel, ⟨by decide +kernel, by decide +kernel⟩, by decide +kernel⟩, knX8_foldLevel, kvX8_foldLevel⟩
theorem lX8_173 : MV RX8 173 mX3_foldAtLevel 1 := ⟨⟨TG_in (List.mem_append_right _ (List.mem_of_getElem? (i := 647) (by decide +kernel))) (by decide +kernel), kiX3, kcX3_foldAtLevel, ⟨by decide +kernel, by decide +kernel⟩, by decide +kernel⟩, knX3_foldAtLevel, kvX3_foldAtLevel⟩
theorem lX3_58 : MV RX3 58 mX3_hasChildren 1 := ⟨⟨TG_in (List.mem_append_right _ (List.mem_of_getElem? (i := 651) (by decide +kernel))) (by decide +kernel), kiX3, kcX3_hasChildren, ⟨by decide +kernel, by decide +kernel⟩, by decide +kernel⟩, knX3_hasChildren, kvX3_hasChildren⟩
theorem k_ao : Cond.arrayOver (.object "CloneOutline$State") ∈ NW := by decide +kernel
theorem pfX8_init : plainFor mX8_init.1 = true := by decide +kernel
theorem pfX7_init : plainFor mX7_init.1 = true := by decide +kernel
theorem pfX4_init : plainFor mX4_init.1 = true := by decide +kernel
theorem pfX5_init : plainFor mX5_init.1 = true := by decide +kernel
theorem pfX0_init : plainFor mX0_init.1 = true := by decide +kernel
theorem pfX6_init : plainFor mX6_init.1 = true := by decide +kernel
theorem pfX2_init : plainFor mX2_init.1 = true := by decide +kernel
theorem pfX1_init : plainFor mX1_init.1 = true := by decide +kernel
theorem pfX3_init : plainFor mX3_init.1 = true := by decide +kernel
theorem pfX8_add : plainFor mX8_add.1 = true := by decide +kernel
theorem pfX8_placeOrRoot : plainFor mX8_placeOrRoot.1 = true := by decide +kernel
theorem pfX5_placeOf : plainFor mX5_placeOf.1 = true := by decide +kernel
theorem pfX7_fitsNode : plainFor mX7_fitsNode.1 = true := by decide +kernel
theorem pfX6_copyFrom : plainFor mX6_copyFrom.1 = true := by decide +kernel
theorem pfX2_copyFrom : plainFor mX2_copyFrom.1 = true := by decide +kernel
theorem pfX1_copyFrom : plainFor mX1_copyFrom.1 = true := by decide +kernel
theorem pfX3_copyFrom : plainFor mX3_copyFrom.1 = true := by decide +kernel
theorem pfX2_makeNode : plainFor mX2_makeNode.1 = true := by decide +kernel
theorem pfX2_setText : plainFor mX2_setText.1 = true := by decide +kernel
theorem pfX2_isNumber : plainFor mX2_isNumber.1 = true := by decide +kernel
theorem pfX7_codeAt : plainFor mX7_codeAt.1 = true := by decide +kernel
theorem pfX3_nodeOf : plainFor mX3_nodeOf.1 = true := by decide +kernel
theorem pfX3_isThere : plainFor mX3_isThere.1 = true := by decide +kernel
theorem pfX8_attach : plainFor mX8_attach.1 = true := by decide +kernel
theorem pfX1_append : plainFor mX1_append.1 = true := by decide +kernel
theorem pfX6_placeAgain : plainFor mX6_placeAgain.1 = true := by decide +kernel
theorem pfX6_grow : plainFor mX6_grow.1 = true := by decide +kernel
theorem pfX3_childPlace : plainFor mX3_childPlace.1 = true := by decide +kernel
theorem pfX3_levelOf : plainFor mX3_levelOf.1 = true := by decide +kernel
theorem pfX3_foldOf : plainFor mX3_foldOf.1 = true := by decide +kernel
theorem pfX3_append : plainFor mX3_append.1 = true := by decide +kernel
theorem pfX8_accept : plainFor mX8_accept.1 = true := by decide +kernel
theorem pfX0_push : plainFor mX0_push.1 = true := by decide +kernel
theorem pfJ9_floorMod_7cf53 : plainFor mJ9_floorMod_7cf53.1 = true := by decide +kernel
theorem pfX5_refresh : plainFor mX5_refresh.1 = true := by decide +kernel
theorem pfX3_countOf : plainFor mX3_countOf.1 = true := by decide +kernel
theorem pfX8_cut : plainFor mX8_cut.1 = true := by decide +kernel
theorem pfX8_parentNodeOf : plainFor mX8_parentNodeOf.1 = true := by decide +kernel
theorem pfX3_parentOf : plainFor mX3_parentOf.1 = true := by decide +kernel
theorem pfX3_atLevel : plainFor mX3_atLevel.1 = true := by decide +kernel
theorem pfJ9_min_7cf53 : plainFor mJ9_min_7cf53.1 = true := by decide +kernel
theorem pfX1_drop : plainFor mX1_drop.1 = true := by decide +kernel
theorem pfX1_indexOf : plainFor mX1_indexOf.1 = true := by decide +kernel
theorem pfX3_nodeSet : plainFor mX3_nodeSet.1 = true := by decide +kernel
theorem pfX3_nodesWithin : plainFor mX3_nodesWithin.1 = true := by decide +kernel
theorem pfX3_endOf : plainFor mX3_endOf.1 = true := by decide +kernel
theorem pfJ9_max_7cf53 : plainFor mJ9_max_7cf53.1 = true := by decide +kernel
theorem pfX6_dropVanished : plainFor mX6_dropVanished.1 = true := by decide +kernel
theorem pfX1_keepParents : plainFor mX1_keepParents.1 = true := by decide +kernel
theorem pfJ13_bitCount_95d88 : plainFor mJ13_bitCount_95d88.1 = true := by decide +kernel
theorem pfX8_show : plainFor mX8_show.1 = true := by decide +kernel
theorem pfX3_firstOf : plainFor mX3_firstOf.1 = true := by decide +kernel
theorem pfX3_unfoldAround : plainFor mX3_unfoldAround.1 = true := by decide +kernel
theorem pfX5_rowOf : plainFor mX5_rowOf.1 = true := by decide +kernel
theorem pfX8_readOutline : plainFor mX8_readOutline.1 = true := by decide +kernel
theorem pfX6_clearNodes : plainFor mX6_clearNodes.1 = true := by decide +kernel
theorem pfX4_read : plainFor mX4_read.1 = true := by decide +kernel
theorem pfX4_begin : plainFor mX4_begin.1 = true := by decide +kernel
theorem pfX4_takeLetter : plainFor mX4_takeLetter.1 = true := by decide +kernel
theorem pfX2_setLetter : plainFor mX2_setLetter.1 = true := by decide +kernel
theorem pfX4_isOpen : plainFor mX4_isOpen.1 = true := by decide +kernel
theorem pfX4_takeSign : plainFor mX4_takeSign.1 = true := by decide +kernel
theorem pfX6_placeAnew : plainFor mX6_placeAnew.1 = true := by decide +kernel
theorem pfX8_undo : plainFor mX8_undo.1 = true := by decide +kernel
theorem pfX0_popInto : plainFor mX0_popInto.1 = true := by decide +kernel
theorem pfX8_restore : plainFor mX8_restore.1 = true := by decide +kernel
theorem pfX8_nextMarked : plainFor mX8_nextMarked.1 = true := by decide +kernel
theorem pfX8_isMark : plainFor mX8_isMark.1 = true := by decide +kernel
theorem pfX8_nodeOfRow : plainFor mX8_nodeOfRow.1 = true := by decide +kernel
theorem pfX2_marksOf : plainFor mX2_marksOf.1 = true := by decide +kernel
theorem pfX8_count : plainFor mX8_count.1 = true := by decide +kernel
theorem pfX3_foldedCount : plainFor mX3_foldedCount.1 = true := by decide +kernel
theorem pfX1_sharedCount : plainFor mX1_sharedCount.1 = true := by decide +kernel
theorem pfX1_parentCount : plainFor mX1_parentCount.1 = true := by decide +kernel
theorem pfX3_greatestLevel : plainFor mX3_greatestLevel.1 = true := by decide +kernel
theorem pfL_cell : plainFor mL_cell.1 = true := by decide +kernel
theorem pfL_low : plainFor mL_low.1 = true := by decide +kernel
theorem pfL_digest : plainFor mL_digest.1 = true := by decide +kernel
theorem pfX8_row : plainFor mX8_row.1 = true := by decide +kernel
theorem pfX8_positionAt : plainFor mX8_positionAt.1 = true := by decide +kernel
theorem pfX1_position : plainFor mX1_position.1 = true := by decide +kernel
theorem pfX1_childCount : plainFor mX1_childCount.1 = true := by decide +kernel
theorem pfX8_parentRow : plainFor mX8_parentRow.1 = true := by decide +kernel
theorem pfX5_seenBetween : plainFor mX5_seenBetween.1 = true := by decide +kernel
theorem pfX8_node : plainFor mX8_node.1 = true := by decide +kernel
theorem pfX5_seenOf : plainFor mX5_seenOf.1 = true := by decide +kernel
theorem pfX5_firstOf : plainFor mX5_firstOf.1 = true := by decide +kernel
theorem pfX2_lengthOf : plainFor mX2_lengthOf.1 = true := by decide +kernel
theorem pfL_sound : plainFor mL_sound.1 = true := by decide +kernel
theorem pfX8_number : plainFor mX8_number.1 = true := by decide +kernel
theorem pfX8_charAt : plainFor mX8_charAt.1 = true := by decide +kernel
theorem pfX2_codeAt : plainFor mX2_codeAt.1 = true := by decide +kernel
theorem pfL_nodes : plainFor mL_nodes.1 = true := by decide +kernel
theorem pfL_grows : plainFor mL_grows.1 = true := by decide +kernel
theorem pfL_texts : plainFor mL_texts.1 = true := by decide +kernel
theorem pfX8_clearText : plainFor mX8_clearText.1 = true := by decide +kernel
theorem pfX8_type : plainFor mX8_type.1 = true := by decide +kernel
theorem pfX7_append : plainFor mX7_append.1 = true := by decide +kernel
theorem pfX8_cloneTo : plainFor mX8_cloneTo.1 = true := by decide +kernel
theorem pfX8_refusalOfParent : plainFor mX8_refusalOfParent.1 = true := by decide +kernel
theorem pfX8_move : plainFor mX8_move.1 = true := by decide +kernel
theorem pfL_changes : plainFor mL_changes.1 = true := by decide +kernel
theorem pfX8_shift : plainFor mX8_shift.1 = true := by decide +kernel
theorem pfX1_shiftChild : plainFor mX1_shiftChild.1 = true := by decide +kernel
theorem pfJ9_abs_0f7a4 : plainFor mJ9_abs_0f7a4.1 = true := by decide +kernel
theorem pfX8_mark : plainFor mX8_mark.1 = true := by decide +kernel
theorem pfX2_toggleMark : plainFor mX2_toggleMark.1 = true := by decide +kernel
theorem pfX8_fold : plainFor mX8_fold.1 = true := by decide +kernel
theorem pfX3_hasChildren : plainFor mX3_hasChildren.1 = true := by decide +kernel
theorem pfX3_setFold : plainFor mX3_setFold.1 = true := by decide +kernel
theorem pfX8_edit : plainFor mX8_edit.1 = true := by decide +kernel
theorem pfX2_hasText : plainFor mX2_hasText.1 = true := by decide +kernel
theorem pfX8_find : plainFor mX8_find.1 = true := by decide +kernel
theorem pfX8_foldLevel : plainFor mX8_foldLevel.1 = true := by decide +kernel
theorem pfX3_foldAtLevel : plainFor mX3_foldAtLevel.1 = true := by decide +kernel
theorem k_oi : Cond.instanceMethod objectInit ∈ TG := TG_in (List.mem_append_right _ (List.mem_of_getElem? (i := 19) (by decide +kernel))) (by decide +kernel)
theorem k_oc : Cond.code objectInit ⟨#[0xb1]⟩ 1 none ∈ TG := TG_in (List.mem_append_right _ (List.mem_of_getElem? (i := 20) (by decide +kernel))) (by decide +kernel)
theorem k_nat : Cond.native arraycopyName ∈ TG := TG_in (List.mem_append_right _ (List.mem_of_getElem? (i := 233) (by decide +kernel))) (by decide +kernel)
theorem k_sta : Cond.static arraycopyName ∈ TG := TG_in (List.mem_append_right _ (List.mem_of_getElem? (i := 232) (by decide +kernel))) (by decide +kernel)
theorem k_sys : Cond.initialized "java/lang/System" ∈ TG := TG_in (List.mem_append_right _ (List.mem_of_getElem? (i := 11) (by decide +kernel))) (by decide +kernel)
theorem k_aI : Cond.arrayClass .int ∈ TG := TG_in (List.mem_append_right _ (List.mem_of_getElem? (i := 37) (by decide +kernel))) (by decide +kernel)
theorem clX6_84 : Cond.constantLong RX6 84 (-1) ∈ TG := TG_in (List.mem_append_right _ (List.mem_of_getElem? (i := 371) (by decide +kernel))) (by decide +kernel)
theorem clJ13_314 : Cond.constantLong RJ13 314 (6148914691236517205) ∈ TG := TG_in (List.mem_append_right _ (List.mem_of_getElem? (i := 375) (by decide +kernel))) (by decide +kernel)
theorem clJ13_316 : Cond.constantLong RJ13 316 (3689348814741910323) ∈ TG := TG_in (List.mem_append_right _ (List.mem_of_getElem? (i := 376) (by decide +kernel))) (by decide +kernel)
theorem clJ13_318 : Cond.constantLong RJ13 318 (1085102592571150095) ∈ TG := TG_in (List.mem_append_right _ (List.mem_of_getElem? (i := 377) (by decide +kernel))) (by decide +kernel)
theorem clL_9 : Cond.constantLong RL 9 (101) ∈ TG := TG_in (List.mem_append_right _ (List.mem_of_getElem? (i := 493) (by decide +kernel))) (by decide +kernel)
theorem clL_11 : Cond.constantLong RL 11 (31) ∈ TG := TG_in (List.mem_append_right _ (List.mem_of_getElem? (i := 494) (by decide +kernel))) (by decide +kernel)
theorem clL_19 : Cond.constantLong RL 19 (7) ∈ TG := TG_in (List.mem_append_right _ (List.mem_of_getElem? (i := 495) (by decide +kernel))) (by decide +kernel)
theorem clL_25 : Cond.constantLong RL 25 (3) ∈ TG := TG_in (List.mem_append_right _ (List.mem_of_getElem? (i := 524) (by decide +kernel))) (by decide +kernel)
theorem nL_14 : NA RL 14 8 [.null, .null, .null, .null, .null, .int 0, .null, .null] := ⟨RX8, TX8, 8, tyX8, rfl, rfl, TG_in (List.mem_append_right _ (List.mem_of_getElem? (i := 13) (by decide +kernel))) (by decide +kernel), TG_in (List.mem_append_right _ (List.mem_of_getElem? (i := 14) (by decide +kernel))) (by decide +kernel), kiX8, wX8_in, tyX8_ok, fun j hj => by have : j < 8 := hj; (rcases (show j = 0 ∨ j = 1 ∨ j = 2 ∨ j = 3 ∨ j = 4 ∨ j = 5 ∨ j = 6 ∨ j = 7 by omega) with rfl | rfl | rfl | rfl | rfl | rfl | rfl | rfl <;> rfl)⟩
theorem nX8_7 : NA RX8 7 7 [.null, .int 0] := ⟨RX7, TX7, 2, tyX7, rfl, rfl, TG_in (List.mem_append_right _ (List.mem_of_getElem? (i := 21) (by decide +kernel))) (by decide +kernel), TG_in (List.mem_append_right _ (List.mem_of_getElem? (i := 22) (by decide +kernel))) (by decide +kernel), kiX7, wX7_in, tyX7_ok, fun j hj => by have : j < 2 := hj; (rcases (show j = 0 ∨ j = 1 by omega) with rfl | rfl <;> rfl)⟩
theorem nX8_16 : NA RX8 16 4 [.null, .null, .int 0, .int 0, .int 0] := ⟨RX4, TX4, 5, tyX4, rfl, rfl, TG_in (List.mem_append_right _ (List.mem_of_getElem? (i := 38) (by decide +kernel))) (by decide +kernel), TG_in (List.mem_append_right _ (List.mem_of_getElem? (i := 39) (by decide +kernel))) (by decide +kernel), kiX4, wX4_in, tyX4_ok, fun j hj => by have : j < 5 := hj; (rcases (show j = 0 ∨ j = 1 ∨ j = 2 ∨ j = 3 ∨ j = 4 by omega) with rfl | rfl | rfl | rfl | rfl <;> rfl)⟩
theorem nX8_23 : NA RX8 23 5 [.null, .null, .int 0] := ⟨RX5, TX5, 3, tyX5, rfl, rfl, TG_in (List.mem_append_right _ (List.mem_of_getElem? (i := 60) (by decide +kernel))) (by decide +kernel), TG_in (List.mem_append_right _ (List.mem_of_getElem? (i := 61) (by decide +kernel))) (by decide +kernel), kiX5, wX5_in, tyX5_ok, fun j hj => by have : j < 3 := hj; (rcases (show j = 0 ∨ j = 1 ∨ j = 2 by omega) with rfl | rfl | rfl <;> rfl)⟩
theorem nX8_30 : NA RX8 30 0 [.null, .int 0, .int 0] := ⟨RX0, TX0, 3, tyX0, rfl, rfl, TG_in (List.mem_append_right _ (List.mem_of_getElem? (i := 77) (by decide +kernel))) (by decide +kernel), TG_in (List.mem_append_right _ (List.mem_of_getElem? (i := 78) (by decide +kernel))) (by decide +kernel), kiX0, wX0_in, tyX0_ok, fun j hj => by have : j < 3 := hj; (rcases (show j = 0 ∨ j = 1 ∨ j = 2 by omega) with rfl | rfl | rfl <;> rfl)⟩
theorem clkX0_9 : Cond.classLink RX0 9 "CloneOutline$State" ∈ TG := TG_in (List.mem_append_right _ (List.mem_of_getElem? (i := 83) (by decide +kernel))) (by decide +kernel)
theorem nX0_9 : NA RX0 9 6 [.null, .null, .null] := ⟨RX6, TX6, 3, tyX6, rfl, rfl, TG_in (List.mem_append_right _ (List.mem_of_getElem? (i := 83) (by decide +kernel))) (by decide +kernel), TG_in (List.mem_append_right _ (List.mem_of_getElem? (i := 85) (by decide +kernel))) (by decide +kernel), kiX6, wX6_in, tyX6_ok, fun j hj => by have : j < 3 := hj; (rcases (show j = 0 ∨ j = 1 ∨ j = 2 by omega) with rfl | rfl | rfl <;> rfl)⟩
theorem nX6_9 : NA RX6 9 2 [.null, .null, .null, .int 0] := ⟨RX2, TX2, 4, tyX2, rfl, rfl, TG_in (List.mem_append_right _ (List.mem_of_getElem? (i := 90) (by decide +kernel))) (by decide +kernel), TG_in (List.mem_append_right _ (List.mem_of_getElem? (i := 91) (by decide +kernel))) (by decide +kernel), kiX2, wX2_in, tyX2_ok, fun j hj => by have : j < 4 := hj; (rcases (show j = 0 ∨ j = 1 ∨ j = 2 ∨ j = 3 by omega) with rfl | rfl | rfl | rfl <;> rfl)⟩
theorem nX6_18 : NA RX6 18 1 [.null, .null, .int 0] := ⟨RX1, TX1, 3, tyX1, rfl, rfl, TG_in (List.mem_append_right _ (List.mem_of_getElem? (i := 111) (by decide +kernel))) (by decide +kernel), TG_in (List.mem_append_right _ (List.mem_of_getElem? (i := 112) (by decide +kernel))) (by decide +kernel), kiX1, wX1_in, tyX1_ok, fun j hj => by have : j < 3 := hj; (rcases (show j = 0 ∨ j = 1 ∨ j = 2 by omega) with rfl | rfl | rfl <;> rfl)⟩
theorem nX6_25 : NA RX6 25 3 [.null, .null, .null, .int 0] := ⟨RX3, TX3, 4, tyX3, rfl, rfl, TG_in (List.mem_append_right _ (List.mem_of_getElem? (i := 130) (by decide +kernel))) (by decide +kernel), TG_in (List.mem_append_right _ (List.mem_of_getElem? (i := 131) (by decide +kernel))) (by decide +kernel), kiX3, wX3_in, tyX3_ok, fun j hj => by have : j < 4 := hj; (rcases (show j = 0 ∨ j = 1 ∨ j = 2 ∨ j = 3 by omega) with rfl | rfl | rfl | rfl <;> rfl)⟩
theorem nX8_37 : NA RX8 37 6 [.null, .null, .null] := ⟨RX6, TX6, 3, tyX6, rfl, rfl, TG_in (List.mem_append_right _ (List.mem_of_getElem? (i := 180) (by decide +kernel))) (by decide +kernel), TG_in (List.mem_append_right _ (List.mem_of_getElem? (i := 85) (by decide +kernel))) (by decide +kernel), kiX6, wX6_in, tyX6_ok, fun j hj => by have : j < 3 := hj; (rcases (show j = 0 ∨ j = 1 ∨ j = 2 by omega) with rfl | rfl | rfl <;> rfl)⟩
