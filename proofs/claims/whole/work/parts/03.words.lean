def GW : List Cond := lw_tbl.filter goodWord
theorem GW_good : GW.all goodWord = true := List.all_eq_true.mpr (fun _ h => (List.mem_filter.mp h).2)
theorem GW_in : ∀ w ∈ GW, w ∈ lw_tbl := fun _ h => (List.mem_filter.mp h).1
theorem GW_of {w : Cond} (h : w ∈ lw_tbl) (g : goodWord w = true) : w ∈ GW := List.mem_filter.mpr ⟨h, g⟩
theorem m0 : Cond.classLink RL 7 RX5 ∈ GW := GW_of (List.mem_of_getElem? (i := 47) (by decide +kernel)) rfl
theorem m1 : Cond.instantiable RX5 7 ∈ GW := GW_of (List.mem_of_getElem? (i := 48) (by decide +kernel)) rfl
theorem m2 : Cond.initialized RX5 ∈ GW := GW_of (List.mem_of_getElem? (i := 38) (by decide +kernel)) rfl
theorem m3 : Cond.classLink RL 10 RX6 ∈ GW := GW_of (List.mem_of_getElem? (i := 625) (by decide +kernel)) rfl
theorem m4 : Cond.instantiable RX6 10 ∈ GW := GW_of (List.mem_of_getElem? (i := 626) (by decide +kernel)) rfl
theorem m5 : Cond.initialized RX6 ∈ GW := GW_of (List.mem_of_getElem? (i := 44) (by decide +kernel)) rfl
theorem m6 : Cond.methodLink RL 9 yX5_init ∈ GW := GW_of (List.mem_of_getElem? (i := 49) (by decide +kernel)) rfl
theorem m7 : Cond.instanceMethod yX5_init ∈ GW := GW_of (List.mem_of_getElem? (i := 50) (by decide +kernel)) rfl
theorem m8 : Cond.code yX5_init cX5_init 1 none ∈ GW := GW_of (List.mem_of_getElem? (i := 51) (by decide +kernel)) rfl
theorem m9 : Cond.methodLink RX5 1 objectInit ∈ GW := GW_of (List.mem_of_getElem? (i := 52) (by decide +kernel)) rfl
theorem m10 : Cond.instanceMethod objectInit ∈ GW := GW_of (List.mem_of_getElem? (i := 53) (by decide +kernel)) rfl
theorem m11 : Cond.code objectInit ⟨#[0xb1]⟩ 1 none ∈ GW := GW_of (List.mem_of_getElem? (i := 54) (by decide +kernel)) rfl
theorem m12 : Cond.classLink RX5 7 RX4 ∈ GW := GW_of (List.mem_of_getElem? (i := 55) (by decide +kernel)) rfl
theorem m13 : Cond.instantiable RX4 4 ∈ GW := GW_of (List.mem_of_getElem? (i := 56) (by decide +kernel)) rfl
theorem m14 : Cond.initialized RX4 ∈ GW := GW_of (List.mem_of_getElem? (i := 39) (by decide +kernel)) rfl
theorem m15 : Cond.fieldLink RX5 10 "SiteCuts" "now" "LSiteCuts$State;" ∈ GW := GW_of (List.mem_of_getElem? (i := 178) (by decide +kernel)) rfl
theorem m16 : Cond.fieldLink RX5 16 "SiteCuts" "before" "LSiteCuts$State;" ∈ GW := GW_of (List.mem_of_getElem? (i := 179) (by decide +kernel)) rfl
theorem m17 : Cond.fieldLink RX5 19 "SiteCuts" "snapshot" "LSiteCuts$State;" ∈ GW := GW_of (List.mem_of_getElem? (i := 180) (by decide +kernel)) rfl
theorem m18 : Cond.fieldLink RX5 22 "SiteCuts" "hasSnapshot" "Z" ∈ GW := GW_of (List.mem_of_getElem? (i := 181) (by decide +kernel)) rfl
theorem m19 : Cond.classLink RX5 26 RX2 ∈ GW := GW_of (List.mem_of_getElem? (i := 146) (by decide +kernel)) rfl
theorem m20 : Cond.instantiable RX2 2 ∈ GW := GW_of (List.mem_of_getElem? (i := 147) (by decide +kernel)) rfl
theorem m21 : Cond.initialized RX2 ∈ GW := GW_of (List.mem_of_getElem? (i := 42) (by decide +kernel)) rfl
theorem m22 : Cond.fieldLink RX5 29 "SiteCuts" "history" "LSiteCuts$History;" ∈ GW := GW_of (List.mem_of_getElem? (i := 182) (by decide +kernel)) rfl
theorem m23 : Cond.classLink RX5 33 RX0 ∈ GW := GW_of (List.mem_of_getElem? (i := 163) (by decide +kernel)) rfl
theorem m24 : Cond.instantiable RX0 2 ∈ GW := GW_of (List.mem_of_getElem? (i := 164) (by decide +kernel)) rfl
theorem m25 : Cond.initialized RX0 ∈ GW := GW_of (List.mem_of_getElem? (i := 43) (by decide +kernel)) rfl
theorem m26 : Cond.fieldLink RX5 36 "SiteCuts" "text" "LSiteCuts$CutText;" ∈ GW := GW_of (List.mem_of_getElem? (i := 183) (by decide +kernel)) rfl
theorem m27 : Cond.arrayClass .int ∈ GW := GW_of (List.mem_of_getElem? (i := 103) (by decide +kernel)) rfl
theorem m28 : Cond.fieldLink RX5 40 "SiteCuts" "numbers" "[I" ∈ GW := GW_of (List.mem_of_getElem? (i := 184) (by decide +kernel)) rfl
theorem m29 : Cond.methodLink RX5 9 yX4_init ∈ GW := GW_of (List.mem_of_getElem? (i := 57) (by decide +kernel)) rfl
theorem m30 : Cond.instanceMethod yX4_init ∈ GW := GW_of (List.mem_of_getElem? (i := 58) (by decide +kernel)) rfl
theorem m31 : Cond.code yX4_init cX4_init 1 none ∈ GW := GW_of (List.mem_of_getElem? (i := 59) (by decide +kernel)) rfl
theorem m32 : Cond.methodLink RX4 3 objectInit ∈ GW := GW_of (List.mem_of_getElem? (i := 60) (by decide +kernel)) rfl
theorem m33 : Cond.classLink RX4 9 RX3 ∈ GW := GW_of (List.mem_of_getElem? (i := 61) (by decide +kernel)) rfl
theorem m34 : Cond.instantiable RX3 7 ∈ GW := GW_of (List.mem_of_getElem? (i := 62) (by decide +kernel)) rfl
theorem m35 : Cond.initialized RX3 ∈ GW := GW_of (List.mem_of_getElem? (i := 40) (by decide +kernel)) rfl
theorem m36 : Cond.fieldLink RX4 12 "SiteCuts$State" "places" "LSiteCuts$Places;" ∈ GW := GW_of (List.mem_of_getElem? (i := 129) (by decide +kernel)) rfl
theorem m37 : Cond.classLink RX4 18 RX1 ∈ GW := GW_of (List.mem_of_getElem? (i := 104) (by decide +kernel)) rfl
theorem m38 : Cond.instantiable RX1 4 ∈ GW := GW_of (List.mem_of_getElem? (i := 105) (by decide +kernel)) rfl
theorem m39 : Cond.initialized RX1 ∈ GW := GW_of (List.mem_of_getElem? (i := 41) (by decide +kernel)) rfl
theorem m40 : Cond.fieldLink RX4 21 "SiteCuts$State" "cuts" "LSiteCuts$Cuts;" ∈ GW := GW_of (List.mem_of_getElem? (i := 131) (by decide +kernel)) rfl
theorem m41 : Cond.fieldLink RX4 25 "SiteCuts$State" "best" "I" ∈ GW := GW_of (List.mem_of_getElem? (i := 133) (by decide +kernel)) rfl
theorem m42 : Cond.fieldLink RX4 29 "SiteCuts$State" "steps" "I" ∈ GW := GW_of (List.mem_of_getElem? (i := 135) (by decide +kernel)) rfl
theorem m43 : Cond.methodLink RX4 11 yX3_init ∈ GW := GW_of (List.mem_of_getElem? (i := 63) (by decide +kernel)) rfl
theorem m44 : Cond.instanceMethod yX3_init ∈ GW := GW_of (List.mem_of_getElem? (i := 64) (by decide +kernel)) rfl
theorem m45 : Cond.code yX3_init cX3_init 1 none ∈ GW := GW_of (List.mem_of_getElem? (i := 65) (by decide +kernel)) rfl
theorem m46 : Cond.methodLink RX3 3 objectInit ∈ GW := GW_of (List.mem_of_getElem? (i := 66) (by decide +kernel)) rfl
theorem m47 : Cond.fieldLink RX3 9 "SiteCuts$Places" "siteCount" "I" ∈ GW := GW_of (List.mem_of_getElem? (i := 69) (by decide +kernel)) rfl
theorem m48 : Cond.fieldLink RX3 15 "SiteCuts$Places" "customerCount" "I" ∈ GW := GW_of (List.mem_of_getElem? (i := 72) (by decide +kernel)) rfl
theorem m49 : Cond.fieldLink RX3 18 "SiteCuts$Places" "most" "I" ∈ GW := GW_of (List.mem_of_getElem? (i := 76) (by decide +kernel)) rfl
theorem m50 : Cond.fieldLink RX3 21 "SiteCuts$Places" "sitePrices" "[I" ∈ GW := GW_of (List.mem_of_getElem? (i := 78) (by decide +kernel)) rfl
theorem m51 : Cond.fieldLink RX3 25 "SiteCuts$Places" "demands" "[I" ∈ GW := GW_of (List.mem_of_getElem? (i := 80) (by decide +kernel)) rfl
theorem m52 : Cond.classLink RX3 28 "[[I" ∈ GW := GW_of (List.mem_of_getElem? (i := 67) (by decide +kernel)) rfl
theorem m53 : Cond.fieldLink RX3 30 "SiteCuts$Places" "routePrices" "[[I" ∈ GW := GW_of (List.mem_of_getElem? (i := 83) (by decide +kernel)) rfl
theorem m54 : Cond.fieldLink RX3 33 "SiteCuts$Places" "excluded" "[I" ∈ GW := GW_of (List.mem_of_getElem? (i := 86) (by decide +kernel)) rfl
theorem m55 : Cond.methodLink RX4 20 yX1_init ∈ GW := GW_of (List.mem_of_getElem? (i := 106) (by decide +kernel)) rfl
theorem m56 : Cond.instanceMethod yX1_init ∈ GW := GW_of (List.mem_of_getElem? (i := 107) (by decide +kernel)) rfl
theorem m57 : Cond.code yX1_init cX1_init 1 none ∈ GW := GW_of (List.mem_of_getElem? (i := 108) (by decide +kernel)) rfl
theorem m58 : Cond.methodLink RX1 3 objectInit ∈ GW := GW_of (List.mem_of_getElem? (i := 109) (by decide +kernel)) rfl
theorem m59 : Cond.fieldLink RX1 9 "SiteCuts$Cuts" "amount" "I" ∈ GW := GW_of (List.mem_of_getElem? (i := 111) (by decide +kernel)) rfl
theorem m60 : Cond.fieldLink RX1 15 "SiteCuts$Cuts" "customers" "[I" ∈ GW := GW_of (List.mem_of_getElem? (i := 114) (by decide +kernel)) rfl
theorem m61 : Cond.fieldLink RX1 19 "SiteCuts$Cuts" "starts" "[I" ∈ GW := GW_of (List.mem_of_getElem? (i := 116) (by decide +kernel)) rfl
theorem m62 : Cond.classLink RX1 22 "[[I" ∈ GW := GW_of (List.mem_of_getElem? (i := 110) (by decide +kernel)) rfl
theorem m63 : Cond.fieldLink RX1 24 "SiteCuts$Cuts" "weights" "[[I" ∈ GW := GW_of (List.mem_of_getElem? (i := 118) (by decide +kernel)) rfl
theorem m64 : Cond.methodLink RX5 28 yX2_init ∈ GW := GW_of (List.mem_of_getElem? (i := 148) (by decide +kernel)) rfl
theorem m65 : Cond.instanceMethod yX2_init ∈ GW := GW_of (List.mem_of_getElem? (i := 149) (by decide +kernel)) rfl
theorem m66 : Cond.code yX2_init cX2_init 2 none ∈ GW := GW_of (List.mem_of_getElem? (i := 150) (by decide +kernel)) rfl
theorem m67 : Cond.methodLink RX2 3 objectInit ∈ GW := GW_of (List.mem_of_getElem? (i := 151) (by decide +kernel)) rfl
theorem m68 : Cond.classLink RX2 9 RX4 ∈ GW := GW_of (List.mem_of_getElem? (i := 152) (by decide +kernel)) rfl
theorem m69 : Cond.fieldLink RX2 11 "SiteCuts$History" "states" "[LSiteCuts$State;" ∈ GW := GW_of (List.mem_of_getElem? (i := 155) (by decide +kernel)) rfl
theorem m70 : Cond.fieldLink RX2 18 "SiteCuts$History" "amount" "I" ∈ GW := GW_of (List.mem_of_getElem? (i := 156) (by decide +kernel)) rfl
theorem m71 : Cond.methodLink RX2 17 yX4_init ∈ GW := GW_of (List.mem_of_getElem? (i := 154) (by decide +kernel)) rfl
theorem m72 : Cond.methodLink RX5 35 yX0_init ∈ GW := GW_of (List.mem_of_getElem? (i := 165) (by decide +kernel)) rfl
theorem m73 : Cond.instanceMethod yX0_init ∈ GW := GW_of (List.mem_of_getElem? (i := 166) (by decide +kernel)) rfl
theorem m74 : Cond.code yX0_init cX0_init 1 none ∈ GW := GW_of (List.mem_of_getElem? (i := 167) (by decide +kernel)) rfl
theorem m75 : Cond.methodLink RX0 3 objectInit ∈ GW := GW_of (List.mem_of_getElem? (i := 168) (by decide +kernel)) rfl
theorem m76 : Cond.arrayClass .char ∈ GW := GW_of (List.mem_of_getElem? (i := 177) (by decide +kernel)) rfl
theorem m77 : Cond.fieldLink RX0 9 "SiteCuts$CutText" "characters" "[C" ∈ GW := GW_of (List.mem_of_getElem? (i := 169) (by decide +kernel)) rfl
theorem m78 : Cond.fieldLink RX0 15 "SiteCuts$CutText" "length" "I" ∈ GW := GW_of (List.mem_of_getElem? (i := 170) (by decide +kernel)) rfl
theorem m79 : Cond.methodLink RL 12 yX6_init ∈ GW := GW_of (List.mem_of_getElem? (i := 627) (by decide +kernel)) rfl
theorem m80 : Cond.instanceMethod yX6_init ∈ GW := GW_of (List.mem_of_getElem? (i := 628) (by decide +kernel)) rfl
theorem m81 : Cond.code yX6_init cX6_init 2 none ∈ GW := GW_of (List.mem_of_getElem? (i := 629) (by decide +kernel)) rfl
theorem m82 : Cond.methodLink RX6 1 objectInit ∈ GW := GW_of (List.mem_of_getElem? (i := 630) (by decide +kernel)) rfl
theorem m83 : Cond.fieldLink RX6 7 "SiteCutsModel" "row" "[I" ∈ GW := GW_of (List.mem_of_getElem? (i := 631) (by decide +kernel)) rfl
theorem m84 : Cond.fieldLink RX6 13 "SiteCutsModel" "past" "[I" ∈ GW := GW_of (List.mem_of_getElem? (i := 632) (by decide +kernel)) rfl
theorem m85 : Cond.fieldLink RX6 16 "SiteCutsModel" "aside" "[I" ∈ GW := GW_of (List.mem_of_getElem? (i := 633) (by decide +kernel)) rfl
theorem m86 : Cond.fieldLink RX6 19 "SiteCutsModel" "before" "[I" ∈ GW := GW_of (List.mem_of_getElem? (i := 634) (by decide +kernel)) rfl
theorem m87 : Cond.fieldLink RX6 22 "SiteCutsModel" "text" "[C" ∈ GW := GW_of (List.mem_of_getElem? (i := 637) (by decide +kernel)) rfl
theorem m88 : Cond.fieldLink RX6 26 "SiteCutsModel" "read" "[I" ∈ GW := GW_of (List.mem_of_getElem? (i := 640) (by decide +kernel)) rfl
theorem m89 : Cond.methodLink RL 13 yX5_addSite ∈ GW := GW_of (List.mem_of_getElem? (i := 200) (by decide +kernel)) rfl
theorem m90 : Cond.instanceMethod yX5_addSite ∈ GW := GW_of (List.mem_of_getElem? (i := 201) (by decide +kernel)) rfl
theorem m91 : Cond.selects RX5 yX5_addSite yX5_addSite ∈ GW := GW_of (List.mem_of_getElem? (i := 202) (by decide +kernel)) rfl
theorem m92 : Cond.code yX5_addSite cX5_addSite 2 (some .int) ∈ GW := GW_of (List.mem_of_getElem? (i := 203) (by decide +kernel)) rfl
theorem m93 : Cond.fieldLink RX5 48 "SiteCuts$State" "places" "LSiteCuts$Places;" ∈ GW := GW_of (List.mem_of_getElem? (i := 130) (by decide +kernel)) rfl
theorem m94 : Cond.fieldLink RX5 52 "SiteCuts$Places" "siteCount" "I" ∈ GW := GW_of (List.mem_of_getElem? (i := 70) (by decide +kernel)) rfl
theorem m95 : Cond.methodLink RX5 44 yX5_isSitePrice ∈ GW := GW_of (List.mem_of_getElem? (i := 204) (by decide +kernel)) rfl
theorem m96 : Cond.static yX5_isSitePrice ∈ GW := GW_of (List.mem_of_getElem? (i := 205) (by decide +kernel)) rfl
theorem m97 : Cond.code yX5_isSitePrice cX5_isSitePrice 1 (some .boolean) ∈ GW := GW_of (List.mem_of_getElem? (i := 206) (by decide +kernel)) rfl
theorem m98 : Cond.methodLink RX5 58 yX2_record ∈ GW := GW_of (List.mem_of_getElem? (i := 207) (by decide +kernel)) rfl
theorem m99 : Cond.instanceMethod yX2_record ∈ GW := GW_of (List.mem_of_getElem? (i := 208) (by decide +kernel)) rfl
theorem m100 : Cond.selects RX2 yX2_record yX2_record ∈ GW := GW_of (List.mem_of_getElem? (i := 209) (by decide +kernel)) rfl
theorem m101 : Cond.code yX2_record cX2_record 2 none ∈ GW := GW_of (List.mem_of_getElem? (i := 210) (by decide +kernel)) rfl
theorem m102 : Cond.methodLink RX2 22 yX2_moveOldestToEnd ∈ GW := GW_of (List.mem_of_getElem? (i := 211) (by decide +kernel)) rfl
theorem m103 : Cond.instanceMethod yX2_moveOldestToEnd ∈ GW := GW_of (List.mem_of_getElem? (i := 212) (by decide +kernel)) rfl
theorem m104 : Cond.selects RX2 yX2_moveOldestToEnd yX2_moveOldestToEnd ∈ GW := GW_of (List.mem_of_getElem? (i := 213) (by decide +kernel)) rfl
theorem m105 : Cond.code yX2_moveOldestToEnd cX2_moveOldestToEnd 3 none ∈ GW := GW_of (List.mem_of_getElem? (i := 214) (by decide +kernel)) rfl
theorem m106 : Cond.methodLink RX2 25 yX4_copyFrom ∈ GW := GW_of (List.mem_of_getElem? (i := 215) (by decide +kernel)) rfl
theorem m107 : Cond.instanceMethod yX4_copyFrom ∈ GW := GW_of (List.mem_of_getElem? (i := 216) (by decide +kernel)) rfl
theorem m108 : Cond.selects RX4 yX4_copyFrom yX4_copyFrom ∈ GW := GW_of (List.mem_of_getElem? (i := 217) (by decide +kernel)) rfl
theorem m109 : Cond.code yX4_copyFrom cX4_copyFrom 2 none ∈ GW := GW_of (List.mem_of_getElem? (i := 218) (by decide +kernel)) rfl
theorem m110 : Cond.methodLink RX4 32 yX3_copyFrom ∈ GW := GW_of (List.mem_of_getElem? (i := 219) (by decide +kernel)) rfl
theorem m111 : Cond.instanceMethod yX3_copyFrom ∈ GW := GW_of (List.mem_of_getElem? (i := 220) (by decide +kernel)) rfl
theorem m112 : Cond.selects RX3 yX3_copyFrom yX3_copyFrom ∈ GW := GW_of (List.mem_of_getElem? (i := 221) (by decide +kernel)) rfl
theorem m113 : Cond.code yX3_copyFrom cX3_copyFrom 4 none ∈ GW := GW_of (List.mem_of_getElem? (i := 222) (by decide +kernel)) rfl
theorem m114 : Cond.methodLink RX4 36 yX1_copyFrom ∈ GW := GW_of (List.mem_of_getElem? (i := 223) (by decide +kernel)) rfl
theorem m115 : Cond.instanceMethod yX1_copyFrom ∈ GW := GW_of (List.mem_of_getElem? (i := 224) (by decide +kernel)) rfl
theorem m116 : Cond.selects RX1 yX1_copyFrom yX1_copyFrom ∈ GW := GW_of (List.mem_of_getElem? (i := 225) (by decide +kernel)) rfl
theorem m117 : Cond.code yX1_copyFrom cX1_copyFrom 3 none ∈ GW := GW_of (List.mem_of_getElem? (i := 226) (by decide +kernel)) rfl
theorem m118 : Cond.methodLink RX1 27 yX1_copyCut ∈ GW := GW_of (List.mem_of_getElem? (i := 227) (by decide +kernel)) rfl
theorem m119 : Cond.instanceMethod yX1_copyCut ∈ GW := GW_of (List.mem_of_getElem? (i := 228) (by decide +kernel)) rfl
theorem m120 : Cond.selects RX1 yX1_copyCut yX1_copyCut ∈ GW := GW_of (List.mem_of_getElem? (i := 229) (by decide +kernel)) rfl
theorem m121 : Cond.code yX1_copyCut cX1_copyCut 5 none ∈ GW := GW_of (List.mem_of_getElem? (i := 230) (by decide +kernel)) rfl
theorem m122 : Cond.methodLink RX5 62 yX4_forgetCuts ∈ GW := GW_of (List.mem_of_getElem? (i := 231) (by decide +kernel)) rfl
theorem m123 : Cond.instanceMethod yX4_forgetCuts ∈ GW := GW_of (List.mem_of_getElem? (i := 232) (by decide +kernel)) rfl
theorem m124 : Cond.selects RX4 yX4_forgetCuts yX4_forgetCuts ∈ GW := GW_of (List.mem_of_getElem? (i := 233) (by decide +kernel)) rfl
theorem m125 : Cond.code yX4_forgetCuts cX4_forgetCuts 1 none ∈ GW := GW_of (List.mem_of_getElem? (i := 234) (by decide +kernel)) rfl
theorem m126 : Cond.fieldLink RX4 39 "SiteCuts$Cuts" "amount" "I" ∈ GW := GW_of (List.mem_of_getElem? (i := 112) (by decide +kernel)) rfl
theorem m127 : Cond.methodLink RX4 42 yX4_forgetBest ∈ GW := GW_of (List.mem_of_getElem? (i := 235) (by decide +kernel)) rfl
theorem m128 : Cond.instanceMethod yX4_forgetBest ∈ GW := GW_of (List.mem_of_getElem? (i := 236) (by decide +kernel)) rfl
theorem m129 : Cond.selects RX4 yX4_forgetBest yX4_forgetBest ∈ GW := GW_of (List.mem_of_getElem? (i := 237) (by decide +kernel)) rfl
theorem m130 : Cond.code yX4_forgetBest cX4_forgetBest 1 none ∈ GW := GW_of (List.mem_of_getElem? (i := 238) (by decide +kernel)) rfl
theorem m131 : Cond.methodLink RX5 65 yX3_appendSite ∈ GW := GW_of (List.mem_of_getElem? (i := 239) (by decide +kernel)) rfl
theorem m132 : Cond.instanceMethod yX3_appendSite ∈ GW := GW_of (List.mem_of_getElem? (i := 240) (by decide +kernel)) rfl
theorem m133 : Cond.selects RX3 yX3_appendSite yX3_appendSite ∈ GW := GW_of (List.mem_of_getElem? (i := 241) (by decide +kernel)) rfl
theorem m134 : Cond.code yX3_appendSite cX3_appendSite 4 (some .int) ∈ GW := GW_of (List.mem_of_getElem? (i := 242) (by decide +kernel)) rfl
theorem m135 : Cond.methodLink RL 17 yX6_addSite ∈ GW := GW_of (List.mem_of_getElem? (i := 686) (by decide +kernel)) rfl
theorem m136 : Cond.instanceMethod yX6_addSite ∈ GW := GW_of (List.mem_of_getElem? (i := 687) (by decide +kernel)) rfl
theorem m137 : Cond.selects RX6 yX6_addSite yX6_addSite ∈ GW := GW_of (List.mem_of_getElem? (i := 688) (by decide +kernel)) rfl
theorem m138 : Cond.code yX6_addSite cX6_addSite 3 (some .int) ∈ GW := GW_of (List.mem_of_getElem? (i := 689) (by decide +kernel)) rfl
theorem m139 : Cond.methodLink RX6 46 yX6_in ∈ GW := GW_of (List.mem_of_getElem? (i := 690) (by decide +kernel)) rfl
theorem m140 : Cond.static yX6_in ∈ GW := GW_of (List.mem_of_getElem? (i := 691) (by decide +kernel)) rfl
theorem m141 : Cond.code yX6_in cX6_in 3 (some .boolean) ∈ GW := GW_of (List.mem_of_getElem? (i := 692) (by decide +kernel)) rfl
theorem m142 : Cond.methodLink RX6 43 yX6_begin ∈ GW := GW_of (List.mem_of_getElem? (i := 674) (by decide +kernel)) rfl
theorem m143 : Cond.instanceMethod yX6_begin ∈ GW := GW_of (List.mem_of_getElem? (i := 676) (by decide +kernel)) rfl
theorem m144 : Cond.selects RX6 yX6_begin yX6_begin ∈ GW := GW_of (List.mem_of_getElem? (i := 3) (by decide +kernel)) rfl
theorem m145 : Cond.code yX6_begin cX6_begin 1 none ∈ GW := GW_of (List.mem_of_getElem? (i := 677) (by decide +kernel)) rfl
theorem m146 : Cond.methodLink RX6 33 yX6_remember ∈ GW := GW_of (List.mem_of_getElem? (i := 678) (by decide +kernel)) rfl
theorem m147 : Cond.instanceMethod yX6_remember ∈ GW := GW_of (List.mem_of_getElem? (i := 680) (by decide +kernel)) rfl
theorem m148 : Cond.selects RX6 yX6_remember yX6_remember ∈ GW := GW_of (List.mem_of_getElem? (i := 4) (by decide +kernel)) rfl
theorem m149 : Cond.code yX6_remember cX6_remember 2 none ∈ GW := GW_of (List.mem_of_getElem? (i := 681) (by decide +kernel)) rfl
theorem m150 : Cond.methodLink RX6 36 yX6_record ∈ GW := GW_of (List.mem_of_getElem? (i := 682) (by decide +kernel)) rfl
theorem m151 : Cond.instanceMethod yX6_record ∈ GW := GW_of (List.mem_of_getElem? (i := 684) (by decide +kernel)) rfl
theorem m152 : Cond.selects RX6 yX6_record yX6_record ∈ GW := GW_of (List.mem_of_getElem? (i := 5) (by decide +kernel)) rfl
theorem m153 : Cond.code yX6_record cX6_record 2 none ∈ GW := GW_of (List.mem_of_getElem? (i := 685) (by decide +kernel)) rfl
theorem m154 : Cond.fieldLink RX6 29 "SiteCutsModel" "states" "I" ∈ GW := GW_of (List.mem_of_getElem? (i := 635) (by decide +kernel)) rfl
theorem m155 : Cond.methodLink RX6 50 yX6_dropAll ∈ GW := GW_of (List.mem_of_getElem? (i := 693) (by decide +kernel)) rfl
theorem m156 : Cond.instanceMethod yX6_dropAll ∈ GW := GW_of (List.mem_of_getElem? (i := 695) (by decide +kernel)) rfl
theorem m157 : Cond.selects RX6 yX6_dropAll yX6_dropAll ∈ GW := GW_of (List.mem_of_getElem? (i := 6) (by decide +kernel)) rfl
theorem m158 : Cond.code yX6_dropAll cX6_dropAll 2 none ∈ GW := GW_of (List.mem_of_getElem? (i := 696) (by decide +kernel)) rfl
theorem m159 : Cond.methodLink RL 18 yX5_addCustomer ∈ GW := GW_of (List.mem_of_getElem? (i := 243) (by decide +kernel)) rfl
theorem m160 : Cond.instanceMethod yX5_addCustomer ∈ GW := GW_of (List.mem_of_getElem? (i := 244) (by decide +kernel)) rfl
theorem m161 : Cond.selects RX5 yX5_addCustomer yX5_addCustomer ∈ GW := GW_of (List.mem_of_getElem? (i := 245) (by decide +kernel)) rfl
theorem m162 : Cond.code yX5_addCustomer cX5_addCustomer 2 (some .int) ∈ GW := GW_of (List.mem_of_getElem? (i := 246) (by decide +kernel)) rfl
theorem m163 : Cond.fieldLink RX5 72 "SiteCuts$Places" "customerCount" "I" ∈ GW := GW_of (List.mem_of_getElem? (i := 73) (by decide +kernel)) rfl
theorem m164 : Cond.methodLink RX5 69 yX5_isDemand ∈ GW := GW_of (List.mem_of_getElem? (i := 247) (by decide +kernel)) rfl
theorem m165 : Cond.static yX5_isDemand ∈ GW := GW_of (List.mem_of_getElem? (i := 248) (by decide +kernel)) rfl
theorem m166 : Cond.code yX5_isDemand cX5_isDemand 1 (some .boolean) ∈ GW := GW_of (List.mem_of_getElem? (i := 249) (by decide +kernel)) rfl
theorem m167 : Cond.methodLink RX5 75 yX3_appendCustomer ∈ GW := GW_of (List.mem_of_getElem? (i := 250) (by decide +kernel)) rfl
theorem m168 : Cond.instanceMethod yX3_appendCustomer ∈ GW := GW_of (List.mem_of_getElem? (i := 251) (by decide +kernel)) rfl
theorem m169 : Cond.selects RX3 yX3_appendCustomer yX3_appendCustomer ∈ GW := GW_of (List.mem_of_getElem? (i := 252) (by decide +kernel)) rfl
theorem m170 : Cond.code yX3_appendCustomer cX3_appendCustomer 4 (some .int) ∈ GW := GW_of (List.mem_of_getElem? (i := 253) (by decide +kernel)) rfl
theorem m171 : Cond.methodLink RL 21 yX6_addCustomer ∈ GW := GW_of (List.mem_of_getElem? (i := 697) (by decide +kernel)) rfl
theorem m172 : Cond.instanceMethod yX6_addCustomer ∈ GW := GW_of (List.mem_of_getElem? (i := 698) (by decide +kernel)) rfl
theorem m173 : Cond.selects RX6 yX6_addCustomer yX6_addCustomer ∈ GW := GW_of (List.mem_of_getElem? (i := 699) (by decide +kernel)) rfl
theorem m174 : Cond.code yX6_addCustomer cX6_addCustomer 3 (some .int) ∈ GW := GW_of (List.mem_of_getElem? (i := 700) (by decide +kernel)) rfl
theorem m175 : Cond.methodLink RL 22 yX5_setPrice ∈ GW := GW_of (List.mem_of_getElem? (i := 254) (by decide +kernel)) rfl
theorem m176 : Cond.instanceMethod yX5_setPrice ∈ GW := GW_of (List.mem_of_getElem? (i := 255) (by decide +kernel)) rfl
theorem m177 : Cond.selects RX5 yX5_setPrice yX5_setPrice ∈ GW := GW_of (List.mem_of_getElem? (i := 256) (by decide +kernel)) rfl
theorem m178 : Cond.code yX5_setPrice cX5_setPrice 4 (some .int) ∈ GW := GW_of (List.mem_of_getElem? (i := 257) (by decide +kernel)) rfl
theorem m179 : Cond.fieldLink RX5 81 "SiteCuts$Places" "sitePrices" "[I" ∈ GW := GW_of (List.mem_of_getElem? (i := 79) (by decide +kernel)) rfl
theorem m180 : Cond.methodLink RX5 78 yX3_isSite ∈ GW := GW_of (List.mem_of_getElem? (i := 258) (by decide +kernel)) rfl
theorem m181 : Cond.instanceMethod yX3_isSite ∈ GW := GW_of (List.mem_of_getElem? (i := 259) (by decide +kernel)) rfl
theorem m182 : Cond.selects RX3 yX3_isSite yX3_isSite ∈ GW := GW_of (List.mem_of_getElem? (i := 260) (by decide +kernel)) rfl
theorem m183 : Cond.code yX3_isSite cX3_isSite 2 (some .boolean) ∈ GW := GW_of (List.mem_of_getElem? (i := 261) (by decide +kernel)) rfl
theorem m184 : Cond.methodLink RL 26 yX6_setPrice ∈ GW := GW_of (List.mem_of_getElem? (i := 701) (by decide +kernel)) rfl
theorem m185 : Cond.instanceMethod yX6_setPrice ∈ GW := GW_of (List.mem_of_getElem? (i := 702) (by decide +kernel)) rfl
theorem m186 : Cond.selects RX6 yX6_setPrice yX6_setPrice ∈ GW := GW_of (List.mem_of_getElem? (i := 703) (by decide +kernel)) rfl
theorem m187 : Cond.code yX6_setPrice cX6_setPrice 3 (some .int) ∈ GW := GW_of (List.mem_of_getElem? (i := 704) (by decide +kernel)) rfl
theorem m188 : Cond.methodLink RX6 53 yX6_noSite ∈ GW := GW_of (List.mem_of_getElem? (i := 705) (by decide +kernel)) rfl
theorem m189 : Cond.instanceMethod yX6_noSite ∈ GW := GW_of (List.mem_of_getElem? (i := 707) (by decide +kernel)) rfl
theorem m190 : Cond.selects RX6 yX6_noSite yX6_noSite ∈ GW := GW_of (List.mem_of_getElem? (i := 7) (by decide +kernel)) rfl
theorem m191 : Cond.code yX6_noSite cX6_noSite 2 (some .boolean) ∈ GW := GW_of (List.mem_of_getElem? (i := 708) (by decide +kernel)) rfl
theorem m192 : Cond.methodLink RX6 57 yX6_change ∈ GW := GW_of (List.mem_of_getElem? (i := 709) (by decide +kernel)) rfl
theorem m193 : Cond.instanceMethod yX6_change ∈ GW := GW_of (List.mem_of_getElem? (i := 711) (by decide +kernel)) rfl
theorem m194 : Cond.selects RX6 yX6_change yX6_change ∈ GW := GW_of (List.mem_of_getElem? (i := 8) (by decide +kernel)) rfl
theorem m195 : Cond.code yX6_change cX6_change 4 (some .int) ∈ GW := GW_of (List.mem_of_getElem? (i := 712) (by decide +kernel)) rfl
theorem m196 : Cond.methodLink RL 27 yX5_setDemand ∈ GW := GW_of (List.mem_of_getElem? (i := 262) (by decide +kernel)) rfl
theorem m197 : Cond.instanceMethod yX5_setDemand ∈ GW := GW_of (List.mem_of_getElem? (i := 263) (by decide +kernel)) rfl
theorem m198 : Cond.selects RX5 yX5_setDemand yX5_setDemand ∈ GW := GW_of (List.mem_of_getElem? (i := 264) (by decide +kernel)) rfl
theorem m199 : Cond.code yX5_setDemand cX5_setDemand 4 (some .int) ∈ GW := GW_of (List.mem_of_getElem? (i := 265) (by decide +kernel)) rfl
theorem m200 : Cond.fieldLink RX5 87 "SiteCuts$Places" "demands" "[I" ∈ GW := GW_of (List.mem_of_getElem? (i := 81) (by decide +kernel)) rfl
theorem m201 : Cond.methodLink RX5 84 yX3_isCustomer ∈ GW := GW_of (List.mem_of_getElem? (i := 266) (by decide +kernel)) rfl
theorem m202 : Cond.instanceMethod yX3_isCustomer ∈ GW := GW_of (List.mem_of_getElem? (i := 267) (by decide +kernel)) rfl
theorem m203 : Cond.selects RX3 yX3_isCustomer yX3_isCustomer ∈ GW := GW_of (List.mem_of_getElem? (i := 268) (by decide +kernel)) rfl
theorem m204 : Cond.code yX3_isCustomer cX3_isCustomer 2 (some .boolean) ∈ GW := GW_of (List.mem_of_getElem? (i := 269) (by decide +kernel)) rfl
theorem m205 : Cond.methodLink RL 30 yX6_setDemand ∈ GW := GW_of (List.mem_of_getElem? (i := 713) (by decide +kernel)) rfl
theorem m206 : Cond.instanceMethod yX6_setDemand ∈ GW := GW_of (List.mem_of_getElem? (i := 714) (by decide +kernel)) rfl
theorem m207 : Cond.selects RX6 yX6_setDemand yX6_setDemand ∈ GW := GW_of (List.mem_of_getElem? (i := 715) (by decide +kernel)) rfl
theorem m208 : Cond.code yX6_setDemand cX6_setDemand 3 (some .int) ∈ GW := GW_of (List.mem_of_getElem? (i := 716) (by decide +kernel)) rfl
theorem m209 : Cond.methodLink RX6 61 yX6_noCustomer ∈ GW := GW_of (List.mem_of_getElem? (i := 717) (by decide +kernel)) rfl
theorem m210 : Cond.instanceMethod yX6_noCustomer ∈ GW := GW_of (List.mem_of_getElem? (i := 719) (by decide +kernel)) rfl
theorem m211 : Cond.selects RX6 yX6_noCustomer yX6_noCustomer ∈ GW := GW_of (List.mem_of_getElem? (i := 9) (by decide +kernel)) rfl
theorem m212 : Cond.code yX6_noCustomer cX6_noCustomer 2 (some .boolean) ∈ GW := GW_of (List.mem_of_getElem? (i := 720) (by decide +kernel)) rfl
theorem m213 : Cond.methodLink RL 31 yX5_setRoute ∈ GW := GW_of (List.mem_of_getElem? (i := 270) (by decide +kernel)) rfl
theorem m214 : Cond.instanceMethod yX5_setRoute ∈ GW := GW_of (List.mem_of_getElem? (i := 271) (by decide +kernel)) rfl
theorem m215 : Cond.selects RX5 yX5_setRoute yX5_setRoute ∈ GW := GW_of (List.mem_of_getElem? (i := 272) (by decide +kernel)) rfl
theorem m216 : Cond.code yX5_setRoute cX5_setRoute 5 (some .int) ∈ GW := GW_of (List.mem_of_getElem? (i := 273) (by decide +kernel)) rfl
theorem m217 : Cond.fieldLink RX5 90 "SiteCuts$Places" "routePrices" "[[I" ∈ GW := GW_of (List.mem_of_getElem? (i := 84) (by decide +kernel)) rfl
theorem m218 : Cond.methodLink RL 35 yX6_setRoute ∈ GW := GW_of (List.mem_of_getElem? (i := 721) (by decide +kernel)) rfl
theorem m219 : Cond.instanceMethod yX6_setRoute ∈ GW := GW_of (List.mem_of_getElem? (i := 722) (by decide +kernel)) rfl
theorem m220 : Cond.selects RX6 yX6_setRoute yX6_setRoute ∈ GW := GW_of (List.mem_of_getElem? (i := 723) (by decide +kernel)) rfl
theorem m221 : Cond.code yX6_setRoute cX6_setRoute 4 (some .int) ∈ GW := GW_of (List.mem_of_getElem? (i := 724) (by decide +kernel)) rfl
theorem m222 : Cond.methodLink RX6 64 yX6_route ∈ GW := GW_of (List.mem_of_getElem? (i := 725) (by decide +kernel)) rfl
theorem m223 : Cond.static yX6_route ∈ GW := GW_of (List.mem_of_getElem? (i := 726) (by decide +kernel)) rfl
theorem m224 : Cond.code yX6_route cX6_route 2 (some .int) ∈ GW := GW_of (List.mem_of_getElem? (i := 727) (by decide +kernel)) rfl
theorem m225 : Cond.methodLink RL 36 yX5_setMost ∈ GW := GW_of (List.mem_of_getElem? (i := 274) (by decide +kernel)) rfl
theorem m226 : Cond.instanceMethod yX5_setMost ∈ GW := GW_of (List.mem_of_getElem? (i := 275) (by decide +kernel)) rfl
theorem m227 : Cond.selects RX5 yX5_setMost yX5_setMost ∈ GW := GW_of (List.mem_of_getElem? (i := 276) (by decide +kernel)) rfl
theorem m228 : Cond.code yX5_setMost cX5_setMost 3 (some .int) ∈ GW := GW_of (List.mem_of_getElem? (i := 277) (by decide +kernel)) rfl
theorem m229 : Cond.fieldLink RX5 94 "SiteCuts$Places" "most" "I" ∈ GW := GW_of (List.mem_of_getElem? (i := 77) (by decide +kernel)) rfl
theorem m230 : Cond.methodLink RX5 97 yX4_forgetBest ∈ GW := GW_of (List.mem_of_getElem? (i := 278) (by decide +kernel)) rfl
theorem m231 : Cond.methodLink RL 39 yX6_setMost ∈ GW := GW_of (List.mem_of_getElem? (i := 728) (by decide +kernel)) rfl
theorem m232 : Cond.instanceMethod yX6_setMost ∈ GW := GW_of (List.mem_of_getElem? (i := 729) (by decide +kernel)) rfl
theorem m233 : Cond.selects RX6 yX6_setMost yX6_setMost ∈ GW := GW_of (List.mem_of_getElem? (i := 730) (by decide +kernel)) rfl
theorem m234 : Cond.code yX6_setMost cX6_setMost 3 (some .int) ∈ GW := GW_of (List.mem_of_getElem? (i := 731) (by decide +kernel)) rfl
theorem m235 : Cond.methodLink RL 40 yX5_exclude ∈ GW := GW_of (List.mem_of_getElem? (i := 279) (by decide +kernel)) rfl
theorem m236 : Cond.instanceMethod yX5_exclude ∈ GW := GW_of (List.mem_of_getElem? (i := 280) (by decide +kernel)) rfl
theorem m237 : Cond.selects RX5 yX5_exclude yX5_exclude ∈ GW := GW_of (List.mem_of_getElem? (i := 281) (by decide +kernel)) rfl
theorem m238 : Cond.code yX5_exclude cX5_exclude 4 (some .int) ∈ GW := GW_of (List.mem_of_getElem? (i := 282) (by decide +kernel)) rfl
theorem m239 : Cond.fieldLink RX5 108 "SiteCuts$Places" "excluded" "[I" ∈ GW := GW_of (List.mem_of_getElem? (i := 87) (by decide +kernel)) rfl
theorem m240 : Cond.methodLink RX5 100 yX3_areExcluding ∈ GW := GW_of (List.mem_of_getElem? (i := 283) (by decide +kernel)) rfl
theorem m241 : Cond.instanceMethod yX3_areExcluding ∈ GW := GW_of (List.mem_of_getElem? (i := 284) (by decide +kernel)) rfl
theorem m242 : Cond.selects RX3 yX3_areExcluding yX3_areExcluding ∈ GW := GW_of (List.mem_of_getElem? (i := 285) (by decide +kernel)) rfl
theorem m243 : Cond.code yX3_areExcluding cX3_areExcluding 3 (some .boolean) ∈ GW := GW_of (List.mem_of_getElem? (i := 286) (by decide +kernel)) rfl
theorem m244 : Cond.static yX5_isIn ∈ GW := GW_of (List.mem_of_getElem? (i := 288) (by decide +kernel)) rfl
theorem m245 : Cond.code yX5_isIn cX5_isIn 2 (some .boolean) ∈ GW := GW_of (List.mem_of_getElem? (i := 289) (by decide +kernel)) rfl
theorem m246 : Cond.methodLink RX5 104 yX3_turnExclusion ∈ GW := GW_of (List.mem_of_getElem? (i := 290) (by decide +kernel)) rfl
theorem m247 : Cond.instanceMethod yX3_turnExclusion ∈ GW := GW_of (List.mem_of_getElem? (i := 291) (by decide +kernel)) rfl
theorem m248 : Cond.selects RX3 yX3_turnExclusion yX3_turnExclusion ∈ GW := GW_of (List.mem_of_getElem? (i := 292) (by decide +kernel)) rfl
theorem m249 : Cond.code yX3_turnExclusion cX3_turnExclusion 3 none ∈ GW := GW_of (List.mem_of_getElem? (i := 293) (by decide +kernel)) rfl
theorem m250 : Cond.methodLink RX5 111 yJ6_bitCount_0f7a4 ∈ GW := GW_of (List.mem_of_getElem? (i := 294) (by decide +kernel)) rfl
theorem m251 : Cond.static yJ6_bitCount_0f7a4 ∈ GW := GW_of (List.mem_of_getElem? (i := 295) (by decide +kernel)) rfl
theorem m252 : Cond.initialized RJ6 ∈ GW := GW_of (List.mem_of_getElem? (i := 45) (by decide +kernel)) rfl
theorem m253 : Cond.code yJ6_bitCount_0f7a4 cJ6_bitCount_0f7a4 1 (some .int) ∈ GW := GW_of (List.mem_of_getElem? (i := 296) (by decide +kernel)) rfl
theorem m254 : Cond.constant RJ6 265 (1431655765) ∈ GW := GW_of (List.mem_of_getElem? (i := 297) (by decide +kernel)) rfl
theorem m255 : Cond.constant RJ6 266 (858993459) ∈ GW := GW_of (List.mem_of_getElem? (i := 298) (by decide +kernel)) rfl
theorem m256 : Cond.constant RJ6 267 (252645135) ∈ GW := GW_of (List.mem_of_getElem? (i := 299) (by decide +kernel)) rfl
theorem m257 : Cond.methodLink RL 44 yX6_exclude ∈ GW := GW_of (List.mem_of_getElem? (i := 732) (by decide +kernel)) rfl
theorem m258 : Cond.instanceMethod yX6_exclude ∈ GW := GW_of (List.mem_of_getElem? (i := 733) (by decide +kernel)) rfl
theorem m259 : Cond.selects RX6 yX6_exclude yX6_exclude ∈ GW := GW_of (List.mem_of_getElem? (i := 734) (by decide +kernel)) rfl
theorem m260 : Cond.code yX6_exclude cX6_exclude 4 (some .int) ∈ GW := GW_of (List.mem_of_getElem? (i := 735) (by decide +kernel)) rfl
theorem m261 : Cond.methodLink RX6 67 yX6_isIn ∈ GW := GW_of (List.mem_of_getElem? (i := 736) (by decide +kernel)) rfl
theorem m262 : Cond.static yX6_isIn ∈ GW := GW_of (List.mem_of_getElem? (i := 737) (by decide +kernel)) rfl
theorem m263 : Cond.code yX6_isIn cX6_isIn 2 (some .boolean) ∈ GW := GW_of (List.mem_of_getElem? (i := 738) (by decide +kernel)) rfl
theorem m264 : Cond.methodLink RX6 71 yX6_many ∈ GW := GW_of (List.mem_of_getElem? (i := 739) (by decide +kernel)) rfl
theorem m265 : Cond.static yX6_many ∈ GW := GW_of (List.mem_of_getElem? (i := 740) (by decide +kernel)) rfl
theorem m266 : Cond.code yX6_many cX6_many 3 (some .int) ∈ GW := GW_of (List.mem_of_getElem? (i := 741) (by decide +kernel)) rfl
theorem m267 : Cond.methodLink RL 45 yX5_step ∈ GW := GW_of (List.mem_of_getElem? (i := 300) (by decide +kernel)) rfl
theorem m268 : Cond.instanceMethod yX5_step ∈ GW := GW_of (List.mem_of_getElem? (i := 301) (by decide +kernel)) rfl
theorem m269 : Cond.selects RX5 yX5_step yX5_step ∈ GW := GW_of (List.mem_of_getElem? (i := 302) (by decide +kernel)) rfl
theorem m270 : Cond.code yX5_step cX5_step 2 (some .int) ∈ GW := GW_of (List.mem_of_getElem? (i := 303) (by decide +kernel)) rfl
theorem m271 : Cond.methodLink RX5 116 yX4_copyFrom ∈ GW := GW_of (List.mem_of_getElem? (i := 304) (by decide +kernel)) rfl
theorem m272 : Cond.methodLink RX5 119 yX4_makeStep ∈ GW := GW_of (List.mem_of_getElem? (i := 305) (by decide +kernel)) rfl
theorem m273 : Cond.instanceMethod yX4_makeStep ∈ GW := GW_of (List.mem_of_getElem? (i := 306) (by decide +kernel)) rfl
theorem m274 : Cond.selects RX4 yX4_makeStep yX4_makeStep ∈ GW := GW_of (List.mem_of_getElem? (i := 307) (by decide +kernel)) rfl
theorem m275 : Cond.code yX4_makeStep cX4_makeStep 6 (some .int) ∈ GW := GW_of (List.mem_of_getElem? (i := 308) (by decide +kernel)) rfl
theorem m276 : Cond.fieldLink RX4 69 "SiteCuts$Places" "customerCount" "I" ∈ GW := GW_of (List.mem_of_getElem? (i := 74) (by decide +kernel)) rfl
theorem m277 : Cond.methodLink RX4 72 yX4_findMasterPlan ∈ GW := GW_of (List.mem_of_getElem? (i := 309) (by decide +kernel)) rfl
theorem m278 : Cond.instanceMethod yX4_findMasterPlan ∈ GW := GW_of (List.mem_of_getElem? (i := 310) (by decide +kernel)) rfl
theorem m279 : Cond.selects RX4 yX4_findMasterPlan yX4_findMasterPlan ∈ GW := GW_of (List.mem_of_getElem? (i := 311) (by decide +kernel)) rfl
theorem m280 : Cond.code yX4_findMasterPlan cX4_findMasterPlan 5 (some .int) ∈ GW := GW_of (List.mem_of_getElem? (i := 312) (by decide +kernel)) rfl
theorem m281 : Cond.methodLink RX4 59 yX3_planCount ∈ GW := GW_of (List.mem_of_getElem? (i := 313) (by decide +kernel)) rfl
theorem m282 : Cond.instanceMethod yX3_planCount ∈ GW := GW_of (List.mem_of_getElem? (i := 314) (by decide +kernel)) rfl
theorem m283 : Cond.selects RX3 yX3_planCount yX3_planCount ∈ GW := GW_of (List.mem_of_getElem? (i := 315) (by decide +kernel)) rfl
theorem m284 : Cond.code yX3_planCount cX3_planCount 1 (some .int) ∈ GW := GW_of (List.mem_of_getElem? (i := 316) (by decide +kernel)) rfl
theorem m285 : Cond.methodLink RX4 63 yX4_isForMaster ∈ GW := GW_of (List.mem_of_getElem? (i := 317) (by decide +kernel)) rfl
theorem m286 : Cond.instanceMethod yX4_isForMaster ∈ GW := GW_of (List.mem_of_getElem? (i := 318) (by decide +kernel)) rfl
theorem m287 : Cond.selects RX4 yX4_isForMaster yX4_isForMaster ∈ GW := GW_of (List.mem_of_getElem? (i := 319) (by decide +kernel)) rfl
theorem m288 : Cond.code yX4_isForMaster cX4_isForMaster 2 (some .boolean) ∈ GW := GW_of (List.mem_of_getElem? (i := 320) (by decide +kernel)) rfl
theorem m289 : Cond.methodLink RX4 52 yX3_isAllowed ∈ GW := GW_of (List.mem_of_getElem? (i := 321) (by decide +kernel)) rfl
theorem m290 : Cond.instanceMethod yX3_isAllowed ∈ GW := GW_of (List.mem_of_getElem? (i := 322) (by decide +kernel)) rfl
theorem m291 : Cond.selects RX3 yX3_isAllowed yX3_isAllowed ∈ GW := GW_of (List.mem_of_getElem? (i := 323) (by decide +kernel)) rfl
theorem m292 : Cond.code yX3_isAllowed cX3_isAllowed 2 (some .boolean) ∈ GW := GW_of (List.mem_of_getElem? (i := 324) (by decide +kernel)) rfl
theorem m293 : Cond.methodLink RX3 44 yJ6_bitCount_0f7a4 ∈ GW := GW_of (List.mem_of_getElem? (i := 325) (by decide +kernel)) rfl
theorem m294 : Cond.methodLink RX3 50 yX3_hasExcludingSites ∈ GW := GW_of (List.mem_of_getElem? (i := 326) (by decide +kernel)) rfl
theorem m295 : Cond.instanceMethod yX3_hasExcludingSites ∈ GW := GW_of (List.mem_of_getElem? (i := 327) (by decide +kernel)) rfl
theorem m296 : Cond.selects RX3 yX3_hasExcludingSites yX3_hasExcludingSites ∈ GW := GW_of (List.mem_of_getElem? (i := 328) (by decide +kernel)) rfl
theorem m297 : Cond.code yX3_hasExcludingSites cX3_hasExcludingSites 3 (some .boolean) ∈ GW := GW_of (List.mem_of_getElem? (i := 329) (by decide +kernel)) rfl
theorem m298 : Cond.methodLink RX4 56 yX1_countMissedRays ∈ GW := GW_of (List.mem_of_getElem? (i := 330) (by decide +kernel)) rfl
theorem m299 : Cond.instanceMethod yX1_countMissedRays ∈ GW := GW_of (List.mem_of_getElem? (i := 331) (by decide +kernel)) rfl
theorem m300 : Cond.selects RX1 yX1_countMissedRays yX1_countMissedRays ∈ GW := GW_of (List.mem_of_getElem? (i := 332) (by decide +kernel)) rfl
theorem m301 : Cond.code yX1_countMissedRays cX1_countMissedRays 4 (some .int) ∈ GW := GW_of (List.mem_of_getElem? (i := 333) (by decide +kernel)) rfl
theorem m302 : Cond.methodLink RX1 65 yX1_isRay ∈ GW := GW_of (List.mem_of_getElem? (i := 334) (by decide +kernel)) rfl
theorem m303 : Cond.instanceMethod yX1_isRay ∈ GW := GW_of (List.mem_of_getElem? (i := 335) (by decide +kernel)) rfl
theorem m304 : Cond.selects RX1 yX1_isRay yX1_isRay ∈ GW := GW_of (List.mem_of_getElem? (i := 336) (by decide +kernel)) rfl
theorem m305 : Cond.code yX1_isRay cX1_isRay 2 (some .boolean) ∈ GW := GW_of (List.mem_of_getElem? (i := 337) (by decide +kernel)) rfl
theorem m306 : Cond.methodLink RX1 62 yX1_weightOf ∈ GW := GW_of (List.mem_of_getElem? (i := 338) (by decide +kernel)) rfl
theorem m307 : Cond.instanceMethod yX1_weightOf ∈ GW := GW_of (List.mem_of_getElem? (i := 339) (by decide +kernel)) rfl
theorem m308 : Cond.selects RX1 yX1_weightOf yX1_weightOf ∈ GW := GW_of (List.mem_of_getElem? (i := 340) (by decide +kernel)) rfl
theorem m309 : Cond.code yX1_weightOf cX1_weightOf 5 (some .int) ∈ GW := GW_of (List.mem_of_getElem? (i := 341) (by decide +kernel)) rfl
theorem m310 : Cond.methodLink RX4 66 yX4_guessOf ∈ GW := GW_of (List.mem_of_getElem? (i := 343) (by decide +kernel)) rfl
theorem m311 : Cond.instanceMethod yX4_guessOf ∈ GW := GW_of (List.mem_of_getElem? (i := 344) (by decide +kernel)) rfl
theorem m312 : Cond.selects RX4 yX4_guessOf yX4_guessOf ∈ GW := GW_of (List.mem_of_getElem? (i := 345) (by decide +kernel)) rfl
theorem m313 : Cond.code yX4_guessOf cX4_guessOf 2 (some .int) ∈ GW := GW_of (List.mem_of_getElem? (i := 346) (by decide +kernel)) rfl
theorem m314 : Cond.methodLink RX4 45 yX3_sitePricesOf ∈ GW := GW_of (List.mem_of_getElem? (i := 347) (by decide +kernel)) rfl
theorem m315 : Cond.instanceMethod yX3_sitePricesOf ∈ GW := GW_of (List.mem_of_getElem? (i := 348) (by decide +kernel)) rfl
theorem m316 : Cond.selects RX3 yX3_sitePricesOf yX3_sitePricesOf ∈ GW := GW_of (List.mem_of_getElem? (i := 349) (by decide +kernel)) rfl
theorem m317 : Cond.code yX3_sitePricesOf cX3_sitePricesOf 4 (some .int) ∈ GW := GW_of (List.mem_of_getElem? (i := 350) (by decide +kernel)) rfl
theorem m318 : Cond.methodLink RX4 49 yX1_greatestValue ∈ GW := GW_of (List.mem_of_getElem? (i := 351) (by decide +kernel)) rfl
theorem m319 : Cond.instanceMethod yX1_greatestValue ∈ GW := GW_of (List.mem_of_getElem? (i := 352) (by decide +kernel)) rfl
theorem m320 : Cond.selects RX1 yX1_greatestValue yX1_greatestValue ∈ GW := GW_of (List.mem_of_getElem? (i := 353) (by decide +kernel)) rfl
theorem m321 : Cond.code yX1_greatestValue cX1_greatestValue 4 (some .int) ∈ GW := GW_of (List.mem_of_getElem? (i := 354) (by decide +kernel)) rfl
theorem m322 : Cond.methodLink RX1 53 Lib.Math.max.name ∈ GW := GW_of (List.mem_of_getElem? (i := 359) (by decide +kernel)) rfl
theorem m323 : Cond.static Lib.Math.max.name ∈ GW := GW_of (List.mem_of_getElem? (i := 360) (by decide +kernel)) rfl
theorem m324 : Cond.initialized "java/lang/Math" ∈ GW := GW_of (List.mem_of_getElem? (i := 46) (by decide +kernel)) rfl
theorem m325 : Cond.code Lib.Math.max.name Lib.Math.max.code 2 (some .int) ∈ GW := GW_of (List.mem_of_getElem? (i := 361) (by decide +kernel)) rfl
theorem m326 : Cond.methodLink RX1 69 yX1_valueOf ∈ GW := GW_of (List.mem_of_getElem? (i := 355) (by decide +kernel)) rfl
theorem m327 : Cond.instanceMethod yX1_valueOf ∈ GW := GW_of (List.mem_of_getElem? (i := 356) (by decide +kernel)) rfl
theorem m328 : Cond.selects RX1 yX1_valueOf yX1_valueOf ∈ GW := GW_of (List.mem_of_getElem? (i := 357) (by decide +kernel)) rfl
theorem m329 : Cond.code yX1_valueOf cX1_valueOf 3 (some .int) ∈ GW := GW_of (List.mem_of_getElem? (i := 358) (by decide +kernel)) rfl
theorem m330 : Cond.methodLink RX4 75 yX3_lowestMissedCustomer ∈ GW := GW_of (List.mem_of_getElem? (i := 362) (by decide +kernel)) rfl
theorem m331 : Cond.instanceMethod yX3_lowestMissedCustomer ∈ GW := GW_of (List.mem_of_getElem? (i := 363) (by decide +kernel)) rfl
theorem m332 : Cond.selects RX3 yX3_lowestMissedCustomer yX3_lowestMissedCustomer ∈ GW := GW_of (List.mem_of_getElem? (i := 364) (by decide +kernel)) rfl
theorem m333 : Cond.code yX3_lowestMissedCustomer cX3_lowestMissedCustomer 3 (some .int) ∈ GW := GW_of (List.mem_of_getElem? (i := 365) (by decide +kernel)) rfl
theorem m334 : Cond.methodLink RX3 63 yX3_leastRoutePrice ∈ GW := GW_of (List.mem_of_getElem? (i := 366) (by decide +kernel)) rfl
theorem m335 : Cond.instanceMethod yX3_leastRoutePrice ∈ GW := GW_of (List.mem_of_getElem? (i := 367) (by decide +kernel)) rfl
theorem m336 : Cond.selects RX3 yX3_leastRoutePrice yX3_leastRoutePrice ∈ GW := GW_of (List.mem_of_getElem? (i := 368) (by decide +kernel)) rfl
theorem m337 : Cond.code yX3_leastRoutePrice cX3_leastRoutePrice 5 (some .int) ∈ GW := GW_of (List.mem_of_getElem? (i := 369) (by decide +kernel)) rfl
theorem m338 : Cond.methodLink RX3 57 Lib.Math.min.name ∈ GW := GW_of (List.mem_of_getElem? (i := 370) (by decide +kernel)) rfl
theorem m339 : Cond.static Lib.Math.min.name ∈ GW := GW_of (List.mem_of_getElem? (i := 371) (by decide +kernel)) rfl
theorem m340 : Cond.code Lib.Math.min.name Lib.Math.min.code 2 (some .int) ∈ GW := GW_of (List.mem_of_getElem? (i := 372) (by decide +kernel)) rfl
theorem m341 : Cond.methodLink RX4 78 yX3_costOf ∈ GW := GW_of (List.mem_of_getElem? (i := 373) (by decide +kernel)) rfl
theorem m342 : Cond.instanceMethod yX3_costOf ∈ GW := GW_of (List.mem_of_getElem? (i := 374) (by decide +kernel)) rfl
theorem m343 : Cond.selects RX3 yX3_costOf yX3_costOf ∈ GW := GW_of (List.mem_of_getElem? (i := 375) (by decide +kernel)) rfl
theorem m344 : Cond.code yX3_costOf cX3_costOf 2 (some .int) ∈ GW := GW_of (List.mem_of_getElem? (i := 376) (by decide +kernel)) rfl
theorem m345 : Cond.methodLink RX3 72 yX3_sitePricesOf ∈ GW := GW_of (List.mem_of_getElem? (i := 377) (by decide +kernel)) rfl
theorem m346 : Cond.methodLink RX3 75 yX3_routeCostOf ∈ GW := GW_of (List.mem_of_getElem? (i := 378) (by decide +kernel)) rfl
theorem m347 : Cond.instanceMethod yX3_routeCostOf ∈ GW := GW_of (List.mem_of_getElem? (i := 379) (by decide +kernel)) rfl
theorem m348 : Cond.selects RX3 yX3_routeCostOf yX3_routeCostOf ∈ GW := GW_of (List.mem_of_getElem? (i := 380) (by decide +kernel)) rfl
theorem m349 : Cond.code yX3_routeCostOf cX3_routeCostOf 4 (some .int) ∈ GW := GW_of (List.mem_of_getElem? (i := 381) (by decide +kernel)) rfl
theorem m350 : Cond.methodLink RX4 81 yX1_isFull ∈ GW := GW_of (List.mem_of_getElem? (i := 382) (by decide +kernel)) rfl
theorem m351 : Cond.instanceMethod yX1_isFull ∈ GW := GW_of (List.mem_of_getElem? (i := 383) (by decide +kernel)) rfl
theorem m352 : Cond.selects RX1 yX1_isFull yX1_isFull ∈ GW := GW_of (List.mem_of_getElem? (i := 384) (by decide +kernel)) rfl
theorem m353 : Cond.code yX1_isFull cX1_isFull 1 (some .boolean) ∈ GW := GW_of (List.mem_of_getElem? (i := 385) (by decide +kernel)) rfl
theorem m354 : Cond.methodLink RX4 85 yX1_appendRay ∈ GW := GW_of (List.mem_of_getElem? (i := 386) (by decide +kernel)) rfl
theorem m355 : Cond.instanceMethod yX1_appendRay ∈ GW := GW_of (List.mem_of_getElem? (i := 387) (by decide +kernel)) rfl
theorem m356 : Cond.selects RX1 yX1_appendRay yX1_appendRay ∈ GW := GW_of (List.mem_of_getElem? (i := 388) (by decide +kernel)) rfl
theorem m357 : Cond.code yX1_appendRay cX1_appendRay 5 (some .int) ∈ GW := GW_of (List.mem_of_getElem? (i := 389) (by decide +kernel)) rfl
theorem m358 : Cond.fieldLink RX1 31 "SiteCuts$Places" "siteCount" "I" ∈ GW := GW_of (List.mem_of_getElem? (i := 71) (by decide +kernel)) rfl
theorem m359 : Cond.methodLink RX1 36 yX3_hasRoute ∈ GW := GW_of (List.mem_of_getElem? (i := 390) (by decide +kernel)) rfl
theorem m360 : Cond.instanceMethod yX3_hasRoute ∈ GW := GW_of (List.mem_of_getElem? (i := 391) (by decide +kernel)) rfl
theorem m361 : Cond.selects RX3 yX3_hasRoute yX3_hasRoute ∈ GW := GW_of (List.mem_of_getElem? (i := 392) (by decide +kernel)) rfl
theorem m362 : Cond.code yX3_hasRoute cX3_hasRoute 3 (some .boolean) ∈ GW := GW_of (List.mem_of_getElem? (i := 393) (by decide +kernel)) rfl
theorem m363 : Cond.methodLink RX4 89 yX4_improveBest ∈ GW := GW_of (List.mem_of_getElem? (i := 394) (by decide +kernel)) rfl
theorem m364 : Cond.instanceMethod yX4_improveBest ∈ GW := GW_of (List.mem_of_getElem? (i := 395) (by decide +kernel)) rfl
theorem m365 : Cond.selects RX4 yX4_improveBest yX4_improveBest ∈ GW := GW_of (List.mem_of_getElem? (i := 396) (by decide +kernel)) rfl
theorem m366 : Cond.code yX4_improveBest cX4_improveBest 2 none ∈ GW := GW_of (List.mem_of_getElem? (i := 397) (by decide +kernel)) rfl
theorem m367 : Cond.methodLink RX4 93 yX3_leastRoutePrice ∈ GW := GW_of (List.mem_of_getElem? (i := 398) (by decide +kernel)) rfl
theorem m368 : Cond.methodLink RX4 97 yX1_appendPriceCut ∈ GW := GW_of (List.mem_of_getElem? (i := 399) (by decide +kernel)) rfl
theorem m369 : Cond.instanceMethod yX1_appendPriceCut ∈ GW := GW_of (List.mem_of_getElem? (i := 400) (by decide +kernel)) rfl
theorem m370 : Cond.selects RX1 yX1_appendPriceCut yX1_appendPriceCut ∈ GW := GW_of (List.mem_of_getElem? (i := 401) (by decide +kernel)) rfl
theorem m371 : Cond.code yX1_appendPriceCut cX1_appendPriceCut 5 (some .int) ∈ GW := GW_of (List.mem_of_getElem? (i := 402) (by decide +kernel)) rfl
theorem m372 : Cond.fieldLink RX1 40 "SiteCuts$Places" "customerCount" "I" ∈ GW := GW_of (List.mem_of_getElem? (i := 75) (by decide +kernel)) rfl
theorem m373 : Cond.fieldLink RX1 43 "SiteCuts$Places" "demands" "[I" ∈ GW := GW_of (List.mem_of_getElem? (i := 82) (by decide +kernel)) rfl
theorem m374 : Cond.methodLink RX1 46 yX1_savedBy ∈ GW := GW_of (List.mem_of_getElem? (i := 403) (by decide +kernel)) rfl
theorem m375 : Cond.static yX1_savedBy ∈ GW := GW_of (List.mem_of_getElem? (i := 404) (by decide +kernel)) rfl
theorem m376 : Cond.code yX1_savedBy cX1_savedBy 6 (some .int) ∈ GW := GW_of (List.mem_of_getElem? (i := 405) (by decide +kernel)) rfl
theorem m377 : Cond.fieldLink RX1 50 "SiteCuts$Places" "routePrices" "[[I" ∈ GW := GW_of (List.mem_of_getElem? (i := 85) (by decide +kernel)) rfl
theorem m378 : Cond.methodLink RL 49 yX6_step ∈ GW := GW_of (List.mem_of_getElem? (i := 742) (by decide +kernel)) rfl
theorem m379 : Cond.instanceMethod yX6_step ∈ GW := GW_of (List.mem_of_getElem? (i := 743) (by decide +kernel)) rfl
theorem m380 : Cond.selects RX6 yX6_step yX6_step ∈ GW := GW_of (List.mem_of_getElem? (i := 744) (by decide +kernel)) rfl
theorem m381 : Cond.code yX6_step cX6_step 2 (some .int) ∈ GW := GW_of (List.mem_of_getElem? (i := 745) (by decide +kernel)) rfl
theorem m382 : Cond.methodLink RX6 118 yX6_makeStep ∈ GW := GW_of (List.mem_of_getElem? (i := 746) (by decide +kernel)) rfl
theorem m383 : Cond.instanceMethod yX6_makeStep ∈ GW := GW_of (List.mem_of_getElem? (i := 748) (by decide +kernel)) rfl
theorem m384 : Cond.selects RX6 yX6_makeStep yX6_makeStep ∈ GW := GW_of (List.mem_of_getElem? (i := 10) (by decide +kernel)) rfl
theorem m385 : Cond.code yX6_makeStep cX6_makeStep 7 (some .int) ∈ GW := GW_of (List.mem_of_getElem? (i := 749) (by decide +kernel)) rfl
theorem m386 : Cond.methodLink RX6 111 yX6_masterPlan ∈ GW := GW_of (List.mem_of_getElem? (i := 750) (by decide +kernel)) rfl
theorem m387 : Cond.instanceMethod yX6_masterPlan ∈ GW := GW_of (List.mem_of_getElem? (i := 752) (by decide +kernel)) rfl
theorem m388 : Cond.selects RX6 yX6_masterPlan yX6_masterPlan ∈ GW := GW_of (List.mem_of_getElem? (i := 11) (by decide +kernel)) rfl
theorem m389 : Cond.code yX6_masterPlan cX6_masterPlan 5 (some .int) ∈ GW := GW_of (List.mem_of_getElem? (i := 753) (by decide +kernel)) rfl
theorem m390 : Cond.methodLink RX6 84 yX6_isAllowed ∈ GW := GW_of (List.mem_of_getElem? (i := 754) (by decide +kernel)) rfl
theorem m391 : Cond.instanceMethod yX6_isAllowed ∈ GW := GW_of (List.mem_of_getElem? (i := 756) (by decide +kernel)) rfl
theorem m392 : Cond.selects RX6 yX6_isAllowed yX6_isAllowed ∈ GW := GW_of (List.mem_of_getElem? (i := 12) (by decide +kernel)) rfl
theorem m393 : Cond.code yX6_isAllowed cX6_isAllowed 2 (some .boolean) ∈ GW := GW_of (List.mem_of_getElem? (i := 757) (by decide +kernel)) rfl
theorem m394 : Cond.methodLink RX6 75 yX6_excludes ∈ GW := GW_of (List.mem_of_getElem? (i := 758) (by decide +kernel)) rfl
theorem m395 : Cond.instanceMethod yX6_excludes ∈ GW := GW_of (List.mem_of_getElem? (i := 760) (by decide +kernel)) rfl
theorem m396 : Cond.selects RX6 yX6_excludes yX6_excludes ∈ GW := GW_of (List.mem_of_getElem? (i := 13) (by decide +kernel)) rfl
theorem m397 : Cond.code yX6_excludes cX6_excludes 4 (some .boolean) ∈ GW := GW_of (List.mem_of_getElem? (i := 761) (by decide +kernel)) rfl
theorem m398 : Cond.methodLink RX6 105 yX6_raysMissed ∈ GW := GW_of (List.mem_of_getElem? (i := 762) (by decide +kernel)) rfl
theorem m399 : Cond.instanceMethod yX6_raysMissed ∈ GW := GW_of (List.mem_of_getElem? (i := 764) (by decide +kernel)) rfl
theorem m400 : Cond.selects RX6 yX6_raysMissed yX6_raysMissed ∈ GW := GW_of (List.mem_of_getElem? (i := 14) (by decide +kernel)) rfl
theorem m401 : Cond.code yX6_raysMissed cX6_raysMissed 4 (some .int) ∈ GW := GW_of (List.mem_of_getElem? (i := 765) (by decide +kernel)) rfl
theorem m402 : Cond.methodLink RX6 93 yX6_isRay ∈ GW := GW_of (List.mem_of_getElem? (i := 766) (by decide +kernel)) rfl
theorem m403 : Cond.instanceMethod yX6_isRay ∈ GW := GW_of (List.mem_of_getElem? (i := 768) (by decide +kernel)) rfl
theorem m404 : Cond.selects RX6 yX6_isRay yX6_isRay ∈ GW := GW_of (List.mem_of_getElem? (i := 15) (by decide +kernel)) rfl
theorem m405 : Cond.code yX6_isRay cX6_isRay 2 (some .boolean) ∈ GW := GW_of (List.mem_of_getElem? (i := 769) (by decide +kernel)) rfl
theorem m406 : Cond.methodLink RX6 96 yX6_asked ∈ GW := GW_of (List.mem_of_getElem? (i := 770) (by decide +kernel)) rfl
theorem m407 : Cond.instanceMethod yX6_asked ∈ GW := GW_of (List.mem_of_getElem? (i := 772) (by decide +kernel)) rfl
theorem m408 : Cond.selects RX6 yX6_asked yX6_asked ∈ GW := GW_of (List.mem_of_getElem? (i := 16) (by decide +kernel)) rfl
theorem m409 : Cond.code yX6_asked cX6_asked 3 (some .int) ∈ GW := GW_of (List.mem_of_getElem? (i := 773) (by decide +kernel)) rfl
theorem m410 : Cond.methodLink RX6 78 yX6_reachedFrom ∈ GW := GW_of (List.mem_of_getElem? (i := 774) (by decide +kernel)) rfl
theorem m411 : Cond.instanceMethod yX6_reachedFrom ∈ GW := GW_of (List.mem_of_getElem? (i := 776) (by decide +kernel)) rfl
theorem m412 : Cond.selects RX6 yX6_reachedFrom yX6_reachedFrom ∈ GW := GW_of (List.mem_of_getElem? (i := 17) (by decide +kernel)) rfl
theorem m413 : Cond.code yX6_reachedFrom cX6_reachedFrom 4 (some .int) ∈ GW := GW_of (List.mem_of_getElem? (i := 777) (by decide +kernel)) rfl
theorem m414 : Cond.methodLink RX6 108 yX6_guess ∈ GW := GW_of (List.mem_of_getElem? (i := 778) (by decide +kernel)) rfl
theorem m415 : Cond.instanceMethod yX6_guess ∈ GW := GW_of (List.mem_of_getElem? (i := 780) (by decide +kernel)) rfl
theorem m416 : Cond.selects RX6 yX6_guess yX6_guess ∈ GW := GW_of (List.mem_of_getElem? (i := 18) (by decide +kernel)) rfl
theorem m417 : Cond.code yX6_guess cX6_guess 5 (some .int) ∈ GW := GW_of (List.mem_of_getElem? (i := 781) (by decide +kernel)) rfl
theorem m418 : Cond.methodLink RX6 99 yX6_valueOf ∈ GW := GW_of (List.mem_of_getElem? (i := 782) (by decide +kernel)) rfl
theorem m419 : Cond.instanceMethod yX6_valueOf ∈ GW := GW_of (List.mem_of_getElem? (i := 784) (by decide +kernel)) rfl
theorem m420 : Cond.selects RX6 yX6_valueOf yX6_valueOf ∈ GW := GW_of (List.mem_of_getElem? (i := 19) (by decide +kernel)) rfl
theorem m421 : Cond.code yX6_valueOf cX6_valueOf 5 (some .int) ∈ GW := GW_of (List.mem_of_getElem? (i := 785) (by decide +kernel)) rfl
theorem m422 : Cond.methodLink RX6 90 yX6_weightOf ∈ GW := GW_of (List.mem_of_getElem? (i := 786) (by decide +kernel)) rfl
theorem m423 : Cond.instanceMethod yX6_weightOf ∈ GW := GW_of (List.mem_of_getElem? (i := 788) (by decide +kernel)) rfl
theorem m424 : Cond.selects RX6 yX6_weightOf yX6_weightOf ∈ GW := GW_of (List.mem_of_getElem? (i := 20) (by decide +kernel)) rfl
theorem m425 : Cond.code yX6_weightOf cX6_weightOf 6 (some .int) ∈ GW := GW_of (List.mem_of_getElem? (i := 789) (by decide +kernel)) rfl
theorem m426 : Cond.methodLink RX6 102 yX6_prices ∈ GW := GW_of (List.mem_of_getElem? (i := 790) (by decide +kernel)) rfl
theorem m427 : Cond.instanceMethod yX6_prices ∈ GW := GW_of (List.mem_of_getElem? (i := 792) (by decide +kernel)) rfl
theorem m428 : Cond.selects RX6 yX6_prices yX6_prices ∈ GW := GW_of (List.mem_of_getElem? (i := 21) (by decide +kernel)) rfl
theorem m429 : Cond.code yX6_prices cX6_prices 4 (some .int) ∈ GW := GW_of (List.mem_of_getElem? (i := 793) (by decide +kernel)) rfl
theorem m430 : Cond.methodLink RX6 87 yX6_missed ∈ GW := GW_of (List.mem_of_getElem? (i := 794) (by decide +kernel)) rfl
theorem m431 : Cond.instanceMethod yX6_missed ∈ GW := GW_of (List.mem_of_getElem? (i := 796) (by decide +kernel)) rfl
theorem m432 : Cond.selects RX6 yX6_missed yX6_missed ∈ GW := GW_of (List.mem_of_getElem? (i := 22) (by decide +kernel)) rfl
theorem m433 : Cond.code yX6_missed cX6_missed 3 (some .int) ∈ GW := GW_of (List.mem_of_getElem? (i := 797) (by decide +kernel)) rfl
theorem m434 : Cond.methodLink RX6 115 yX6_routes ∈ GW := GW_of (List.mem_of_getElem? (i := 798) (by decide +kernel)) rfl
theorem m435 : Cond.instanceMethod yX6_routes ∈ GW := GW_of (List.mem_of_getElem? (i := 800) (by decide +kernel)) rfl
theorem m436 : Cond.selects RX6 yX6_routes yX6_routes ∈ GW := GW_of (List.mem_of_getElem? (i := 23) (by decide +kernel)) rfl
theorem m437 : Cond.code yX6_routes cX6_routes 4 (some .int) ∈ GW := GW_of (List.mem_of_getElem? (i := 801) (by decide +kernel)) rfl
theorem m438 : Cond.methodLink RX6 81 yX6_server ∈ GW := GW_of (List.mem_of_getElem? (i := 802) (by decide +kernel)) rfl
theorem m439 : Cond.instanceMethod yX6_server ∈ GW := GW_of (List.mem_of_getElem? (i := 804) (by decide +kernel)) rfl
theorem m440 : Cond.selects RX6 yX6_server yX6_server ∈ GW := GW_of (List.mem_of_getElem? (i := 24) (by decide +kernel)) rfl
theorem m441 : Cond.code yX6_server cX6_server 6 (some .int) ∈ GW := GW_of (List.mem_of_getElem? (i := 805) (by decide +kernel)) rfl
theorem m442 : Cond.methodLink RL 50 yX5_solve ∈ GW := GW_of (List.mem_of_getElem? (i := 406) (by decide +kernel)) rfl
theorem m443 : Cond.instanceMethod yX5_solve ∈ GW := GW_of (List.mem_of_getElem? (i := 407) (by decide +kernel)) rfl
theorem m444 : Cond.selects RX5 yX5_solve yX5_solve ∈ GW := GW_of (List.mem_of_getElem? (i := 408) (by decide +kernel)) rfl
theorem m445 : Cond.code yX5_solve cX5_solve 3 (some .int) ∈ GW := GW_of (List.mem_of_getElem? (i := 409) (by decide +kernel)) rfl
theorem m446 : Cond.fieldLink RX5 126 "SiteCuts$State" "cuts" "LSiteCuts$Cuts;" ∈ GW := GW_of (List.mem_of_getElem? (i := 132) (by decide +kernel)) rfl
theorem m447 : Cond.fieldLink RX5 130 "SiteCuts$Cuts" "amount" "I" ∈ GW := GW_of (List.mem_of_getElem? (i := 113) (by decide +kernel)) rfl
theorem m448 : Cond.methodLink RX5 123 yX5_isCutAdded ∈ GW := GW_of (List.mem_of_getElem? (i := 410) (by decide +kernel)) rfl
theorem m449 : Cond.static yX5_isCutAdded ∈ GW := GW_of (List.mem_of_getElem? (i := 411) (by decide +kernel)) rfl
theorem m450 : Cond.code yX5_isCutAdded cX5_isCutAdded 1 (some .boolean) ∈ GW := GW_of (List.mem_of_getElem? (i := 412) (by decide +kernel)) rfl
theorem m451 : Cond.methodLink RL 53 yX6_solve ∈ GW := GW_of (List.mem_of_getElem? (i := 806) (by decide +kernel)) rfl
theorem m452 : Cond.instanceMethod yX6_solve ∈ GW := GW_of (List.mem_of_getElem? (i := 807) (by decide +kernel)) rfl
theorem m453 : Cond.selects RX6 yX6_solve yX6_solve ∈ GW := GW_of (List.mem_of_getElem? (i := 808) (by decide +kernel)) rfl
theorem m454 : Cond.code yX6_solve cX6_solve 4 (some .int) ∈ GW := GW_of (List.mem_of_getElem? (i := 809) (by decide +kernel)) rfl
theorem m455 : Cond.methodLink RX6 121 yX6_goBack ∈ GW := GW_of (List.mem_of_getElem? (i := 810) (by decide +kernel)) rfl
theorem m456 : Cond.instanceMethod yX6_goBack ∈ GW := GW_of (List.mem_of_getElem? (i := 812) (by decide +kernel)) rfl
theorem m457 : Cond.selects RX6 yX6_goBack yX6_goBack ∈ GW := GW_of (List.mem_of_getElem? (i := 25) (by decide +kernel)) rfl
theorem m458 : Cond.code yX6_goBack cX6_goBack 2 none ∈ GW := GW_of (List.mem_of_getElem? (i := 813) (by decide +kernel)) rfl
theorem m459 : Cond.methodLink RL 54 yX5_readCut ∈ GW := GW_of (List.mem_of_getElem? (i := 413) (by decide +kernel)) rfl
theorem m460 : Cond.instanceMethod yX5_readCut ∈ GW := GW_of (List.mem_of_getElem? (i := 414) (by decide +kernel)) rfl
theorem m461 : Cond.selects RX5 yX5_readCut yX5_readCut ∈ GW := GW_of (List.mem_of_getElem? (i := 415) (by decide +kernel)) rfl
theorem m462 : Cond.code yX5_readCut cX5_readCut 2 (some .int) ∈ GW := GW_of (List.mem_of_getElem? (i := 416) (by decide +kernel)) rfl
theorem m463 : Cond.methodLink RX5 135 yX0_readNumbers ∈ GW := GW_of (List.mem_of_getElem? (i := 417) (by decide +kernel)) rfl
theorem m464 : Cond.instanceMethod yX0_readNumbers ∈ GW := GW_of (List.mem_of_getElem? (i := 418) (by decide +kernel)) rfl
theorem m465 : Cond.selects RX0 yX0_readNumbers yX0_readNumbers ∈ GW := GW_of (List.mem_of_getElem? (i := 419) (by decide +kernel)) rfl
theorem m466 : Cond.code yX0_readNumbers cX0_readNumbers 6 (some .int) ∈ GW := GW_of (List.mem_of_getElem? (i := 420) (by decide +kernel)) rfl
theorem m467 : Cond.methodLink RX0 19 yX0_isCommaAt ∈ GW := GW_of (List.mem_of_getElem? (i := 421) (by decide +kernel)) rfl
theorem m468 : Cond.instanceMethod yX0_isCommaAt ∈ GW := GW_of (List.mem_of_getElem? (i := 422) (by decide +kernel)) rfl
theorem m469 : Cond.selects RX0 yX0_isCommaAt yX0_isCommaAt ∈ GW := GW_of (List.mem_of_getElem? (i := 423) (by decide +kernel)) rfl
theorem m470 : Cond.code yX0_isCommaAt cX0_isCommaAt 2 (some .boolean) ∈ GW := GW_of (List.mem_of_getElem? (i := 424) (by decide +kernel)) rfl
theorem m471 : Cond.methodLink RX0 23 yX0_isDigitAt ∈ GW := GW_of (List.mem_of_getElem? (i := 425) (by decide +kernel)) rfl
theorem m472 : Cond.instanceMethod yX0_isDigitAt ∈ GW := GW_of (List.mem_of_getElem? (i := 426) (by decide +kernel)) rfl
theorem m473 : Cond.selects RX0 yX0_isDigitAt yX0_isDigitAt ∈ GW := GW_of (List.mem_of_getElem? (i := 427) (by decide +kernel)) rfl
theorem m474 : Cond.code yX0_isDigitAt cX0_isDigitAt 2 (some .boolean) ∈ GW := GW_of (List.mem_of_getElem? (i := 428) (by decide +kernel)) rfl
theorem m475 : Cond.methodLink RX0 26 yX0_digitAt ∈ GW := GW_of (List.mem_of_getElem? (i := 429) (by decide +kernel)) rfl
theorem m476 : Cond.instanceMethod yX0_digitAt ∈ GW := GW_of (List.mem_of_getElem? (i := 430) (by decide +kernel)) rfl
theorem m477 : Cond.selects RX0 yX0_digitAt yX0_digitAt ∈ GW := GW_of (List.mem_of_getElem? (i := 431) (by decide +kernel)) rfl
theorem m478 : Cond.code yX0_digitAt cX0_digitAt 2 (some .int) ∈ GW := GW_of (List.mem_of_getElem? (i := 432) (by decide +kernel)) rfl
theorem m479 : Cond.methodLink RX5 139 yX1_isFull ∈ GW := GW_of (List.mem_of_getElem? (i := 433) (by decide +kernel)) rfl
theorem m480 : Cond.methodLink RX5 143 yX1_appendPriceCut ∈ GW := GW_of (List.mem_of_getElem? (i := 434) (by decide +kernel)) rfl
theorem m481 : Cond.methodLink RL 57 yX6_readCut ∈ GW := GW_of (List.mem_of_getElem? (i := 842) (by decide +kernel)) rfl
theorem m482 : Cond.instanceMethod yX6_readCut ∈ GW := GW_of (List.mem_of_getElem? (i := 843) (by decide +kernel)) rfl
theorem m483 : Cond.selects RX6 yX6_readCut yX6_readCut ∈ GW := GW_of (List.mem_of_getElem? (i := 844) (by decide +kernel)) rfl
theorem m484 : Cond.code yX6_readCut cX6_readCut 3 (some .int) ∈ GW := GW_of (List.mem_of_getElem? (i := 845) (by decide +kernel)) rfl
theorem m485 : Cond.fieldLink RX6 137 "SiteCutsModel" "at" "I" ∈ GW := GW_of (List.mem_of_getElem? (i := 639) (by decide +kernel)) rfl
theorem m486 : Cond.methodLink RX6 143 yX6_readNumbers ∈ GW := GW_of (List.mem_of_getElem? (i := 846) (by decide +kernel)) rfl
theorem m487 : Cond.instanceMethod yX6_readNumbers ∈ GW := GW_of (List.mem_of_getElem? (i := 848) (by decide +kernel)) rfl
theorem m488 : Cond.selects RX6 yX6_readNumbers yX6_readNumbers ∈ GW := GW_of (List.mem_of_getElem? (i := 29) (by decide +kernel)) rfl
theorem m489 : Cond.code yX6_readNumbers cX6_readNumbers 3 (some .boolean) ∈ GW := GW_of (List.mem_of_getElem? (i := 849) (by decide +kernel)) rfl
theorem m490 : Cond.fieldLink RX6 134 "SiteCutsModel" "length" "I" ∈ GW := GW_of (List.mem_of_getElem? (i := 638) (by decide +kernel)) rfl
theorem m491 : Cond.methodLink RX6 140 yX6_sees ∈ GW := GW_of (List.mem_of_getElem? (i := 850) (by decide +kernel)) rfl
theorem m492 : Cond.instanceMethod yX6_sees ∈ GW := GW_of (List.mem_of_getElem? (i := 852) (by decide +kernel)) rfl
theorem m493 : Cond.selects RX6 yX6_sees yX6_sees ∈ GW := GW_of (List.mem_of_getElem? (i := 30) (by decide +kernel)) rfl
theorem m494 : Cond.code yX6_sees cX6_sees 3 (some .boolean) ∈ GW := GW_of (List.mem_of_getElem? (i := 853) (by decide +kernel)) rfl
theorem m495 : Cond.methodLink RL 58 yX5_drop ∈ GW := GW_of (List.mem_of_getElem? (i := 435) (by decide +kernel)) rfl
theorem m496 : Cond.instanceMethod yX5_drop ∈ GW := GW_of (List.mem_of_getElem? (i := 436) (by decide +kernel)) rfl
theorem m497 : Cond.selects RX5 yX5_drop yX5_drop ∈ GW := GW_of (List.mem_of_getElem? (i := 437) (by decide +kernel)) rfl
theorem m498 : Cond.code yX5_drop cX5_drop 2 (some .int) ∈ GW := GW_of (List.mem_of_getElem? (i := 438) (by decide +kernel)) rfl
theorem m499 : Cond.methodLink RX5 147 yX1_isCut ∈ GW := GW_of (List.mem_of_getElem? (i := 439) (by decide +kernel)) rfl
theorem m500 : Cond.instanceMethod yX1_isCut ∈ GW := GW_of (List.mem_of_getElem? (i := 440) (by decide +kernel)) rfl
theorem m501 : Cond.selects RX1 yX1_isCut yX1_isCut ∈ GW := GW_of (List.mem_of_getElem? (i := 441) (by decide +kernel)) rfl
theorem m502 : Cond.code yX1_isCut cX1_isCut 2 (some .boolean) ∈ GW := GW_of (List.mem_of_getElem? (i := 442) (by decide +kernel)) rfl
theorem m503 : Cond.methodLink RX5 150 yX1_remove ∈ GW := GW_of (List.mem_of_getElem? (i := 443) (by decide +kernel)) rfl
theorem m504 : Cond.instanceMethod yX1_remove ∈ GW := GW_of (List.mem_of_getElem? (i := 444) (by decide +kernel)) rfl
theorem m505 : Cond.selects RX1 yX1_remove yX1_remove ∈ GW := GW_of (List.mem_of_getElem? (i := 445) (by decide +kernel)) rfl
theorem m506 : Cond.code yX1_remove cX1_remove 3 none ∈ GW := GW_of (List.mem_of_getElem? (i := 446) (by decide +kernel)) rfl
theorem m507 : Cond.methodLink RL 61 yX6_drop ∈ GW := GW_of (List.mem_of_getElem? (i := 814) (by decide +kernel)) rfl
theorem m508 : Cond.instanceMethod yX6_drop ∈ GW := GW_of (List.mem_of_getElem? (i := 815) (by decide +kernel)) rfl
theorem m509 : Cond.selects RX6 yX6_drop yX6_drop ∈ GW := GW_of (List.mem_of_getElem? (i := 816) (by decide +kernel)) rfl
theorem m510 : Cond.code yX6_drop cX6_drop 2 (some .int) ∈ GW := GW_of (List.mem_of_getElem? (i := 817) (by decide +kernel)) rfl
theorem m511 : Cond.methodLink RX6 124 yX6_noCut ∈ GW := GW_of (List.mem_of_getElem? (i := 818) (by decide +kernel)) rfl
theorem m512 : Cond.instanceMethod yX6_noCut ∈ GW := GW_of (List.mem_of_getElem? (i := 820) (by decide +kernel)) rfl
theorem m513 : Cond.selects RX6 yX6_noCut yX6_noCut ∈ GW := GW_of (List.mem_of_getElem? (i := 26) (by decide +kernel)) rfl
theorem m514 : Cond.code yX6_noCut cX6_noCut 2 (some .boolean) ∈ GW := GW_of (List.mem_of_getElem? (i := 821) (by decide +kernel)) rfl
theorem m515 : Cond.methodLink RX6 127 yX6_dropOne ∈ GW := GW_of (List.mem_of_getElem? (i := 822) (by decide +kernel)) rfl
theorem m516 : Cond.instanceMethod yX6_dropOne ∈ GW := GW_of (List.mem_of_getElem? (i := 824) (by decide +kernel)) rfl
theorem m517 : Cond.selects RX6 yX6_dropOne yX6_dropOne ∈ GW := GW_of (List.mem_of_getElem? (i := 27) (by decide +kernel)) rfl
theorem m518 : Cond.code yX6_dropOne cX6_dropOne 3 none ∈ GW := GW_of (List.mem_of_getElem? (i := 825) (by decide +kernel)) rfl
theorem m519 : Cond.methodLink RL 62 yX5_dropLoose ∈ GW := GW_of (List.mem_of_getElem? (i := 447) (by decide +kernel)) rfl
theorem m520 : Cond.instanceMethod yX5_dropLoose ∈ GW := GW_of (List.mem_of_getElem? (i := 448) (by decide +kernel)) rfl
theorem m521 : Cond.selects RX5 yX5_dropLoose yX5_dropLoose ∈ GW := GW_of (List.mem_of_getElem? (i := 449) (by decide +kernel)) rfl
theorem m522 : Cond.code yX5_dropLoose cX5_dropLoose 3 (some .int) ∈ GW := GW_of (List.mem_of_getElem? (i := 450) (by decide +kernel)) rfl
theorem m523 : Cond.methodLink RX5 154 yX4_findMasterPlan ∈ GW := GW_of (List.mem_of_getElem? (i := 451) (by decide +kernel)) rfl
theorem m524 : Cond.methodLink RX5 158 yX1_countLoose ∈ GW := GW_of (List.mem_of_getElem? (i := 452) (by decide +kernel)) rfl
theorem m525 : Cond.instanceMethod yX1_countLoose ∈ GW := GW_of (List.mem_of_getElem? (i := 453) (by decide +kernel)) rfl
theorem m526 : Cond.selects RX1 yX1_countLoose yX1_countLoose ∈ GW := GW_of (List.mem_of_getElem? (i := 454) (by decide +kernel)) rfl
theorem m527 : Cond.code yX1_countLoose cX1_countLoose 5 (some .int) ∈ GW := GW_of (List.mem_of_getElem? (i := 455) (by decide +kernel)) rfl
theorem m528 : Cond.methodLink RX1 72 yX1_greatestValue ∈ GW := GW_of (List.mem_of_getElem? (i := 456) (by decide +kernel)) rfl
theorem m529 : Cond.methodLink RX1 76 yX1_isLoose ∈ GW := GW_of (List.mem_of_getElem? (i := 457) (by decide +kernel)) rfl
theorem m530 : Cond.instanceMethod yX1_isLoose ∈ GW := GW_of (List.mem_of_getElem? (i := 458) (by decide +kernel)) rfl
theorem m531 : Cond.selects RX1 yX1_isLoose yX1_isLoose ∈ GW := GW_of (List.mem_of_getElem? (i := 459) (by decide +kernel)) rfl
theorem m532 : Cond.code yX1_isLoose cX1_isLoose 4 (some .boolean) ∈ GW := GW_of (List.mem_of_getElem? (i := 460) (by decide +kernel)) rfl
theorem m533 : Cond.methodLink RX5 161 yX1_removeLoose ∈ GW := GW_of (List.mem_of_getElem? (i := 461) (by decide +kernel)) rfl
theorem m534 : Cond.instanceMethod yX1_removeLoose ∈ GW := GW_of (List.mem_of_getElem? (i := 462) (by decide +kernel)) rfl
theorem m535 : Cond.selects RX1 yX1_removeLoose yX1_removeLoose ∈ GW := GW_of (List.mem_of_getElem? (i := 463) (by decide +kernel)) rfl
theorem m536 : Cond.code yX1_removeLoose cX1_removeLoose 5 none ∈ GW := GW_of (List.mem_of_getElem? (i := 464) (by decide +kernel)) rfl
theorem m537 : Cond.methodLink RL 65 yX6_dropLoose ∈ GW := GW_of (List.mem_of_getElem? (i := 826) (by decide +kernel)) rfl
theorem m538 : Cond.instanceMethod yX6_dropLoose ∈ GW := GW_of (List.mem_of_getElem? (i := 827) (by decide +kernel)) rfl
theorem m539 : Cond.selects RX6 yX6_dropLoose yX6_dropLoose ∈ GW := GW_of (List.mem_of_getElem? (i := 828) (by decide +kernel)) rfl
theorem m540 : Cond.code yX6_dropLoose cX6_dropLoose 5 (some .int) ∈ GW := GW_of (List.mem_of_getElem? (i := 829) (by decide +kernel)) rfl
theorem m541 : Cond.methodLink RX6 131 yX6_isLoose ∈ GW := GW_of (List.mem_of_getElem? (i := 830) (by decide +kernel)) rfl
theorem m542 : Cond.instanceMethod yX6_isLoose ∈ GW := GW_of (List.mem_of_getElem? (i := 832) (by decide +kernel)) rfl
theorem m543 : Cond.selects RX6 yX6_isLoose yX6_isLoose ∈ GW := GW_of (List.mem_of_getElem? (i := 28) (by decide +kernel)) rfl
theorem m544 : Cond.code yX6_isLoose cX6_isLoose 4 (some .boolean) ∈ GW := GW_of (List.mem_of_getElem? (i := 833) (by decide +kernel)) rfl
theorem m545 : Cond.methodLink RL 66 yX5_type ∈ GW := GW_of (List.mem_of_getElem? (i := 465) (by decide +kernel)) rfl
theorem m546 : Cond.instanceMethod yX5_type ∈ GW := GW_of (List.mem_of_getElem? (i := 466) (by decide +kernel)) rfl
theorem m547 : Cond.selects RX5 yX5_type yX5_type ∈ GW := GW_of (List.mem_of_getElem? (i := 467) (by decide +kernel)) rfl
theorem m548 : Cond.code yX5_type cX5_type 2 (some .int) ∈ GW := GW_of (List.mem_of_getElem? (i := 468) (by decide +kernel)) rfl
theorem m549 : Cond.fieldLink RX5 169 "SiteCuts$CutText" "length" "I" ∈ GW := GW_of (List.mem_of_getElem? (i := 171) (by decide +kernel)) rfl
theorem m550 : Cond.methodLink RX5 164 yX0_isFull ∈ GW := GW_of (List.mem_of_getElem? (i := 469) (by decide +kernel)) rfl
theorem m551 : Cond.instanceMethod yX0_isFull ∈ GW := GW_of (List.mem_of_getElem? (i := 470) (by decide +kernel)) rfl
theorem m552 : Cond.selects RX0 yX0_isFull yX0_isFull ∈ GW := GW_of (List.mem_of_getElem? (i := 471) (by decide +kernel)) rfl
theorem m553 : Cond.code yX0_isFull cX0_isFull 1 (some .boolean) ∈ GW := GW_of (List.mem_of_getElem? (i := 472) (by decide +kernel)) rfl
theorem m554 : Cond.methodLink RX5 165 yX0_append ∈ GW := GW_of (List.mem_of_getElem? (i := 473) (by decide +kernel)) rfl
theorem m555 : Cond.instanceMethod yX0_append ∈ GW := GW_of (List.mem_of_getElem? (i := 474) (by decide +kernel)) rfl
theorem m556 : Cond.selects RX0 yX0_append yX0_append ∈ GW := GW_of (List.mem_of_getElem? (i := 475) (by decide +kernel)) rfl
theorem m557 : Cond.code yX0_append cX0_append 2 none ∈ GW := GW_of (List.mem_of_getElem? (i := 476) (by decide +kernel)) rfl
theorem m558 : Cond.methodLink RL 70 yX6_type ∈ GW := GW_of (List.mem_of_getElem? (i := 834) (by decide +kernel)) rfl
theorem m559 : Cond.instanceMethod yX6_type ∈ GW := GW_of (List.mem_of_getElem? (i := 835) (by decide +kernel)) rfl
theorem m560 : Cond.selects RX6 yX6_type yX6_type ∈ GW := GW_of (List.mem_of_getElem? (i := 836) (by decide +kernel)) rfl
theorem m561 : Cond.code yX6_type cX6_type 2 (some .int) ∈ GW := GW_of (List.mem_of_getElem? (i := 837) (by decide +kernel)) rfl
theorem m562 : Cond.methodLink RL 71 yX5_clearText ∈ GW := GW_of (List.mem_of_getElem? (i := 477) (by decide +kernel)) rfl
theorem m563 : Cond.instanceMethod yX5_clearText ∈ GW := GW_of (List.mem_of_getElem? (i := 478) (by decide +kernel)) rfl
theorem m564 : Cond.selects RX5 yX5_clearText yX5_clearText ∈ GW := GW_of (List.mem_of_getElem? (i := 479) (by decide +kernel)) rfl
theorem m565 : Cond.code yX5_clearText cX5_clearText 2 (some .int) ∈ GW := GW_of (List.mem_of_getElem? (i := 480) (by decide +kernel)) rfl
theorem m566 : Cond.methodLink RL 74 yX6_clearText ∈ GW := GW_of (List.mem_of_getElem? (i := 838) (by decide +kernel)) rfl
theorem m567 : Cond.instanceMethod yX6_clearText ∈ GW := GW_of (List.mem_of_getElem? (i := 839) (by decide +kernel)) rfl
theorem m568 : Cond.selects RX6 yX6_clearText yX6_clearText ∈ GW := GW_of (List.mem_of_getElem? (i := 840) (by decide +kernel)) rfl
theorem m569 : Cond.code yX6_clearText cX6_clearText 2 (some .int) ∈ GW := GW_of (List.mem_of_getElem? (i := 841) (by decide +kernel)) rfl
theorem m570 : Cond.methodLink RL 75 yX5_undo ∈ GW := GW_of (List.mem_of_getElem? (i := 481) (by decide +kernel)) rfl
theorem m571 : Cond.instanceMethod yX5_undo ∈ GW := GW_of (List.mem_of_getElem? (i := 482) (by decide +kernel)) rfl
theorem m572 : Cond.selects RX5 yX5_undo yX5_undo ∈ GW := GW_of (List.mem_of_getElem? (i := 483) (by decide +kernel)) rfl
theorem m573 : Cond.code yX5_undo cX5_undo 1 (some .int) ∈ GW := GW_of (List.mem_of_getElem? (i := 484) (by decide +kernel)) rfl
theorem m574 : Cond.fieldLink RX5 172 "SiteCuts$History" "amount" "I" ∈ GW := GW_of (List.mem_of_getElem? (i := 157) (by decide +kernel)) rfl
theorem m575 : Cond.methodLink RX5 173 yX2_takeLatest ∈ GW := GW_of (List.mem_of_getElem? (i := 485) (by decide +kernel)) rfl
theorem m576 : Cond.instanceMethod yX2_takeLatest ∈ GW := GW_of (List.mem_of_getElem? (i := 486) (by decide +kernel)) rfl
theorem m577 : Cond.selects RX2 yX2_takeLatest yX2_takeLatest ∈ GW := GW_of (List.mem_of_getElem? (i := 487) (by decide +kernel)) rfl
theorem m578 : Cond.code yX2_takeLatest cX2_takeLatest 2 none ∈ GW := GW_of (List.mem_of_getElem? (i := 488) (by decide +kernel)) rfl
theorem m579 : Cond.methodLink RL 78 yX6_undo ∈ GW := GW_of (List.mem_of_getElem? (i := 662) (by decide +kernel)) rfl
theorem m580 : Cond.instanceMethod yX6_undo ∈ GW := GW_of (List.mem_of_getElem? (i := 663) (by decide +kernel)) rfl
theorem m581 : Cond.selects RX6 yX6_undo yX6_undo ∈ GW := GW_of (List.mem_of_getElem? (i := 664) (by decide +kernel)) rfl
theorem m582 : Cond.code yX6_undo cX6_undo 2 (some .int) ∈ GW := GW_of (List.mem_of_getElem? (i := 665) (by decide +kernel)) rfl
theorem m583 : Cond.methodLink RL 79 yX5_keep ∈ GW := GW_of (List.mem_of_getElem? (i := 489) (by decide +kernel)) rfl
theorem m584 : Cond.instanceMethod yX5_keep ∈ GW := GW_of (List.mem_of_getElem? (i := 490) (by decide +kernel)) rfl
theorem m585 : Cond.selects RX5 yX5_keep yX5_keep ∈ GW := GW_of (List.mem_of_getElem? (i := 491) (by decide +kernel)) rfl
theorem m586 : Cond.code yX5_keep cX5_keep 1 (some .int) ∈ GW := GW_of (List.mem_of_getElem? (i := 492) (by decide +kernel)) rfl
theorem m587 : Cond.methodLink RL 82 yX6_keep ∈ GW := GW_of (List.mem_of_getElem? (i := 666) (by decide +kernel)) rfl
theorem m588 : Cond.instanceMethod yX6_keep ∈ GW := GW_of (List.mem_of_getElem? (i := 667) (by decide +kernel)) rfl
theorem m589 : Cond.selects RX6 yX6_keep yX6_keep ∈ GW := GW_of (List.mem_of_getElem? (i := 668) (by decide +kernel)) rfl
theorem m590 : Cond.code yX6_keep cX6_keep 2 (some .int) ∈ GW := GW_of (List.mem_of_getElem? (i := 669) (by decide +kernel)) rfl
theorem m591 : Cond.fieldLink RX6 39 "SiteCutsModel" "isAside" "Z" ∈ GW := GW_of (List.mem_of_getElem? (i := 636) (by decide +kernel)) rfl
theorem m592 : Cond.methodLink RL 83 yX5_restore ∈ GW := GW_of (List.mem_of_getElem? (i := 493) (by decide +kernel)) rfl
theorem m593 : Cond.instanceMethod yX5_restore ∈ GW := GW_of (List.mem_of_getElem? (i := 494) (by decide +kernel)) rfl
theorem m594 : Cond.selects RX5 yX5_restore yX5_restore ∈ GW := GW_of (List.mem_of_getElem? (i := 495) (by decide +kernel)) rfl
theorem m595 : Cond.code yX5_restore cX5_restore 1 (some .int) ∈ GW := GW_of (List.mem_of_getElem? (i := 496) (by decide +kernel)) rfl
theorem m596 : Cond.methodLink RL 86 yX6_restore ∈ GW := GW_of (List.mem_of_getElem? (i := 670) (by decide +kernel)) rfl
theorem m597 : Cond.instanceMethod yX6_restore ∈ GW := GW_of (List.mem_of_getElem? (i := 671) (by decide +kernel)) rfl
theorem m598 : Cond.selects RX6 yX6_restore yX6_restore ∈ GW := GW_of (List.mem_of_getElem? (i := 672) (by decide +kernel)) rfl
theorem m599 : Cond.code yX6_restore cX6_restore 2 (some .int) ∈ GW := GW_of (List.mem_of_getElem? (i := 673) (by decide +kernel)) rfl
theorem m600 : Cond.methodLink RL 87 yX5_judge ∈ GW := GW_of (List.mem_of_getElem? (i := 497) (by decide +kernel)) rfl
theorem m601 : Cond.instanceMethod yX5_judge ∈ GW := GW_of (List.mem_of_getElem? (i := 498) (by decide +kernel)) rfl
theorem m602 : Cond.selects RX5 yX5_judge yX5_judge ∈ GW := GW_of (List.mem_of_getElem? (i := 499) (by decide +kernel)) rfl
theorem m603 : Cond.code yX5_judge cX5_judge 2 (some .int) ∈ GW := GW_of (List.mem_of_getElem? (i := 500) (by decide +kernel)) rfl
theorem m604 : Cond.methodLink RX5 176 yX3_isPlan ∈ GW := GW_of (List.mem_of_getElem? (i := 501) (by decide +kernel)) rfl
theorem m605 : Cond.instanceMethod yX3_isPlan ∈ GW := GW_of (List.mem_of_getElem? (i := 502) (by decide +kernel)) rfl
theorem m606 : Cond.selects RX3 yX3_isPlan yX3_isPlan ∈ GW := GW_of (List.mem_of_getElem? (i := 503) (by decide +kernel)) rfl
theorem m607 : Cond.code yX3_isPlan cX3_isPlan 2 (some .boolean) ∈ GW := GW_of (List.mem_of_getElem? (i := 504) (by decide +kernel)) rfl
theorem m608 : Cond.methodLink RX3 36 yX3_planCount ∈ GW := GW_of (List.mem_of_getElem? (i := 505) (by decide +kernel)) rfl
theorem m609 : Cond.methodLink RX5 179 yX3_verdictOf ∈ GW := GW_of (List.mem_of_getElem? (i := 506) (by decide +kernel)) rfl
theorem m610 : Cond.instanceMethod yX3_verdictOf ∈ GW := GW_of (List.mem_of_getElem? (i := 507) (by decide +kernel)) rfl
theorem m611 : Cond.selects RX3 yX3_verdictOf yX3_verdictOf ∈ GW := GW_of (List.mem_of_getElem? (i := 508) (by decide +kernel)) rfl
theorem m612 : Cond.code yX3_verdictOf cX3_verdictOf 2 (some .int) ∈ GW := GW_of (List.mem_of_getElem? (i := 509) (by decide +kernel)) rfl
theorem m613 : Cond.methodLink RX3 54 yX3_reachesAll ∈ GW := GW_of (List.mem_of_getElem? (i := 510) (by decide +kernel)) rfl
theorem m614 : Cond.instanceMethod yX3_reachesAll ∈ GW := GW_of (List.mem_of_getElem? (i := 511) (by decide +kernel)) rfl
theorem m615 : Cond.selects RX3 yX3_reachesAll yX3_reachesAll ∈ GW := GW_of (List.mem_of_getElem? (i := 512) (by decide +kernel)) rfl
theorem m616 : Cond.code yX3_reachesAll cX3_reachesAll 2 (some .boolean) ∈ GW := GW_of (List.mem_of_getElem? (i := 513) (by decide +kernel)) rfl
theorem m617 : Cond.methodLink RX3 69 yX3_lowestMissedCustomer ∈ GW := GW_of (List.mem_of_getElem? (i := 514) (by decide +kernel)) rfl
theorem m618 : Cond.methodLink RL 90 yX6_judge ∈ GW := GW_of (List.mem_of_getElem? (i := 854) (by decide +kernel)) rfl
theorem m619 : Cond.instanceMethod yX6_judge ∈ GW := GW_of (List.mem_of_getElem? (i := 855) (by decide +kernel)) rfl
theorem m620 : Cond.selects RX6 yX6_judge yX6_judge ∈ GW := GW_of (List.mem_of_getElem? (i := 856) (by decide +kernel)) rfl
theorem m621 : Cond.code yX6_judge cX6_judge 2 (some .int) ∈ GW := GW_of (List.mem_of_getElem? (i := 857) (by decide +kernel)) rfl
theorem m622 : Cond.methodLink RX6 147 yX6_noPlan ∈ GW := GW_of (List.mem_of_getElem? (i := 858) (by decide +kernel)) rfl
theorem m623 : Cond.instanceMethod yX6_noPlan ∈ GW := GW_of (List.mem_of_getElem? (i := 860) (by decide +kernel)) rfl
theorem m624 : Cond.selects RX6 yX6_noPlan yX6_noPlan ∈ GW := GW_of (List.mem_of_getElem? (i := 31) (by decide +kernel)) rfl
theorem m625 : Cond.code yX6_noPlan cX6_noPlan 2 (some .boolean) ∈ GW := GW_of (List.mem_of_getElem? (i := 861) (by decide +kernel)) rfl
theorem m626 : Cond.methodLink RL 91 yX5_plan ∈ GW := GW_of (List.mem_of_getElem? (i := 515) (by decide +kernel)) rfl
theorem m627 : Cond.instanceMethod yX5_plan ∈ GW := GW_of (List.mem_of_getElem? (i := 516) (by decide +kernel)) rfl
theorem m628 : Cond.selects RX5 yX5_plan yX5_plan ∈ GW := GW_of (List.mem_of_getElem? (i := 517) (by decide +kernel)) rfl
theorem m629 : Cond.code yX5_plan cX5_plan 4 (some .int) ∈ GW := GW_of (List.mem_of_getElem? (i := 518) (by decide +kernel)) rfl
theorem m630 : Cond.methodLink RX5 182 yX3_reachesAll ∈ GW := GW_of (List.mem_of_getElem? (i := 519) (by decide +kernel)) rfl
theorem m631 : Cond.methodLink RX5 185 yX3_costOf ∈ GW := GW_of (List.mem_of_getElem? (i := 520) (by decide +kernel)) rfl
theorem m632 : Cond.methodLink RX5 188 yX3_sitePricesOf ∈ GW := GW_of (List.mem_of_getElem? (i := 521) (by decide +kernel)) rfl
theorem m633 : Cond.methodLink RX5 191 yX3_routeCostOf ∈ GW := GW_of (List.mem_of_getElem? (i := 522) (by decide +kernel)) rfl
theorem m634 : Cond.methodLink RX5 194 yX4_guessOf ∈ GW := GW_of (List.mem_of_getElem? (i := 523) (by decide +kernel)) rfl
theorem m635 : Cond.methodLink RX5 197 yX1_countMissedRays ∈ GW := GW_of (List.mem_of_getElem? (i := 524) (by decide +kernel)) rfl
theorem m636 : Cond.methodLink RL 94 yX6_plan ∈ GW := GW_of (List.mem_of_getElem? (i := 862) (by decide +kernel)) rfl
theorem m637 : Cond.instanceMethod yX6_plan ∈ GW := GW_of (List.mem_of_getElem? (i := 863) (by decide +kernel)) rfl
theorem m638 : Cond.selects RX6 yX6_plan yX6_plan ∈ GW := GW_of (List.mem_of_getElem? (i := 864) (by decide +kernel)) rfl
theorem m639 : Cond.code yX6_plan cX6_plan 3 (some .int) ∈ GW := GW_of (List.mem_of_getElem? (i := 865) (by decide +kernel)) rfl
theorem m640 : Cond.methodLink RL 95 yX5_serves ∈ GW := GW_of (List.mem_of_getElem? (i := 525) (by decide +kernel)) rfl
theorem m641 : Cond.instanceMethod yX5_serves ∈ GW := GW_of (List.mem_of_getElem? (i := 526) (by decide +kernel)) rfl
theorem m642 : Cond.selects RX5 yX5_serves yX5_serves ∈ GW := GW_of (List.mem_of_getElem? (i := 527) (by decide +kernel)) rfl
theorem m643 : Cond.code yX5_serves cX5_serves 4 (some .int) ∈ GW := GW_of (List.mem_of_getElem? (i := 528) (by decide +kernel)) rfl
theorem m644 : Cond.methodLink RX5 200 yX3_cheapestSite ∈ GW := GW_of (List.mem_of_getElem? (i := 529) (by decide +kernel)) rfl
theorem m645 : Cond.instanceMethod yX3_cheapestSite ∈ GW := GW_of (List.mem_of_getElem? (i := 530) (by decide +kernel)) rfl
theorem m646 : Cond.selects RX3 yX3_cheapestSite yX3_cheapestSite ∈ GW := GW_of (List.mem_of_getElem? (i := 531) (by decide +kernel)) rfl
theorem m647 : Cond.code yX3_cheapestSite cX3_cheapestSite 5 (some .int) ∈ GW := GW_of (List.mem_of_getElem? (i := 532) (by decide +kernel)) rfl
theorem m648 : Cond.methodLink RX3 66 yX3_hasRoute ∈ GW := GW_of (List.mem_of_getElem? (i := 533) (by decide +kernel)) rfl
theorem m649 : Cond.methodLink RL 98 yX6_serves ∈ GW := GW_of (List.mem_of_getElem? (i := 866) (by decide +kernel)) rfl
theorem m650 : Cond.instanceMethod yX6_serves ∈ GW := GW_of (List.mem_of_getElem? (i := 867) (by decide +kernel)) rfl
theorem m651 : Cond.selects RX6 yX6_serves yX6_serves ∈ GW := GW_of (List.mem_of_getElem? (i := 868) (by decide +kernel)) rfl
theorem m652 : Cond.code yX6_serves cX6_serves 3 (some .int) ∈ GW := GW_of (List.mem_of_getElem? (i := 869) (by decide +kernel)) rfl
theorem m653 : Cond.methodLink RL 99 yX5_cut ∈ GW := GW_of (List.mem_of_getElem? (i := 534) (by decide +kernel)) rfl
theorem m654 : Cond.instanceMethod yX5_cut ∈ GW := GW_of (List.mem_of_getElem? (i := 535) (by decide +kernel)) rfl
theorem m655 : Cond.selects RX5 yX5_cut yX5_cut ∈ GW := GW_of (List.mem_of_getElem? (i := 536) (by decide +kernel)) rfl
theorem m656 : Cond.code yX5_cut cX5_cut 3 (some .int) ∈ GW := GW_of (List.mem_of_getElem? (i := 537) (by decide +kernel)) rfl
theorem m657 : Cond.fieldLink RX5 207 "SiteCuts$Cuts" "customers" "[I" ∈ GW := GW_of (List.mem_of_getElem? (i := 115) (by decide +kernel)) rfl
theorem m658 : Cond.fieldLink RX5 210 "SiteCuts$Cuts" "starts" "[I" ∈ GW := GW_of (List.mem_of_getElem? (i := 117) (by decide +kernel)) rfl
theorem m659 : Cond.methodLink RX5 204 yX1_isRay ∈ GW := GW_of (List.mem_of_getElem? (i := 538) (by decide +kernel)) rfl
theorem m660 : Cond.methodLink RX5 213 yX4_countPlansThatBreak ∈ GW := GW_of (List.mem_of_getElem? (i := 539) (by decide +kernel)) rfl
theorem m661 : Cond.instanceMethod yX4_countPlansThatBreak ∈ GW := GW_of (List.mem_of_getElem? (i := 540) (by decide +kernel)) rfl
theorem m662 : Cond.selects RX4 yX4_countPlansThatBreak yX4_countPlansThatBreak ∈ GW := GW_of (List.mem_of_getElem? (i := 541) (by decide +kernel)) rfl
theorem m663 : Cond.code yX4_countPlansThatBreak cX4_countPlansThatBreak 4 (some .int) ∈ GW := GW_of (List.mem_of_getElem? (i := 542) (by decide +kernel)) rfl
theorem m664 : Cond.methodLink RX4 101 yX3_isFeasible ∈ GW := GW_of (List.mem_of_getElem? (i := 543) (by decide +kernel)) rfl
theorem m665 : Cond.instanceMethod yX3_isFeasible ∈ GW := GW_of (List.mem_of_getElem? (i := 544) (by decide +kernel)) rfl
theorem m666 : Cond.selects RX3 yX3_isFeasible yX3_isFeasible ∈ GW := GW_of (List.mem_of_getElem? (i := 545) (by decide +kernel)) rfl
theorem m667 : Cond.code yX3_isFeasible cX3_isFeasible 2 (some .boolean) ∈ GW := GW_of (List.mem_of_getElem? (i := 546) (by decide +kernel)) rfl
theorem m668 : Cond.methodLink RX3 78 yX3_isAllowed ∈ GW := GW_of (List.mem_of_getElem? (i := 547) (by decide +kernel)) rfl
theorem m669 : Cond.methodLink RX4 104 yX4_isBroken ∈ GW := GW_of (List.mem_of_getElem? (i := 548) (by decide +kernel)) rfl
theorem m670 : Cond.instanceMethod yX4_isBroken ∈ GW := GW_of (List.mem_of_getElem? (i := 549) (by decide +kernel)) rfl
theorem m671 : Cond.selects RX4 yX4_isBroken yX4_isBroken ∈ GW := GW_of (List.mem_of_getElem? (i := 550) (by decide +kernel)) rfl
theorem m672 : Cond.code yX4_isBroken cX4_isBroken 3 (some .boolean) ∈ GW := GW_of (List.mem_of_getElem? (i := 551) (by decide +kernel)) rfl
theorem m673 : Cond.methodLink RX4 108 yX1_isRay ∈ GW := GW_of (List.mem_of_getElem? (i := 552) (by decide +kernel)) rfl
theorem m674 : Cond.methodLink RX4 111 yX1_weightOf ∈ GW := GW_of (List.mem_of_getElem? (i := 553) (by decide +kernel)) rfl
theorem m675 : Cond.methodLink RX4 114 yX1_valueOf ∈ GW := GW_of (List.mem_of_getElem? (i := 554) (by decide +kernel)) rfl
theorem m676 : Cond.methodLink RX4 117 yX3_routeCostOf ∈ GW := GW_of (List.mem_of_getElem? (i := 555) (by decide +kernel)) rfl
theorem m677 : Cond.methodLink RX5 216 yX4_countPlansThatAreTight ∈ GW := GW_of (List.mem_of_getElem? (i := 556) (by decide +kernel)) rfl
theorem m678 : Cond.instanceMethod yX4_countPlansThatAreTight ∈ GW := GW_of (List.mem_of_getElem? (i := 557) (by decide +kernel)) rfl
theorem m679 : Cond.selects RX4 yX4_countPlansThatAreTight yX4_countPlansThatAreTight ∈ GW := GW_of (List.mem_of_getElem? (i := 558) (by decide +kernel)) rfl
theorem m680 : Cond.code yX4_countPlansThatAreTight cX4_countPlansThatAreTight 4 (some .int) ∈ GW := GW_of (List.mem_of_getElem? (i := 559) (by decide +kernel)) rfl
theorem m681 : Cond.methodLink RX4 120 yX4_isTight ∈ GW := GW_of (List.mem_of_getElem? (i := 560) (by decide +kernel)) rfl
theorem m682 : Cond.instanceMethod yX4_isTight ∈ GW := GW_of (List.mem_of_getElem? (i := 561) (by decide +kernel)) rfl
theorem m683 : Cond.selects RX4 yX4_isTight yX4_isTight ∈ GW := GW_of (List.mem_of_getElem? (i := 562) (by decide +kernel)) rfl
theorem m684 : Cond.code yX4_isTight cX4_isTight 3 (some .boolean) ∈ GW := GW_of (List.mem_of_getElem? (i := 563) (by decide +kernel)) rfl
theorem m685 : Cond.methodLink RL 102 yX6_cut ∈ GW := GW_of (List.mem_of_getElem? (i := 870) (by decide +kernel)) rfl
theorem m686 : Cond.instanceMethod yX6_cut ∈ GW := GW_of (List.mem_of_getElem? (i := 871) (by decide +kernel)) rfl
theorem m687 : Cond.selects RX6 yX6_cut yX6_cut ∈ GW := GW_of (List.mem_of_getElem? (i := 872) (by decide +kernel)) rfl
theorem m688 : Cond.code yX6_cut cX6_cut 3 (some .int) ∈ GW := GW_of (List.mem_of_getElem? (i := 873) (by decide +kernel)) rfl
theorem m689 : Cond.methodLink RX6 153 yX6_plansBy ∈ GW := GW_of (List.mem_of_getElem? (i := 874) (by decide +kernel)) rfl
theorem m690 : Cond.instanceMethod yX6_plansBy ∈ GW := GW_of (List.mem_of_getElem? (i := 876) (by decide +kernel)) rfl
theorem m691 : Cond.selects RX6 yX6_plansBy yX6_plansBy ∈ GW := GW_of (List.mem_of_getElem? (i := 32) (by decide +kernel)) rfl
theorem m692 : Cond.code yX6_plansBy cX6_plansBy 7 (some .int) ∈ GW := GW_of (List.mem_of_getElem? (i := 877) (by decide +kernel)) rfl
theorem m693 : Cond.methodLink RX6 150 yX6_isFeasible ∈ GW := GW_of (List.mem_of_getElem? (i := 878) (by decide +kernel)) rfl
theorem m694 : Cond.instanceMethod yX6_isFeasible ∈ GW := GW_of (List.mem_of_getElem? (i := 880) (by decide +kernel)) rfl
theorem m695 : Cond.selects RX6 yX6_isFeasible yX6_isFeasible ∈ GW := GW_of (List.mem_of_getElem? (i := 33) (by decide +kernel)) rfl
theorem m696 : Cond.code yX6_isFeasible cX6_isFeasible 2 (some .boolean) ∈ GW := GW_of (List.mem_of_getElem? (i := 881) (by decide +kernel)) rfl
theorem m697 : Cond.methodLink RL 103 yX5_weight ∈ GW := GW_of (List.mem_of_getElem? (i := 564) (by decide +kernel)) rfl
theorem m698 : Cond.instanceMethod yX5_weight ∈ GW := GW_of (List.mem_of_getElem? (i := 565) (by decide +kernel)) rfl
theorem m699 : Cond.selects RX5 yX5_weight yX5_weight ∈ GW := GW_of (List.mem_of_getElem? (i := 566) (by decide +kernel)) rfl
theorem m700 : Cond.code yX5_weight cX5_weight 3 (some .int) ∈ GW := GW_of (List.mem_of_getElem? (i := 567) (by decide +kernel)) rfl
theorem m701 : Cond.fieldLink RX5 219 "SiteCuts$Cuts" "weights" "[[I" ∈ GW := GW_of (List.mem_of_getElem? (i := 119) (by decide +kernel)) rfl
theorem m702 : Cond.methodLink RL 106 yX6_weight ∈ GW := GW_of (List.mem_of_getElem? (i := 882) (by decide +kernel)) rfl
theorem m703 : Cond.instanceMethod yX6_weight ∈ GW := GW_of (List.mem_of_getElem? (i := 883) (by decide +kernel)) rfl
theorem m704 : Cond.selects RX6 yX6_weight yX6_weight ∈ GW := GW_of (List.mem_of_getElem? (i := 884) (by decide +kernel)) rfl
theorem m705 : Cond.code yX6_weight cX6_weight 3 (some .int) ∈ GW := GW_of (List.mem_of_getElem? (i := 885) (by decide +kernel)) rfl
theorem m706 : Cond.methodLink RL 107 yX5_value ∈ GW := GW_of (List.mem_of_getElem? (i := 568) (by decide +kernel)) rfl
theorem m707 : Cond.instanceMethod yX5_value ∈ GW := GW_of (List.mem_of_getElem? (i := 569) (by decide +kernel)) rfl
theorem m708 : Cond.selects RX5 yX5_value yX5_value ∈ GW := GW_of (List.mem_of_getElem? (i := 570) (by decide +kernel)) rfl
theorem m709 : Cond.code yX5_value cX5_value 3 (some .int) ∈ GW := GW_of (List.mem_of_getElem? (i := 571) (by decide +kernel)) rfl
theorem m710 : Cond.constant RX5 228 (1000000) ∈ GW := GW_of (List.mem_of_getElem? (i := 574) (by decide +kernel)) rfl
theorem m711 : Cond.methodLink RX5 222 yX1_weightOf ∈ GW := GW_of (List.mem_of_getElem? (i := 572) (by decide +kernel)) rfl
theorem m712 : Cond.methodLink RX5 225 yX1_valueOf ∈ GW := GW_of (List.mem_of_getElem? (i := 573) (by decide +kernel)) rfl
theorem m713 : Cond.methodLink RL 110 yX6_value ∈ GW := GW_of (List.mem_of_getElem? (i := 886) (by decide +kernel)) rfl
theorem m714 : Cond.instanceMethod yX6_value ∈ GW := GW_of (List.mem_of_getElem? (i := 887) (by decide +kernel)) rfl
theorem m715 : Cond.selects RX6 yX6_value yX6_value ∈ GW := GW_of (List.mem_of_getElem? (i := 888) (by decide +kernel)) rfl
theorem m716 : Cond.code yX6_value cX6_value 3 (some .int) ∈ GW := GW_of (List.mem_of_getElem? (i := 889) (by decide +kernel)) rfl
theorem m717 : Cond.constant RX6 157 (1000000) ∈ GW := GW_of (List.mem_of_getElem? (i := 890) (by decide +kernel)) rfl
theorem m718 : Cond.methodLink RL 111 yX5_master ∈ GW := GW_of (List.mem_of_getElem? (i := 575) (by decide +kernel)) rfl
theorem m719 : Cond.instanceMethod yX5_master ∈ GW := GW_of (List.mem_of_getElem? (i := 576) (by decide +kernel)) rfl
theorem m720 : Cond.selects RX5 yX5_master yX5_master ∈ GW := GW_of (List.mem_of_getElem? (i := 577) (by decide +kernel)) rfl
theorem m721 : Cond.code yX5_master cX5_master 2 (some .int) ∈ GW := GW_of (List.mem_of_getElem? (i := 578) (by decide +kernel)) rfl
theorem m722 : Cond.fieldLink RX5 235 "SiteCuts$State" "best" "I" ∈ GW := GW_of (List.mem_of_getElem? (i := 134) (by decide +kernel)) rfl
theorem m723 : Cond.methodLink RX5 229 yX5_planOrNone ∈ GW := GW_of (List.mem_of_getElem? (i := 579) (by decide +kernel)) rfl
theorem m724 : Cond.static yX5_planOrNone ∈ GW := GW_of (List.mem_of_getElem? (i := 580) (by decide +kernel)) rfl
theorem m725 : Cond.code yX5_planOrNone cX5_planOrNone 1 (some .int) ∈ GW := GW_of (List.mem_of_getElem? (i := 581) (by decide +kernel)) rfl
theorem m726 : Cond.methodLink RX5 232 yX5_lowerBound ∈ GW := GW_of (List.mem_of_getElem? (i := 582) (by decide +kernel)) rfl
theorem m727 : Cond.instanceMethod yX5_lowerBound ∈ GW := GW_of (List.mem_of_getElem? (i := 584) (by decide +kernel)) rfl
theorem m728 : Cond.selects RX5 yX5_lowerBound yX5_lowerBound ∈ GW := GW_of (List.mem_of_getElem? (i := 0) (by decide +kernel)) rfl
theorem m729 : Cond.code yX5_lowerBound cX5_lowerBound 2 (some .int) ∈ GW := GW_of (List.mem_of_getElem? (i := 585) (by decide +kernel)) rfl
theorem m730 : Cond.methodLink RX5 238 yX5_costOrNone ∈ GW := GW_of (List.mem_of_getElem? (i := 586) (by decide +kernel)) rfl
theorem m731 : Cond.instanceMethod yX5_costOrNone ∈ GW := GW_of (List.mem_of_getElem? (i := 588) (by decide +kernel)) rfl
theorem m732 : Cond.selects RX5 yX5_costOrNone yX5_costOrNone ∈ GW := GW_of (List.mem_of_getElem? (i := 1) (by decide +kernel)) rfl
theorem m733 : Cond.code yX5_costOrNone cX5_costOrNone 2 (some .int) ∈ GW := GW_of (List.mem_of_getElem? (i := 589) (by decide +kernel)) rfl
theorem m734 : Cond.methodLink RX5 241 yX5_gap ∈ GW := GW_of (List.mem_of_getElem? (i := 590) (by decide +kernel)) rfl
theorem m735 : Cond.instanceMethod yX5_gap ∈ GW := GW_of (List.mem_of_getElem? (i := 592) (by decide +kernel)) rfl
theorem m736 : Cond.selects RX5 yX5_gap yX5_gap ∈ GW := GW_of (List.mem_of_getElem? (i := 2) (by decide +kernel)) rfl
theorem m737 : Cond.code yX5_gap cX5_gap 2 (some .int) ∈ GW := GW_of (List.mem_of_getElem? (i := 593) (by decide +kernel)) rfl
theorem m738 : Cond.methodLink RL 114 yX6_master ∈ GW := GW_of (List.mem_of_getElem? (i := 891) (by decide +kernel)) rfl
theorem m739 : Cond.instanceMethod yX6_master ∈ GW := GW_of (List.mem_of_getElem? (i := 892) (by decide +kernel)) rfl
theorem m740 : Cond.selects RX6 yX6_master yX6_master ∈ GW := GW_of (List.mem_of_getElem? (i := 893) (by decide +kernel)) rfl
theorem m741 : Cond.code yX6_master cX6_master 6 (some .int) ∈ GW := GW_of (List.mem_of_getElem? (i := 894) (by decide +kernel)) rfl
theorem m742 : Cond.methodLink RL 115 yX5_byAll ∈ GW := GW_of (List.mem_of_getElem? (i := 594) (by decide +kernel)) rfl
theorem m743 : Cond.instanceMethod yX5_byAll ∈ GW := GW_of (List.mem_of_getElem? (i := 595) (by decide +kernel)) rfl
theorem m744 : Cond.selects RX5 yX5_byAll yX5_byAll ∈ GW := GW_of (List.mem_of_getElem? (i := 596) (by decide +kernel)) rfl
theorem m745 : Cond.code yX5_byAll cX5_byAll 2 (some .int) ∈ GW := GW_of (List.mem_of_getElem? (i := 597) (by decide +kernel)) rfl
theorem m746 : Cond.methodLink RX5 244 yX3_findBestPlan ∈ GW := GW_of (List.mem_of_getElem? (i := 598) (by decide +kernel)) rfl
theorem m747 : Cond.instanceMethod yX3_findBestPlan ∈ GW := GW_of (List.mem_of_getElem? (i := 599) (by decide +kernel)) rfl
theorem m748 : Cond.selects RX3 yX3_findBestPlan yX3_findBestPlan ∈ GW := GW_of (List.mem_of_getElem? (i := 600) (by decide +kernel)) rfl
theorem m749 : Cond.code yX3_findBestPlan cX3_findBestPlan 4 (some .int) ∈ GW := GW_of (List.mem_of_getElem? (i := 601) (by decide +kernel)) rfl
theorem m750 : Cond.methodLink RX3 81 yX3_isFeasible ∈ GW := GW_of (List.mem_of_getElem? (i := 602) (by decide +kernel)) rfl
theorem m751 : Cond.methodLink RX3 84 yX3_costOf ∈ GW := GW_of (List.mem_of_getElem? (i := 603) (by decide +kernel)) rfl
theorem m752 : Cond.methodLink RX5 247 yX3_countFeasiblePlans ∈ GW := GW_of (List.mem_of_getElem? (i := 604) (by decide +kernel)) rfl
theorem m753 : Cond.instanceMethod yX3_countFeasiblePlans ∈ GW := GW_of (List.mem_of_getElem? (i := 605) (by decide +kernel)) rfl
theorem m754 : Cond.selects RX3 yX3_countFeasiblePlans yX3_countFeasiblePlans ∈ GW := GW_of (List.mem_of_getElem? (i := 606) (by decide +kernel)) rfl
theorem m755 : Cond.code yX3_countFeasiblePlans cX3_countFeasiblePlans 3 (some .int) ∈ GW := GW_of (List.mem_of_getElem? (i := 607) (by decide +kernel)) rfl
theorem m756 : Cond.methodLink RL 118 yX6_byAll ∈ GW := GW_of (List.mem_of_getElem? (i := 895) (by decide +kernel)) rfl
theorem m757 : Cond.instanceMethod yX6_byAll ∈ GW := GW_of (List.mem_of_getElem? (i := 896) (by decide +kernel)) rfl
theorem m758 : Cond.selects RX6 yX6_byAll yX6_byAll ∈ GW := GW_of (List.mem_of_getElem? (i := 897) (by decide +kernel)) rfl
theorem m759 : Cond.code yX6_byAll cX6_byAll 7 (some .int) ∈ GW := GW_of (List.mem_of_getElem? (i := 898) (by decide +kernel)) rfl
theorem m760 : Cond.methodLink RL 119 yX5_count ∈ GW := GW_of (List.mem_of_getElem? (i := 608) (by decide +kernel)) rfl
theorem m761 : Cond.instanceMethod yX5_count ∈ GW := GW_of (List.mem_of_getElem? (i := 609) (by decide +kernel)) rfl
theorem m762 : Cond.selects RX5 yX5_count yX5_count ∈ GW := GW_of (List.mem_of_getElem? (i := 610) (by decide +kernel)) rfl
theorem m763 : Cond.code yX5_count cX5_count 2 (some .int) ∈ GW := GW_of (List.mem_of_getElem? (i := 611) (by decide +kernel)) rfl
theorem m764 : Cond.fieldLink RX5 259 "SiteCuts$State" "steps" "I" ∈ GW := GW_of (List.mem_of_getElem? (i := 136) (by decide +kernel)) rfl
theorem m765 : Cond.methodLink RX5 250 yX3_countRoutes ∈ GW := GW_of (List.mem_of_getElem? (i := 612) (by decide +kernel)) rfl
theorem m766 : Cond.instanceMethod yX3_countRoutes ∈ GW := GW_of (List.mem_of_getElem? (i := 613) (by decide +kernel)) rfl
theorem m767 : Cond.selects RX3 yX3_countRoutes yX3_countRoutes ∈ GW := GW_of (List.mem_of_getElem? (i := 614) (by decide +kernel)) rfl
theorem m768 : Cond.code yX3_countRoutes cX3_countRoutes 4 (some .int) ∈ GW := GW_of (List.mem_of_getElem? (i := 615) (by decide +kernel)) rfl
theorem m769 : Cond.methodLink RX5 253 yX3_countExcludingPairs ∈ GW := GW_of (List.mem_of_getElem? (i := 616) (by decide +kernel)) rfl
theorem m770 : Cond.instanceMethod yX3_countExcludingPairs ∈ GW := GW_of (List.mem_of_getElem? (i := 617) (by decide +kernel)) rfl
theorem m771 : Cond.selects RX3 yX3_countExcludingPairs yX3_countExcludingPairs ∈ GW := GW_of (List.mem_of_getElem? (i := 618) (by decide +kernel)) rfl
theorem m772 : Cond.code yX3_countExcludingPairs cX3_countExcludingPairs 4 (some .int) ∈ GW := GW_of (List.mem_of_getElem? (i := 619) (by decide +kernel)) rfl
theorem m773 : Cond.methodLink RX3 87 yX3_areExcluding ∈ GW := GW_of (List.mem_of_getElem? (i := 620) (by decide +kernel)) rfl
theorem m774 : Cond.methodLink RX5 256 yX1_countRays ∈ GW := GW_of (List.mem_of_getElem? (i := 621) (by decide +kernel)) rfl
theorem m775 : Cond.instanceMethod yX1_countRays ∈ GW := GW_of (List.mem_of_getElem? (i := 622) (by decide +kernel)) rfl
theorem m776 : Cond.selects RX1 yX1_countRays yX1_countRays ∈ GW := GW_of (List.mem_of_getElem? (i := 623) (by decide +kernel)) rfl
theorem m777 : Cond.code yX1_countRays cX1_countRays 3 (some .int) ∈ GW := GW_of (List.mem_of_getElem? (i := 624) (by decide +kernel)) rfl
theorem m778 : Cond.methodLink RL 122 yX6_count ∈ GW := GW_of (List.mem_of_getElem? (i := 899) (by decide +kernel)) rfl
theorem m779 : Cond.instanceMethod yX6_count ∈ GW := GW_of (List.mem_of_getElem? (i := 900) (by decide +kernel)) rfl
theorem m780 : Cond.selects RX6 yX6_count yX6_count ∈ GW := GW_of (List.mem_of_getElem? (i := 901) (by decide +kernel)) rfl
theorem m781 : Cond.code yX6_count cX6_count 2 (some .int) ∈ GW := GW_of (List.mem_of_getElem? (i := 902) (by decide +kernel)) rfl
theorem m782 : Cond.methodLink RX6 158 yX6_allRoutes ∈ GW := GW_of (List.mem_of_getElem? (i := 903) (by decide +kernel)) rfl
theorem m783 : Cond.instanceMethod yX6_allRoutes ∈ GW := GW_of (List.mem_of_getElem? (i := 905) (by decide +kernel)) rfl
theorem m784 : Cond.selects RX6 yX6_allRoutes yX6_allRoutes ∈ GW := GW_of (List.mem_of_getElem? (i := 34) (by decide +kernel)) rfl
theorem m785 : Cond.code yX6_allRoutes cX6_allRoutes 3 (some .int) ∈ GW := GW_of (List.mem_of_getElem? (i := 906) (by decide +kernel)) rfl
theorem m786 : Cond.methodLink RX6 161 yX6_pairs ∈ GW := GW_of (List.mem_of_getElem? (i := 907) (by decide +kernel)) rfl
theorem m787 : Cond.instanceMethod yX6_pairs ∈ GW := GW_of (List.mem_of_getElem? (i := 909) (by decide +kernel)) rfl
theorem m788 : Cond.selects RX6 yX6_pairs yX6_pairs ∈ GW := GW_of (List.mem_of_getElem? (i := 35) (by decide +kernel)) rfl
theorem m789 : Cond.code yX6_pairs cX6_pairs 3 (some .int) ∈ GW := GW_of (List.mem_of_getElem? (i := 910) (by decide +kernel)) rfl
theorem m790 : Cond.methodLink RX6 164 yX6_rays ∈ GW := GW_of (List.mem_of_getElem? (i := 911) (by decide +kernel)) rfl
theorem m791 : Cond.instanceMethod yX6_rays ∈ GW := GW_of (List.mem_of_getElem? (i := 913) (by decide +kernel)) rfl
theorem m792 : Cond.selects RX6 yX6_rays yX6_rays ∈ GW := GW_of (List.mem_of_getElem? (i := 36) (by decide +kernel)) rfl
theorem m793 : Cond.code yX6_rays cX6_rays 3 (some .int) ∈ GW := GW_of (List.mem_of_getElem? (i := 914) (by decide +kernel)) rfl
theorem w5_0 : u_lay RX5 TX5 0 ∈ GW := GW_of (List.mem_of_getElem? (i := 185) (by decide +kernel)) rfl
theorem w5_1 : u_lay RX5 TX5 1 ∈ GW := GW_of (List.mem_of_getElem? (i := 187) (by decide +kernel)) rfl
theorem w5_2 : u_lay RX5 TX5 2 ∈ GW := GW_of (List.mem_of_getElem? (i := 189) (by decide +kernel)) rfl
theorem w5_3 : u_lay RX5 TX5 3 ∈ GW := GW_of (List.mem_of_getElem? (i := 191) (by decide +kernel)) rfl
theorem w5_4 : u_lay RX5 TX5 4 ∈ GW := GW_of (List.mem_of_getElem? (i := 193) (by decide +kernel)) rfl
theorem w5_5 : u_lay RX5 TX5 5 ∈ GW := GW_of (List.mem_of_getElem? (i := 195) (by decide +kernel)) rfl
theorem w5_6 : u_lay RX5 TX5 6 ∈ GW := GW_of (List.mem_of_getElem? (i := 197) (by decide +kernel)) rfl
theorem inlX5 : ∀ w ∈ u_ws RX5 TX5 7, w ∈ GW := List.forall_mem_cons.mpr ⟨w5_0, List.forall_mem_cons.mpr ⟨w5_1, List.forall_mem_cons.mpr ⟨w5_2, List.forall_mem_cons.mpr ⟨w5_3, List.forall_mem_cons.mpr ⟨w5_4, List.forall_mem_cons.mpr ⟨w5_5, List.forall_mem_cons.mpr ⟨w5_6, fun _ h => absurd h List.not_mem_nil⟩⟩⟩⟩⟩⟩⟩
theorem w6_0 : u_lay RX6 TX6 0 ∈ GW := GW_of (List.mem_of_getElem? (i := 641) (by decide +kernel)) rfl
theorem w6_1 : u_lay RX6 TX6 1 ∈ GW := GW_of (List.mem_of_getElem? (i := 643) (by decide +kernel)) rfl
theorem w6_2 : u_lay RX6 TX6 2 ∈ GW := GW_of (List.mem_of_getElem? (i := 645) (by decide +kernel)) rfl
theorem w6_3 : u_lay RX6 TX6 3 ∈ GW := GW_of (List.mem_of_getElem? (i := 647) (by decide +kernel)) rfl
theorem w6_4 : u_lay RX6 TX6 4 ∈ GW := GW_of (List.mem_of_getElem? (i := 649) (by decide +kernel)) rfl
theorem w6_5 : u_lay RX6 TX6 5 ∈ GW := GW_of (List.mem_of_getElem? (i := 651) (by decide +kernel)) rfl
theorem w6_6 : u_lay RX6 TX6 6 ∈ GW := GW_of (List.mem_of_getElem? (i := 653) (by decide +kernel)) rfl
theorem w6_7 : u_lay RX6 TX6 7 ∈ GW := GW_of (List.mem_of_getElem? (i := 655) (by decide +kernel)) rfl
theorem w6_8 : u_lay RX6 TX6 8 ∈ GW := GW_of (List.mem_of_getElem? (i := 657) (by decide +kernel)) rfl
theorem w6_9 : u_lay RX6 TX6 9 ∈ GW := GW_of (List.mem_of_getElem? (i := 659) (by decide +kernel)) rfl
theorem inlX6 : ∀ w ∈ u_ws RX6 TX6 10, w ∈ GW := List.forall_mem_cons.mpr ⟨w6_0, List.forall_mem_cons.mpr ⟨w6_1, List.forall_mem_cons.mpr ⟨w6_2, List.forall_mem_cons.mpr ⟨w6_3, List.forall_mem_cons.mpr ⟨w6_4, List.forall_mem_cons.mpr ⟨w6_5, List.forall_mem_cons.mpr ⟨w6_6, List.forall_mem_cons.mpr ⟨w6_7, List.forall_mem_cons.mpr ⟨w6_8, List.forall_mem_cons.mpr ⟨w6_9, fun _ h => absurd h List.not_mem_nil⟩⟩⟩⟩⟩⟩⟩⟩⟩⟩
theorem w4_0 : u_lay RX4 TX4 0 ∈ GW := GW_of (List.mem_of_getElem? (i := 137) (by decide +kernel)) rfl
theorem w4_1 : u_lay RX4 TX4 1 ∈ GW := GW_of (List.mem_of_getElem? (i := 139) (by decide +kernel)) rfl
theorem w4_2 : u_lay RX4 TX4 2 ∈ GW := GW_of (List.mem_of_getElem? (i := 141) (by decide +kernel)) rfl
theorem w4_3 : u_lay RX4 TX4 3 ∈ GW := GW_of (List.mem_of_getElem? (i := 143) (by decide +kernel)) rfl
theorem inlX4 : ∀ w ∈ u_ws RX4 TX4 4, w ∈ GW := List.forall_mem_cons.mpr ⟨w4_0, List.forall_mem_cons.mpr ⟨w4_1, List.forall_mem_cons.mpr ⟨w4_2, List.forall_mem_cons.mpr ⟨w4_3, fun _ h => absurd h List.not_mem_nil⟩⟩⟩⟩
theorem w2_0 : u_lay RX2 TX2 0 ∈ GW := GW_of (List.mem_of_getElem? (i := 158) (by decide +kernel)) rfl
theorem w2_1 : u_lay RX2 TX2 1 ∈ GW := GW_of (List.mem_of_getElem? (i := 160) (by decide +kernel)) rfl
theorem inlX2 : ∀ w ∈ u_ws RX2 TX2 2, w ∈ GW := List.forall_mem_cons.mpr ⟨w2_0, List.forall_mem_cons.mpr ⟨w2_1, fun _ h => absurd h List.not_mem_nil⟩⟩
theorem w0_0 : u_lay RX0 TX0 0 ∈ GW := GW_of (List.mem_of_getElem? (i := 172) (by decide +kernel)) rfl
theorem w0_1 : u_lay RX0 TX0 1 ∈ GW := GW_of (List.mem_of_getElem? (i := 174) (by decide +kernel)) rfl
theorem inlX0 : ∀ w ∈ u_ws RX0 TX0 2, w ∈ GW := List.forall_mem_cons.mpr ⟨w0_0, List.forall_mem_cons.mpr ⟨w0_1, fun _ h => absurd h List.not_mem_nil⟩⟩
theorem w3_0 : u_lay RX3 TX3 0 ∈ GW := GW_of (List.mem_of_getElem? (i := 88) (by decide +kernel)) rfl
theorem w3_1 : u_lay RX3 TX3 1 ∈ GW := GW_of (List.mem_of_getElem? (i := 90) (by decide +kernel)) rfl
theorem w3_2 : u_lay RX3 TX3 2 ∈ GW := GW_of (List.mem_of_getElem? (i := 92) (by decide +kernel)) rfl
theorem w3_3 : u_lay RX3 TX3 3 ∈ GW := GW_of (List.mem_of_getElem? (i := 94) (by decide +kernel)) rfl
theorem w3_4 : u_lay RX3 TX3 4 ∈ GW := GW_of (List.mem_of_getElem? (i := 96) (by decide +kernel)) rfl
theorem w3_5 : u_lay RX3 TX3 5 ∈ GW := GW_of (List.mem_of_getElem? (i := 98) (by decide +kernel)) rfl
theorem w3_6 : u_lay RX3 TX3 6 ∈ GW := GW_of (List.mem_of_getElem? (i := 100) (by decide +kernel)) rfl
theorem inlX3 : ∀ w ∈ u_ws RX3 TX3 7, w ∈ GW := List.forall_mem_cons.mpr ⟨w3_0, List.forall_mem_cons.mpr ⟨w3_1, List.forall_mem_cons.mpr ⟨w3_2, List.forall_mem_cons.mpr ⟨w3_3, List.forall_mem_cons.mpr ⟨w3_4, List.forall_mem_cons.mpr ⟨w3_5, List.forall_mem_cons.mpr ⟨w3_6, fun _ h => absurd h List.not_mem_nil⟩⟩⟩⟩⟩⟩⟩
theorem w1_0 : u_lay RX1 TX1 0 ∈ GW := GW_of (List.mem_of_getElem? (i := 120) (by decide +kernel)) rfl
theorem w1_1 : u_lay RX1 TX1 1 ∈ GW := GW_of (List.mem_of_getElem? (i := 122) (by decide +kernel)) rfl
theorem w1_2 : u_lay RX1 TX1 2 ∈ GW := GW_of (List.mem_of_getElem? (i := 124) (by decide +kernel)) rfl
theorem w1_3 : u_lay RX1 TX1 3 ∈ GW := GW_of (List.mem_of_getElem? (i := 126) (by decide +kernel)) rfl
theorem inlX1 : ∀ w ∈ u_ws RX1 TX1 4, w ∈ GW := List.forall_mem_cons.mpr ⟨w1_0, List.forall_mem_cons.mpr ⟨w1_1, List.forall_mem_cons.mpr ⟨w1_2, List.forall_mem_cons.mpr ⟨w1_3, fun _ h => absurd h List.not_mem_nil⟩⟩⟩⟩
