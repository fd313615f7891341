/-! printed by program: words of the tables, links of calls and fields -/
theorem uw_X0 : ∀ w ∈ u_ws RX0 TX0 7, w ∈ qx_Wd := fun w hw => qx_in ((by decide +kernel : ∀ w ∈ u_ws RX0 TX0 7, w ∈ lw_tbl) w hw) ((by decide +kernel : ∀ w ∈ u_ws RX0 TX0 7, goodWord w = true) w hw)
theorem uw_X1 : ∀ w ∈ u_ws RX1 TX1 8, w ∈ qx_Wd := fun w hw => qx_in ((by decide +kernel : ∀ w ∈ u_ws RX1 TX1 8, w ∈ lw_tbl) w hw) ((by decide +kernel : ∀ w ∈ u_ws RX1 TX1 8, goodWord w = true) w hw)
theorem uw_X2 : ∀ w ∈ u_ws RX2 TX2 3, w ∈ qx_Wd := fun w hw => qx_in ((by decide +kernel : ∀ w ∈ u_ws RX2 TX2 3, w ∈ lw_tbl) w hw) ((by decide +kernel : ∀ w ∈ u_ws RX2 TX2 3, goodWord w = true) w hw)
theorem uw_X3 : ∀ w ∈ u_ws RX3 TX3 6, w ∈ qx_Wd := fun w hw => qx_in ((by decide +kernel : ∀ w ∈ u_ws RX3 TX3 6, w ∈ lw_tbl) w hw) ((by decide +kernel : ∀ w ∈ u_ws RX3 TX3 6, goodWord w = true) w hw)
theorem uw_X4 : ∀ w ∈ u_ws RX4 TX4 4, w ∈ qx_Wd := fun w hw => qx_in ((by decide +kernel : ∀ w ∈ u_ws RX4 TX4 4, w ∈ lw_tbl) w hw) ((by decide +kernel : ∀ w ∈ u_ws RX4 TX4 4, goodWord w = true) w hw)
theorem uw_X5 : ∀ w ∈ u_ws RX5 TX5 8, w ∈ qx_Wd := fun w hw => qx_in ((by decide +kernel : ∀ w ∈ u_ws RX5 TX5 8, w ∈ lw_tbl) w hw) ((by decide +kernel : ∀ w ∈ u_ws RX5 TX5 8, goodWord w = true) w hw)
theorem uw_X6 : ∀ w ∈ u_ws RX6 TX6 20, w ∈ qx_Wd := fun w hw => qx_in ((by decide +kernel : ∀ w ∈ u_ws RX6 TX6 20, w ∈ lw_tbl) w hw) ((by decide +kernel : ∀ w ∈ u_ws RX6 TX6 20, goodWord w = true) w hw)
theorem qw_289 : Cond.fieldLink RX5 12 "BustRest" "library" "LBustRest$Library;" ∈ qx_Wd := qx_in (List.mem_of_getElem? (l := lw_tbl) (i := 289) (by decide +kernel)) rfl
theorem qf_X5_12 : qx_Fd RX5 12 5 0 true := ⟨RX5, TX5, 8, rfl, uw_X5, by decide, nmX5, ⟨tyX5, tyX5_ok⟩, rfl, Or.inl qw_289⟩
theorem qw_290 : Cond.fieldLink RX5 16 "BustRest" "trial" "LBustRest$Library;" ∈ qx_Wd := qx_in (List.mem_of_getElem? (l := lw_tbl) (i := 290) (by decide +kernel)) rfl
theorem qf_X5_16 : qx_Fd RX5 16 5 1 true := ⟨RX5, TX5, 8, rfl, uw_X5, by decide, nmX5, ⟨tyX5, tyX5_ok⟩, rfl, Or.inl qw_290⟩
theorem qw_291 : Cond.fieldLink RX5 19 "BustRest" "image" "LBustRest$Library;" ∈ qx_Wd := qx_in (List.mem_of_getElem? (l := lw_tbl) (i := 291) (by decide +kernel)) rfl
theorem qf_X5_19 : qx_Fd RX5 19 5 2 true := ⟨RX5, TX5, 8, rfl, uw_X5, by decide, nmX5, ⟨tyX5, tyX5_ok⟩, rfl, Or.inl qw_291⟩
theorem qw_292 : Cond.fieldLink RX5 22 "BustRest" "imageKept" "Z" ∈ qx_Wd := qx_in (List.mem_of_getElem? (l := lw_tbl) (i := 292) (by decide +kernel)) rfl
theorem qf_X5_22 : qx_Fd RX5 22 5 3 false := ⟨RX5, TX5, 8, rfl, uw_X5, by decide, nmX5, ⟨tyX5, tyX5_ok⟩, rfl, Or.inl qw_292⟩
theorem qw_293 : Cond.fieldLink RX5 29 "BustRest" "tape" "LBustRest$Tape;" ∈ qx_Wd := qx_in (List.mem_of_getElem? (l := lw_tbl) (i := 293) (by decide +kernel)) rfl
theorem qf_X5_29 : qx_Fd RX5 29 5 4 true := ⟨RX5, TX5, 8, rfl, uw_X5, by decide, nmX5, ⟨tyX5, tyX5_ok⟩, rfl, Or.inl qw_293⟩
theorem qw_294 : Cond.fieldLink RX5 38 "BustRest" "reader" "LBustRest$TextReader;" ∈ qx_Wd := qx_in (List.mem_of_getElem? (l := lw_tbl) (i := 294) (by decide +kernel)) rfl
theorem qf_X5_38 : qx_Fd RX5 38 5 5 true := ⟨RX5, TX5, 8, rfl, uw_X5, by decide, nmX5, ⟨tyX5, tyX5_ok⟩, rfl, Or.inl qw_294⟩
theorem qw_295 : Cond.fieldLink RX5 44 "BustRest" "sheets" "[LBustRest$Sheet;" ∈ qx_Wd := qx_in (List.mem_of_getElem? (l := lw_tbl) (i := 295) (by decide +kernel)) rfl
theorem qf_X5_44 : qx_Fd RX5 44 5 6 true := ⟨RX5, TX5, 8, rfl, uw_X5, by decide, nmX5, ⟨tyX5, tyX5_ok⟩, rfl, Or.inl qw_295⟩
theorem qw_296 : Cond.fieldLink RX5 48 "BustRest" "findings" "[I" ∈ qx_Wd := qx_in (List.mem_of_getElem? (l := lw_tbl) (i := 296) (by decide +kernel)) rfl
theorem qf_X5_48 : qx_Fd RX5 48 5 7 true := ⟨RX5, TX5, 8, rfl, uw_X5, by decide, nmX5, ⟨tyX5, tyX5_ok⟩, rfl, Or.inl qw_296⟩
theorem qw_194 : Cond.fieldLinkNest RX5 62 "BustRest$Library" "list" "[I" "BustRest" ∈ qx_Nd := qx_inN (List.mem_of_getElem? (l := lw_tbl) (i := 194) (by decide +kernel)) rfl
theorem qf_X5_62 : qx_Fd RX5 62 1 4 true := ⟨RX1, TX1, 8, rfl, uw_X1, by decide, nmX1, ⟨tyX1, tyX1_ok⟩, rfl, Or.inr ⟨_, qw_194⟩⟩
theorem qw_197 : Cond.fieldLinkNest RX5 65 "BustRest$Library" "store" "[I" "BustRest" ∈ qx_Nd := qx_inN (List.mem_of_getElem? (l := lw_tbl) (i := 197) (by decide +kernel)) rfl
theorem qf_X5_65 : qx_Fd RX5 65 1 5 true := ⟨RX1, TX1, 8, rfl, uw_X1, by decide, nmX1, ⟨tyX1, tyX1_ok⟩, rfl, Or.inr ⟨_, qw_197⟩⟩
theorem qw_202 : Cond.fieldLinkNest RX5 77 "BustRest$Library" "busts" "[LBustRest$Bust;" "BustRest" ∈ qx_Nd := qx_inN (List.mem_of_getElem? (l := lw_tbl) (i := 202) (by decide +kernel)) rfl
theorem qf_X5_77 : qx_Fd RX5 77 1 7 true := ⟨RX1, TX1, 8, rfl, uw_X1, by decide, nmX1, ⟨tyX1, tyX1_ok⟩, rfl, Or.inr ⟨_, qw_202⟩⟩
theorem qw_396 : Cond.fieldLink RX5 86 "BustRest" "MOST" "[I" ∈ qx_Wd := qx_in (List.mem_of_getElem? (l := lw_tbl) (i := 396) (by decide +kernel)) rfl
theorem qw_168 : Cond.fieldLinkNest RX5 103 "BustRest$Bust" "gone" "I" "BustRest" ∈ qx_Nd := qx_inN (List.mem_of_getElem? (l := lw_tbl) (i := 168) (by decide +kernel)) rfl
theorem qf_X5_103 : qx_Fd RX5 103 0 6 false := ⟨RX0, TX0, 7, rfl, uw_X0, by decide, nmX0, ⟨tyX0, tyX0_ok⟩, rfl, Or.inr ⟨_, qw_168⟩⟩
theorem qw_157 : Cond.fieldLinkNest RX5 112 "BustRest$Bust" "has" "I" "BustRest" ∈ qx_Nd := qx_inN (List.mem_of_getElem? (l := lw_tbl) (i := 157) (by decide +kernel)) rfl
theorem qf_X5_112 : qx_Fd RX5 112 0 2 false := ⟨RX0, TX0, 7, rfl, uw_X0, by decide, nmX0, ⟨tyX0, tyX0_ok⟩, rfl, Or.inr ⟨_, qw_157⟩⟩
theorem qw_186 : Cond.fieldLinkNest RX5 115 "BustRest$Library" "day" "I" "BustRest" ∈ qx_Nd := qx_inN (List.mem_of_getElem? (l := lw_tbl) (i := 186) (by decide +kernel)) rfl
theorem qf_X5_115 : qx_Fd RX5 115 1 0 false := ⟨RX1, TX1, 8, rfl, uw_X1, by decide, nmX1, ⟨tyX1, tyX1_ok⟩, rfl, Or.inr ⟨_, qw_186⟩⟩
theorem qw_188 : Cond.fieldLinkNest RX5 122 "BustRest$Library" "left" "I" "BustRest" ∈ qx_Nd := qx_inN (List.mem_of_getElem? (l := lw_tbl) (i := 188) (by decide +kernel)) rfl
theorem qf_X5_122 : qx_Fd RX5 122 1 1 false := ⟨RX1, TX1, 8, rfl, uw_X1, by decide, nmX1, ⟨tyX1, tyX1_ok⟩, rfl, Or.inr ⟨_, qw_188⟩⟩
theorem qw_151 : Cond.fieldLinkNest RX5 166 "BustRest$Bust" "kind" "I" "BustRest" ∈ qx_Nd := qx_inN (List.mem_of_getElem? (l := lw_tbl) (i := 151) (by decide +kernel)) rfl
theorem qf_X5_166 : qx_Fd RX5 166 0 0 false := ⟨RX0, TX0, 7, rfl, uw_X0, by decide, nmX0, ⟨tyX0, tyX0_ok⟩, rfl, Or.inr ⟨_, qw_151⟩⟩
theorem qw_192 : Cond.fieldLinkNest RX5 175 "BustRest$Library" "number" "I" "BustRest" ∈ qx_Nd := qx_inN (List.mem_of_getElem? (l := lw_tbl) (i := 192) (by decide +kernel)) rfl
theorem qf_X5_175 : qx_Fd RX5 175 1 3 false := ⟨RX1, TX1, 8, rfl, uw_X1, by decide, nmX1, ⟨tyX1, tyX1_ok⟩, rfl, Or.inr ⟨_, qw_192⟩⟩
theorem qw_190 : Cond.fieldLinkNest RX5 198 "BustRest$Library" "z" "I" "BustRest" ∈ qx_Nd := qx_inN (List.mem_of_getElem? (l := lw_tbl) (i := 190) (by decide +kernel)) rfl
theorem qf_X5_198 : qx_Fd RX5 198 1 2 false := ⟨RX1, TX1, 8, rfl, uw_X1, by decide, nmX1, ⟨tyX1, tyX1_ok⟩, rfl, Or.inr ⟨_, qw_190⟩⟩
theorem qw_229 : Cond.fieldLinkNest RX5 201 "BustRest$Tape" "length" "I" "BustRest" ∈ qx_Nd := qx_inN (List.mem_of_getElem? (l := lw_tbl) (i := 229) (by decide +kernel)) rfl
theorem qf_X5_201 : qx_Fd RX5 201 3 1 false := ⟨RX3, TX3, 6, rfl, uw_X3, by decide, nmX3, ⟨tyX3, tyX3_ok⟩, rfl, Or.inr ⟨_, qw_229⟩⟩
theorem qw_200 : Cond.fieldLinkNest RX5 214 "BustRest$Library" "spots" "[I" "BustRest" ∈ qx_Nd := qx_inN (List.mem_of_getElem? (l := lw_tbl) (i := 200) (by decide +kernel)) rfl
theorem qf_X5_214 : qx_Fd RX5 214 1 6 true := ⟨RX1, TX1, 8, rfl, uw_X1, by decide, nmX1, ⟨tyX1, tyX1_ok⟩, rfl, Or.inr ⟨_, qw_200⟩⟩
theorem qw_279 : Cond.fieldLinkNest RX5 229 "BustRest$Sheet" "size" "I" "BustRest" ∈ qx_Nd := qx_inN (List.mem_of_getElem? (l := lw_tbl) (i := 279) (by decide +kernel)) rfl
theorem qf_X5_229 : qx_Fd RX5 229 2 1 false := ⟨RX2, TX2, 3, rfl, uw_X2, by decide, nmX2, ⟨tyX2, tyX2_ok⟩, rfl, Or.inr ⟨_, qw_279⟩⟩
theorem qw_277 : Cond.fieldLinkNest RX5 242 "BustRest$Sheet" "bits" "I" "BustRest" ∈ qx_Nd := qx_inN (List.mem_of_getElem? (l := lw_tbl) (i := 277) (by decide +kernel)) rfl
theorem qf_X5_242 : qx_Fd RX5 242 2 0 false := ⟨RX2, TX2, 3, rfl, uw_X2, by decide, nmX2, ⟨tyX2, tyX2_ok⟩, rfl, Or.inr ⟨_, qw_277⟩⟩
theorem qw_281 : Cond.fieldLinkNest RX5 248 "BustRest$Sheet" "numbers" "[I" "BustRest" ∈ qx_Nd := qx_inN (List.mem_of_getElem? (l := lw_tbl) (i := 281) (by decide +kernel)) rfl
theorem qf_X5_248 : qx_Fd RX5 248 2 2 true := ⟨RX2, TX2, 3, rfl, uw_X2, by decide, nmX2, ⟨tyX2, tyX2_ok⟩, rfl, Or.inr ⟨_, qw_281⟩⟩
theorem qw_155 : Cond.fieldLinkNest RX5 265 "BustRest$Bust" "date" "I" "BustRest" ∈ qx_Nd := qx_inN (List.mem_of_getElem? (l := lw_tbl) (i := 155) (by decide +kernel)) rfl
theorem qf_X5_265 : qx_Fd RX5 265 0 1 false := ⟨RX0, TX0, 7, rfl, uw_X0, by decide, nmX0, ⟨tyX0, tyX0_ok⟩, rfl, Or.inr ⟨_, qw_155⟩⟩
theorem qw_165 : Cond.fieldLinkNest RX5 268 "BustRest$Bust" "sealed" "I" "BustRest" ∈ qx_Nd := qx_inN (List.mem_of_getElem? (l := lw_tbl) (i := 165) (by decide +kernel)) rfl
theorem qf_X5_268 : qx_Fd RX5 268 0 5 false := ⟨RX0, TX0, 7, rfl, uw_X0, by decide, nmX0, ⟨tyX0, tyX0_ok⟩, rfl, Or.inr ⟨_, qw_165⟩⟩
theorem qw_150 : Cond.fieldLink RX0 9 "BustRest$Bust" "kind" "I" ∈ qx_Wd := qx_in (List.mem_of_getElem? (l := lw_tbl) (i := 150) (by decide +kernel)) rfl
theorem qf_X0_9 : qx_Fd RX0 9 0 0 false := ⟨RX0, TX0, 7, rfl, uw_X0, by decide, nmX0, ⟨tyX0, tyX0_ok⟩, rfl, Or.inl qw_150⟩
theorem qw_152 : Cond.fieldLink RX0 15 "BustRest$Bust" "date" "I" ∈ qx_Wd := qx_in (List.mem_of_getElem? (l := lw_tbl) (i := 152) (by decide +kernel)) rfl
theorem qf_X0_15 : qx_Fd RX0 15 0 1 false := ⟨RX0, TX0, 7, rfl, uw_X0, by decide, nmX0, ⟨tyX0, tyX0_ok⟩, rfl, Or.inl qw_152⟩
theorem qw_156 : Cond.fieldLink RX0 18 "BustRest$Bust" "has" "I" ∈ qx_Wd := qx_in (List.mem_of_getElem? (l := lw_tbl) (i := 156) (by decide +kernel)) rfl
theorem qf_X0_18 : qx_Fd RX0 18 0 2 false := ⟨RX0, TX0, 7, rfl, uw_X0, by decide, nmX0, ⟨tyX0, tyX0_ok⟩, rfl, Or.inl qw_156⟩
theorem qw_159 : Cond.fieldLink RX0 21 "BustRest$Bust" "cell" "I" ∈ qx_Wd := qx_in (List.mem_of_getElem? (l := lw_tbl) (i := 159) (by decide +kernel)) rfl
theorem qf_X0_21 : qx_Fd RX0 21 0 3 false := ⟨RX0, TX0, 7, rfl, uw_X0, by decide, nmX0, ⟨tyX0, tyX0_ok⟩, rfl, Or.inl qw_159⟩
theorem qw_161 : Cond.fieldLink RX0 24 "BustRest$Bust" "yearning" "I" ∈ qx_Wd := qx_in (List.mem_of_getElem? (l := lw_tbl) (i := 161) (by decide +kernel)) rfl
theorem qf_X0_24 : qx_Fd RX0 24 0 4 false := ⟨RX0, TX0, 7, rfl, uw_X0, by decide, nmX0, ⟨tyX0, tyX0_ok⟩, rfl, Or.inl qw_161⟩
theorem qw_163 : Cond.fieldLink RX0 27 "BustRest$Bust" "sealed" "I" ∈ qx_Wd := qx_in (List.mem_of_getElem? (l := lw_tbl) (i := 163) (by decide +kernel)) rfl
theorem qf_X0_27 : qx_Fd RX0 27 0 5 false := ⟨RX0, TX0, 7, rfl, uw_X0, by decide, nmX0, ⟨tyX0, tyX0_ok⟩, rfl, Or.inl qw_163⟩
theorem qw_166 : Cond.fieldLink RX0 30 "BustRest$Bust" "gone" "I" ∈ qx_Wd := qx_in (List.mem_of_getElem? (l := lw_tbl) (i := 166) (by decide +kernel)) rfl
theorem qf_X0_30 : qx_Fd RX0 30 0 6 false := ⟨RX0, TX0, 7, rfl, uw_X0, by decide, nmX0, ⟨tyX0, tyX0_ok⟩, rfl, Or.inl qw_166⟩
theorem qw_792 : Cond.fieldLinkNest RX0 46 "BustRest" "KIND_ABOVE" "[I" "BustRest" ∈ qx_Nd := qx_inN (List.mem_of_getElem? (l := lw_tbl) (i := 792) (by decide +kernel)) rfl
theorem qw_185 : Cond.fieldLink RX1 9 "BustRest$Library" "day" "I" ∈ qx_Wd := qx_in (List.mem_of_getElem? (l := lw_tbl) (i := 185) (by decide +kernel)) rfl
theorem qf_X1_9 : qx_Fd RX1 9 1 0 false := ⟨RX1, TX1, 8, rfl, uw_X1, by decide, nmX1, ⟨tyX1, tyX1_ok⟩, rfl, Or.inl qw_185⟩
theorem qw_187 : Cond.fieldLink RX1 15 "BustRest$Library" "left" "I" ∈ qx_Wd := qx_in (List.mem_of_getElem? (l := lw_tbl) (i := 187) (by decide +kernel)) rfl
theorem qf_X1_15 : qx_Fd RX1 15 1 1 false := ⟨RX1, TX1, 8, rfl, uw_X1, by decide, nmX1, ⟨tyX1, tyX1_ok⟩, rfl, Or.inl qw_187⟩
theorem qw_189 : Cond.fieldLink RX1 18 "BustRest$Library" "z" "I" ∈ qx_Wd := qx_in (List.mem_of_getElem? (l := lw_tbl) (i := 189) (by decide +kernel)) rfl
theorem qf_X1_18 : qx_Fd RX1 18 1 2 false := ⟨RX1, TX1, 8, rfl, uw_X1, by decide, nmX1, ⟨tyX1, tyX1_ok⟩, rfl, Or.inl qw_189⟩
theorem qw_191 : Cond.fieldLink RX1 21 "BustRest$Library" "number" "I" ∈ qx_Wd := qx_in (List.mem_of_getElem? (l := lw_tbl) (i := 191) (by decide +kernel)) rfl
theorem qf_X1_21 : qx_Fd RX1 21 1 3 false := ⟨RX1, TX1, 8, rfl, uw_X1, by decide, nmX1, ⟨tyX1, tyX1_ok⟩, rfl, Or.inl qw_191⟩
theorem qw_193 : Cond.fieldLink RX1 24 "BustRest$Library" "list" "[I" ∈ qx_Wd := qx_in (List.mem_of_getElem? (l := lw_tbl) (i := 193) (by decide +kernel)) rfl
theorem qf_X1_24 : qx_Fd RX1 24 1 4 true := ⟨RX1, TX1, 8, rfl, uw_X1, by decide, nmX1, ⟨tyX1, tyX1_ok⟩, rfl, Or.inl qw_193⟩
theorem qw_196 : Cond.fieldLink RX1 28 "BustRest$Library" "store" "[I" ∈ qx_Wd := qx_in (List.mem_of_getElem? (l := lw_tbl) (i := 196) (by decide +kernel)) rfl
theorem qf_X1_28 : qx_Fd RX1 28 1 5 true := ⟨RX1, TX1, 8, rfl, uw_X1, by decide, nmX1, ⟨tyX1, tyX1_ok⟩, rfl, Or.inl qw_196⟩
theorem qw_199 : Cond.fieldLink RX1 31 "BustRest$Library" "spots" "[I" ∈ qx_Wd := qx_in (List.mem_of_getElem? (l := lw_tbl) (i := 199) (by decide +kernel)) rfl
theorem qf_X1_31 : qx_Fd RX1 31 1 6 true := ⟨RX1, TX1, 8, rfl, uw_X1, by decide, nmX1, ⟨tyX1, tyX1_ok⟩, rfl, Or.inl qw_199⟩
theorem qw_201 : Cond.fieldLink RX1 36 "BustRest$Library" "busts" "[LBustRest$Bust;" ∈ qx_Wd := qx_in (List.mem_of_getElem? (l := lw_tbl) (i := 201) (by decide +kernel)) rfl
theorem qf_X1_36 : qx_Fd RX1 36 1 7 true := ⟨RX1, TX1, 8, rfl, uw_X1, by decide, nmX1, ⟨tyX1, tyX1_ok⟩, rfl, Or.inl qw_201⟩
theorem qw_153 : Cond.fieldLinkNest RX1 55 "BustRest$Bust" "date" "I" "BustRest" ∈ qx_Nd := qx_inN (List.mem_of_getElem? (l := lw_tbl) (i := 153) (by decide +kernel)) rfl
theorem qf_X1_55 : qx_Fd RX1 55 0 1 false := ⟨RX0, TX0, 7, rfl, uw_X0, by decide, nmX0, ⟨tyX0, tyX0_ok⟩, rfl, Or.inr ⟨_, qw_153⟩⟩
theorem qw_167 : Cond.fieldLinkNest RX1 58 "BustRest$Bust" "gone" "I" "BustRest" ∈ qx_Nd := qx_inN (List.mem_of_getElem? (l := lw_tbl) (i := 167) (by decide +kernel)) rfl
theorem qf_X1_58 : qx_Fd RX1 58 0 6 false := ⟨RX0, TX0, 7, rfl, uw_X0, by decide, nmX0, ⟨tyX0, tyX0_ok⟩, rfl, Or.inr ⟨_, qw_167⟩⟩
theorem qw_160 : Cond.fieldLinkNest RX1 103 "BustRest$Bust" "cell" "I" "BustRest" ∈ qx_Nd := qx_inN (List.mem_of_getElem? (l := lw_tbl) (i := 160) (by decide +kernel)) rfl
theorem qf_X1_103 : qx_Fd RX1 103 0 3 false := ⟨RX0, TX0, 7, rfl, uw_X0, by decide, nmX0, ⟨tyX0, tyX0_ok⟩, rfl, Or.inr ⟨_, qw_160⟩⟩
theorem qw_158 : Cond.fieldLinkNest RX1 113 "BustRest$Bust" "has" "I" "BustRest" ∈ qx_Nd := qx_inN (List.mem_of_getElem? (l := lw_tbl) (i := 158) (by decide +kernel)) rfl
theorem qf_X1_113 : qx_Fd RX1 113 0 2 false := ⟨RX0, TX0, 7, rfl, uw_X0, by decide, nmX0, ⟨tyX0, tyX0_ok⟩, rfl, Or.inr ⟨_, qw_158⟩⟩
theorem qw_162 : Cond.fieldLinkNest RX1 119 "BustRest$Bust" "yearning" "I" "BustRest" ∈ qx_Nd := qx_inN (List.mem_of_getElem? (l := lw_tbl) (i := 162) (by decide +kernel)) rfl
theorem qf_X1_119 : qx_Fd RX1 119 0 4 false := ⟨RX0, TX0, 7, rfl, uw_X0, by decide, nmX0, ⟨tyX0, tyX0_ok⟩, rfl, Or.inr ⟨_, qw_162⟩⟩
theorem qw_276 : Cond.fieldLink RX2 9 "BustRest$Sheet" "bits" "I" ∈ qx_Wd := qx_in (List.mem_of_getElem? (l := lw_tbl) (i := 276) (by decide +kernel)) rfl
theorem qf_X2_9 : qx_Fd RX2 9 2 0 false := ⟨RX2, TX2, 3, rfl, uw_X2, by decide, nmX2, ⟨tyX2, tyX2_ok⟩, rfl, Or.inl qw_276⟩
theorem qw_278 : Cond.fieldLink RX2 15 "BustRest$Sheet" "size" "I" ∈ qx_Wd := qx_in (List.mem_of_getElem? (l := lw_tbl) (i := 278) (by decide +kernel)) rfl
theorem qf_X2_15 : qx_Fd RX2 15 2 1 false := ⟨RX2, TX2, 3, rfl, uw_X2, by decide, nmX2, ⟨tyX2, tyX2_ok⟩, rfl, Or.inl qw_278⟩
theorem qw_280 : Cond.fieldLink RX2 18 "BustRest$Sheet" "numbers" "[I" ∈ qx_Wd := qx_in (List.mem_of_getElem? (l := lw_tbl) (i := 280) (by decide +kernel)) rfl
theorem qf_X2_18 : qx_Fd RX2 18 2 2 true := ⟨RX2, TX2, 3, rfl, uw_X2, by decide, nmX2, ⟨tyX2, tyX2_ok⟩, rfl, Or.inl qw_280⟩
theorem qw_227 : Cond.fieldLink RX3 9 "BustRest$Tape" "bytes" "[I" ∈ qx_Wd := qx_in (List.mem_of_getElem? (l := lw_tbl) (i := 227) (by decide +kernel)) rfl
theorem qf_X3_9 : qx_Fd RX3 9 3 0 true := ⟨RX3, TX3, 6, rfl, uw_X3, by decide, nmX3, ⟨tyX3, tyX3_ok⟩, rfl, Or.inl qw_227⟩
theorem qw_228 : Cond.fieldLink RX3 15 "BustRest$Tape" "length" "I" ∈ qx_Wd := qx_in (List.mem_of_getElem? (l := lw_tbl) (i := 228) (by decide +kernel)) rfl
theorem qf_X3_15 : qx_Fd RX3 15 3 1 false := ⟨RX3, TX3, 6, rfl, uw_X3, by decide, nmX3, ⟨tyX3, tyX3_ok⟩, rfl, Or.inl qw_228⟩
theorem qw_230 : Cond.fieldLink RX3 19 "BustRest$Tape" "token" "I" ∈ qx_Wd := qx_in (List.mem_of_getElem? (l := lw_tbl) (i := 230) (by decide +kernel)) rfl
theorem qf_X3_19 : qx_Fd RX3 19 3 2 false := ⟨RX3, TX3, 6, rfl, uw_X3, by decide, nmX3, ⟨tyX3, tyX3_ok⟩, rfl, Or.inl qw_230⟩
theorem qw_232 : Cond.fieldLink RX3 22 "BustRest$Tape" "start" "I" ∈ qx_Wd := qx_in (List.mem_of_getElem? (l := lw_tbl) (i := 232) (by decide +kernel)) rfl
theorem qf_X3_22 : qx_Fd RX3 22 3 3 false := ⟨RX3, TX3, 6, rfl, uw_X3, by decide, nmX3, ⟨tyX3, tyX3_ok⟩, rfl, Or.inl qw_232⟩
theorem qw_234 : Cond.fieldLink RX3 25 "BustRest$Tape" "stop" "I" ∈ qx_Wd := qx_in (List.mem_of_getElem? (l := lw_tbl) (i := 234) (by decide +kernel)) rfl
theorem qf_X3_25 : qx_Fd RX3 25 3 4 false := ⟨RX3, TX3, 6, rfl, uw_X3, by decide, nmX3, ⟨tyX3, tyX3_ok⟩, rfl, Or.inl qw_234⟩
theorem qw_235 : Cond.fieldLink RX3 28 "BustRest$Tape" "value" "I" ∈ qx_Wd := qx_in (List.mem_of_getElem? (l := lw_tbl) (i := 235) (by decide +kernel)) rfl
theorem qf_X3_28 : qx_Fd RX3 28 3 5 false := ⟨RX3, TX3, 6, rfl, uw_X3, by decide, nmX3, ⟨tyX3, tyX3_ok⟩, rfl, Or.inl qw_235⟩
theorem qw_258 : Cond.fieldLink RX4 9 "BustRest$TextReader" "first" "I" ∈ qx_Wd := qx_in (List.mem_of_getElem? (l := lw_tbl) (i := 258) (by decide +kernel)) rfl
theorem qf_X4_9 : qx_Fd RX4 9 4 2 false := ⟨RX4, TX4, 4, rfl, uw_X4, by decide, nmX4, ⟨tyX4, tyX4_ok⟩, rfl, Or.inl qw_258⟩
theorem qw_259 : Cond.fieldLink RX4 15 "BustRest$TextReader" "second" "I" ∈ qx_Wd := qx_in (List.mem_of_getElem? (l := lw_tbl) (i := 259) (by decide +kernel)) rfl
theorem qf_X4_15 : qx_Fd RX4 15 4 3 false := ⟨RX4, TX4, 4, rfl, uw_X4, by decide, nmX4, ⟨tyX4, tyX4_ok⟩, rfl, Or.inl qw_259⟩
theorem qw_256 : Cond.fieldLink RX4 18 "BustRest$TextReader" "tape" "LBustRest$Tape;" ∈ qx_Wd := qx_in (List.mem_of_getElem? (l := lw_tbl) (i := 256) (by decide +kernel)) rfl
theorem qf_X4_18 : qx_Fd RX4 18 4 0 true := ⟨RX4, TX4, 4, rfl, uw_X4, by decide, nmX4, ⟨tyX4, tyX4_ok⟩, rfl, Or.inl qw_256⟩
theorem qw_257 : Cond.fieldLink RX4 22 "BustRest$TextReader" "library" "LBustRest$Library;" ∈ qx_Wd := qx_in (List.mem_of_getElem? (l := lw_tbl) (i := 257) (by decide +kernel)) rfl
theorem qf_X4_22 : qx_Fd RX4 22 4 1 true := ⟨RX4, TX4, 4, rfl, uw_X4, by decide, nmX4, ⟨tyX4, tyX4_ok⟩, rfl, Or.inl qw_257⟩
theorem qw_231 : Cond.fieldLinkNest RX4 35 "BustRest$Tape" "token" "I" "BustRest" ∈ qx_Nd := qx_inN (List.mem_of_getElem? (l := lw_tbl) (i := 231) (by decide +kernel)) rfl
theorem qf_X4_35 : qx_Fd RX4 35 3 2 false := ⟨RX3, TX3, 6, rfl, uw_X3, by decide, nmX3, ⟨tyX3, tyX3_ok⟩, rfl, Or.inr ⟨_, qw_231⟩⟩
theorem qw_233 : Cond.fieldLinkNest RX4 41 "BustRest$Tape" "start" "I" "BustRest" ∈ qx_Nd := qx_inN (List.mem_of_getElem? (l := lw_tbl) (i := 233) (by decide +kernel)) rfl
theorem qf_X4_41 : qx_Fd RX4 41 3 3 false := ⟨RX3, TX3, 6, rfl, uw_X3, by decide, nmX3, ⟨tyX3, tyX3_ok⟩, rfl, Or.inr ⟨_, qw_233⟩⟩
theorem qw_195 : Cond.fieldLinkNest RX4 84 "BustRest$Library" "list" "[I" "BustRest" ∈ qx_Nd := qx_inN (List.mem_of_getElem? (l := lw_tbl) (i := 195) (by decide +kernel)) rfl
theorem qf_X4_84 : qx_Fd RX4 84 1 4 true := ⟨RX1, TX1, 8, rfl, uw_X1, by decide, nmX1, ⟨tyX1, tyX1_ok⟩, rfl, Or.inr ⟨_, qw_195⟩⟩
theorem qw_198 : Cond.fieldLinkNest RX4 90 "BustRest$Library" "store" "[I" "BustRest" ∈ qx_Nd := qx_inN (List.mem_of_getElem? (l := lw_tbl) (i := 198) (by decide +kernel)) rfl
theorem qf_X4_90 : qx_Fd RX4 90 1 5 true := ⟨RX1, TX1, 8, rfl, uw_X1, by decide, nmX1, ⟨tyX1, tyX1_ok⟩, rfl, Or.inr ⟨_, qw_198⟩⟩
theorem qw_236 : Cond.fieldLinkNest RX4 95 "BustRest$Tape" "value" "I" "BustRest" ∈ qx_Nd := qx_inN (List.mem_of_getElem? (l := lw_tbl) (i := 236) (by decide +kernel)) rfl
theorem qf_X4_95 : qx_Fd RX4 95 3 5 false := ⟨RX3, TX3, 6, rfl, uw_X3, by decide, nmX3, ⟨tyX3, tyX3_ok⟩, rfl, Or.inr ⟨_, qw_236⟩⟩
theorem qw_203 : Cond.fieldLinkNest RX4 102 "BustRest$Library" "busts" "[LBustRest$Bust;" "BustRest" ∈ qx_Nd := qx_inN (List.mem_of_getElem? (l := lw_tbl) (i := 203) (by decide +kernel)) rfl
theorem qf_X4_102 : qx_Fd RX4 102 1 7 true := ⟨RX1, TX1, 8, rfl, uw_X1, by decide, nmX1, ⟨tyX1, tyX1_ok⟩, rfl, Or.inr ⟨_, qw_203⟩⟩
theorem qw_154 : Cond.fieldLinkNest RX4 106 "BustRest$Bust" "date" "I" "BustRest" ∈ qx_Nd := qx_inN (List.mem_of_getElem? (l := lw_tbl) (i := 154) (by decide +kernel)) rfl
theorem qf_X4_106 : qx_Fd RX4 106 0 1 false := ⟨RX0, TX0, 7, rfl, uw_X0, by decide, nmX0, ⟨tyX0, tyX0_ok⟩, rfl, Or.inr ⟨_, qw_154⟩⟩
theorem qw_771 : Cond.fieldLinkNest RX4 123 "BustRest" "MOST" "[I" "BustRest" ∈ qx_Nd := qx_inN (List.mem_of_getElem? (l := lw_tbl) (i := 771) (by decide +kernel)) rfl
theorem qw_164 : Cond.fieldLinkNest RX4 132 "BustRest$Bust" "sealed" "I" "BustRest" ∈ qx_Nd := qx_inN (List.mem_of_getElem? (l := lw_tbl) (i := 164) (by decide +kernel)) rfl
theorem qf_X4_132 : qx_Fd RX4 132 0 5 false := ⟨RX0, TX0, 7, rfl, uw_X0, by decide, nmX0, ⟨tyX0, tyX0_ok⟩, rfl, Or.inr ⟨_, qw_164⟩⟩
theorem qw_869 : Cond.fieldLink RX6 9 "BustRestModel" "now" "[I" ∈ qx_Wd := qx_in (List.mem_of_getElem? (l := lw_tbl) (i := 869) (by decide +kernel)) rfl
theorem qf_X6_9 : qx_Fd RX6 9 6 0 true := ⟨RX6, TX6, 20, rfl, uw_X6, by decide, nmX6, ⟨tyX6, tyX6_ok⟩, rfl, Or.inl qw_869⟩
theorem qw_870 : Cond.fieldLink RX6 13 "BustRestModel" "kept" "[I" ∈ qx_Wd := qx_in (List.mem_of_getElem? (l := lw_tbl) (i := 870) (by decide +kernel)) rfl
theorem qf_X6_13 : qx_Fd RX6 13 6 1 true := ⟨RX6, TX6, 20, rfl, uw_X6, by decide, nmX6, ⟨tyX6, tyX6_ok⟩, rfl, Or.inl qw_870⟩
theorem qw_871 : Cond.fieldLink RX6 16 "BustRestModel" "aside" "[I" ∈ qx_Wd := qx_in (List.mem_of_getElem? (l := lw_tbl) (i := 871) (by decide +kernel)) rfl
theorem qf_X6_16 : qx_Fd RX6 16 6 2 true := ⟨RX6, TX6, 20, rfl, uw_X6, by decide, nmX6, ⟨tyX6, tyX6_ok⟩, rfl, Or.inl qw_871⟩
theorem qw_873 : Cond.fieldLink RX6 19 "BustRestModel" "found" "[I" ∈ qx_Wd := qx_in (List.mem_of_getElem? (l := lw_tbl) (i := 873) (by decide +kernel)) rfl
theorem qf_X6_19 : qx_Fd RX6 19 6 4 true := ⟨RX6, TX6, 20, rfl, uw_X6, by decide, nmX6, ⟨tyX6, tyX6_ok⟩, rfl, Or.inl qw_873⟩
theorem qw_874 : Cond.fieldLink RX6 22 "BustRestModel" "tape" "[I" ∈ qx_Wd := qx_in (List.mem_of_getElem? (l := lw_tbl) (i := 874) (by decide +kernel)) rfl
theorem qf_X6_22 : qx_Fd RX6 22 6 5 true := ⟨RX6, TX6, 20, rfl, uw_X6, by decide, nmX6, ⟨tyX6, tyX6_ok⟩, rfl, Or.inl qw_874⟩
theorem qw_881 : Cond.fieldLink RX6 41 "BustRestModel" "kindNames" "[Ljava/lang/String;" ∈ qx_Wd := qx_in (List.mem_of_getElem? (l := lw_tbl) (i := 881) (by decide +kernel)) rfl
theorem qf_X6_41 : qx_Fd RX6 41 6 12 true := ⟨RX6, TX6, 20, rfl, uw_X6, by decide, nmX6, ⟨tyX6, tyX6_ok⟩, rfl, Or.inl qw_881⟩
theorem qw_882 : Cond.fieldLink RX6 45 "BustRestModel" "items" "[I" ∈ qx_Wd := qx_in (List.mem_of_getElem? (l := lw_tbl) (i := 882) (by decide +kernel)) rfl
theorem qf_X6_45 : qx_Fd RX6 45 6 13 true := ⟨RX6, TX6, 20, rfl, uw_X6, by decide, nmX6, ⟨tyX6, tyX6_ok⟩, rfl, Or.inl qw_882⟩
theorem qw_885 : Cond.fieldLink RX6 48 "BustRestModel" "widths" "[I" ∈ qx_Wd := qx_in (List.mem_of_getElem? (l := lw_tbl) (i := 885) (by decide +kernel)) rfl
theorem qf_X6_48 : qx_Fd RX6 48 6 16 true := ⟨RX6, TX6, 20, rfl, uw_X6, by decide, nmX6, ⟨tyX6, tyX6_ok⟩, rfl, Or.inl qw_885⟩
theorem qw_886 : Cond.fieldLink RX6 51 "BustRestModel" "sizes" "[I" ∈ qx_Wd := qx_in (List.mem_of_getElem? (l := lw_tbl) (i := 886) (by decide +kernel)) rfl
theorem qf_X6_51 : qx_Fd RX6 51 6 17 true := ⟨RX6, TX6, 20, rfl, uw_X6, by decide, nmX6, ⟨tyX6, tyX6_ok⟩, rfl, Or.inl qw_886⟩
theorem qw_887 : Cond.fieldLink RX6 54 "BustRestModel" "numbers" "[I" ∈ qx_Wd := qx_in (List.mem_of_getElem? (l := lw_tbl) (i := 887) (by decide +kernel)) rfl
theorem qf_X6_54 : qx_Fd RX6 54 6 18 true := ⟨RX6, TX6, 20, rfl, uw_X6, by decide, nmX6, ⟨tyX6, tyX6_ok⟩, rfl, Or.inl qw_887⟩
theorem qw_888 : Cond.fieldLink RX6 57 "BustRestModel" "moved" "[I" ∈ qx_Wd := qx_in (List.mem_of_getElem? (l := lw_tbl) (i := 888) (by decide +kernel)) rfl
theorem qf_X6_57 : qx_Fd RX6 57 6 19 true := ⟨RX6, TX6, 20, rfl, uw_X6, by decide, nmX6, ⟨tyX6, tyX6_ok⟩, rfl, Or.inl qw_888⟩
theorem qw_875 : Cond.fieldLink RX6 243 "BustRestModel" "taped" "I" ∈ qx_Wd := qx_in (List.mem_of_getElem? (l := lw_tbl) (i := 875) (by decide +kernel)) rfl
theorem qf_X6_243 : qx_Fd RX6 243 6 6 false := ⟨RX6, TX6, 20, rfl, uw_X6, by decide, nmX6, ⟨tyX6, tyX6_ok⟩, rfl, Or.inl qw_875⟩
theorem qw_877 : Cond.fieldLink RX6 247 "BustRestModel" "ends" "I" ∈ qx_Wd := qx_in (List.mem_of_getElem? (l := lw_tbl) (i := 877) (by decide +kernel)) rfl
theorem qf_X6_247 : qx_Fd RX6 247 6 8 false := ⟨RX6, TX6, 20, rfl, uw_X6, by decide, nmX6, ⟨tyX6, tyX6_ok⟩, rfl, Or.inl qw_877⟩
theorem qw_876 : Cond.fieldLink RX6 250 "BustRestModel" "begins" "I" ∈ qx_Wd := qx_in (List.mem_of_getElem? (l := lw_tbl) (i := 876) (by decide +kernel)) rfl
theorem qf_X6_250 : qx_Fd RX6 250 6 7 false := ⟨RX6, TX6, 20, rfl, uw_X6, by decide, nmX6, ⟨tyX6, tyX6_ok⟩, rfl, Or.inl qw_876⟩
theorem qw_879 : Cond.fieldLink RX6 256 "BustRestModel" "value" "I" ∈ qx_Wd := qx_in (List.mem_of_getElem? (l := lw_tbl) (i := 879) (by decide +kernel)) rfl
theorem qf_X6_256 : qx_Fd RX6 256 6 10 false := ⟨RX6, TX6, 20, rfl, uw_X6, by decide, nmX6, ⟨tyX6, tyX6_ok⟩, rfl, Or.inl qw_879⟩
theorem qw_878 : Cond.fieldLink RX6 259 "BustRestModel" "sort" "I" ∈ qx_Wd := qx_in (List.mem_of_getElem? (l := lw_tbl) (i := 878) (by decide +kernel)) rfl
theorem qf_X6_259 : qx_Fd RX6 259 6 9 false := ⟨RX6, TX6, 20, rfl, uw_X6, by decide, nmX6, ⟨tyX6, tyX6_ok⟩, rfl, Or.inl qw_878⟩
theorem qw_880 : Cond.fieldLink RX6 269 "BustRestModel" "isWrong" "Z" ∈ qx_Wd := qx_in (List.mem_of_getElem? (l := lw_tbl) (i := 880) (by decide +kernel)) rfl
theorem qf_X6_269 : qx_Fd RX6 269 6 11 false := ⟨RX6, TX6, 20, rfl, uw_X6, by decide, nmX6, ⟨tyX6, tyX6_ok⟩, rfl, Or.inl qw_880⟩
theorem qw_883 : Cond.fieldLink RX6 280 "BustRestModel" "itemMany" "I" ∈ qx_Wd := qx_in (List.mem_of_getElem? (l := lw_tbl) (i := 883) (by decide +kernel)) rfl
theorem qf_X6_280 : qx_Fd RX6 280 6 14 false := ⟨RX6, TX6, 20, rfl, uw_X6, by decide, nmX6, ⟨tyX6, tyX6_ok⟩, rfl, Or.inl qw_883⟩
theorem qw_884 : Cond.fieldLink RX6 287 "BustRestModel" "bustsThen" "I" ∈ qx_Wd := qx_in (List.mem_of_getElem? (l := lw_tbl) (i := 884) (by decide +kernel)) rfl
theorem qf_X6_287 : qx_Fd RX6 287 6 15 false := ⟨RX6, TX6, 20, rfl, uw_X6, by decide, nmX6, ⟨tyX6, tyX6_ok⟩, rfl, Or.inl qw_884⟩
theorem qw_872 : Cond.fieldLink RX6 332 "BustRestModel" "isKept" "Z" ∈ qx_Wd := qx_in (List.mem_of_getElem? (l := lw_tbl) (i := 872) (by decide +kernel)) rfl
theorem qf_X6_332 : qx_Fd RX6 332 6 3 false := ⟨RX6, TX6, 20, rfl, uw_X6, by decide, nmX6, ⟨tyX6, tyX6_ok⟩, rfl, Or.inl qw_872⟩
theorem qw_1360 : Cond.fieldLink RJ0 9 "java/lang/String" "value" "[B" ∈ qx_Wd := qx_in (List.mem_of_getElem? (l := lw_tbl) (i := 1360) (by decide +kernel)) rfl
theorem qw_1361 : Cond.fieldLink RJ0 15 "java/lang/String" "coder" "B" ∈ qx_Wd := qx_in (List.mem_of_getElem? (l := lw_tbl) (i := 1361) (by decide +kernel)) rfl
theorem qw_693 : Cond.fieldLink RJ0 38 "java/lang/String" "COMPACT_STRINGS" "Z" ∈ qx_Wd := qx_in (List.mem_of_getElem? (l := lw_tbl) (i := 693) (by decide +kernel)) rfl
theorem qw_709 : Cond.fieldLink RJ0 1053 "jdk/internal/util/Preconditions" "SIOOBE_FORMATTER" "Ljava/util/function/BiFunction;" ∈ qx_Wd := qx_in (List.mem_of_getElem? (l := lw_tbl) (i := 709) (by decide +kernel)) rfl
theorem qw_727 : Cond.fieldLink RJ2 44 "java/lang/StringUTF16" "$assertionsDisabled" "Z" ∈ qx_Wd := qx_in (List.mem_of_getElem? (l := lw_tbl) (i := 727) (by decide +kernel)) rfl
theorem qw_729 : Cond.fieldLink RJ2 59 "java/lang/StringUTF16" "HI_BYTE_SHIFT" "I" ∈ qx_Wd := qx_in (List.mem_of_getElem? (l := lw_tbl) (i := 729) (by decide +kernel)) rfl
theorem qw_731 : Cond.fieldLink RJ2 63 "java/lang/StringUTF16" "LO_BYTE_SHIFT" "I" ∈ qx_Wd := qx_in (List.mem_of_getElem? (l := lw_tbl) (i := 731) (by decide +kernel)) rfl
theorem qw_321 : Cond.constant RX5 57 (-1000001) ∈ qx_Wd := qx_in (List.mem_of_getElem? (l := lw_tbl) (i := 321) (by decide +kernel)) rfl
theorem qw_346 : Cond.constant RX5 72 (-1000002) ∈ qx_Wd := qx_in (List.mem_of_getElem? (l := lw_tbl) (i := 346) (by decide +kernel)) rfl
theorem qw_419 : Cond.constant RX5 99 (-1000004) ∈ qx_Wd := qx_in (List.mem_of_getElem? (l := lw_tbl) (i := 419) (by decide +kernel)) rfl
theorem qw_425 : Cond.constant RX5 107 (-1000005) ∈ qx_Wd := qx_in (List.mem_of_getElem? (l := lw_tbl) (i := 425) (by decide +kernel)) rfl
theorem qw_434 : Cond.constant RX5 118 (99999) ∈ qx_Wd := qx_in (List.mem_of_getElem? (l := lw_tbl) (i := 434) (by decide +kernel)) rfl
theorem qw_605 : Cond.constant RX5 217 (-1000006) ∈ qx_Wd := qx_in (List.mem_of_getElem? (l := lw_tbl) (i := 605) (by decide +kernel)) rfl
theorem qw_794 : Cond.constant RX5 221 (-1000003) ∈ qx_Wd := qx_in (List.mem_of_getElem? (l := lw_tbl) (i := 794) (by decide +kernel)) rfl
theorem qw_799 : Cond.constant RX5 225 (-1000007) ∈ qx_Wd := qx_in (List.mem_of_getElem? (l := lw_tbl) (i := 799) (by decide +kernel)) rfl
theorem qw_471 : Cond.constant RX1 82 (99999) ∈ qx_Wd := qx_in (List.mem_of_getElem? (l := lw_tbl) (i := 471) (by decide +kernel)) rfl
theorem qw_627 : Cond.constant RX1 109 (1103515245) ∈ qx_Wd := qx_in (List.mem_of_getElem? (l := lw_tbl) (i := 627) (by decide +kernel)) rfl
theorem qw_947 : Cond.constant RX6 60 (-1000001) ∈ qx_Wd := qx_in (List.mem_of_getElem? (l := lw_tbl) (i := 947) (by decide +kernel)) rfl
theorem qw_1064 : Cond.constant RX6 65 (-1000004) ∈ qx_Wd := qx_in (List.mem_of_getElem? (l := lw_tbl) (i := 1064) (by decide +kernel)) rfl
theorem qw_973 : Cond.constant RX6 97 (-1000002) ∈ qx_Wd := qx_in (List.mem_of_getElem? (l := lw_tbl) (i := 973) (by decide +kernel)) rfl
theorem qw_1069 : Cond.constant RX6 158 (-1000005) ∈ qx_Wd := qx_in (List.mem_of_getElem? (l := lw_tbl) (i := 1069) (by decide +kernel)) rfl
theorem qw_1078 : Cond.constant RX6 180 (99999) ∈ qx_Wd := qx_in (List.mem_of_getElem? (l := lw_tbl) (i := 1078) (by decide +kernel)) rfl
theorem qw_1209 : Cond.constant RX6 227 (-1000006) ∈ qx_Wd := qx_in (List.mem_of_getElem? (l := lw_tbl) (i := 1209) (by decide +kernel)) rfl
theorem qw_1230 : Cond.constant RX6 239 (1103515245) ∈ qx_Wd := qx_in (List.mem_of_getElem? (l := lw_tbl) (i := 1230) (by decide +kernel)) rfl
theorem qw_1315 : Cond.constant RX6 324 (-1000003) ∈ qx_Wd := qx_in (List.mem_of_getElem? (l := lw_tbl) (i := 1315) (by decide +kernel)) rfl
theorem qw_1320 : Cond.constant RX6 325 (-1000007) ∈ qx_Wd := qx_in (List.mem_of_getElem? (l := lw_tbl) (i := 1320) (by decide +kernel)) rfl
theorem qw_366 : Cond.constant RJ6 265 (1431655765) ∈ qx_Wd := qx_in (List.mem_of_getElem? (l := lw_tbl) (i := 366) (by decide +kernel)) rfl
theorem qw_367 : Cond.constant RJ6 266 (858993459) ∈ qx_Wd := qx_in (List.mem_of_getElem? (l := lw_tbl) (i := 367) (by decide +kernel)) rfl
theorem qw_368 : Cond.constant RJ6 267 (252645135) ∈ qx_Wd := qx_in (List.mem_of_getElem? (l := lw_tbl) (i := 368) (by decide +kernel)) rfl
theorem qw_133 : Cond.code yX5_init cX5_init 2 none ∈ qx_Wd := qx_in (List.mem_of_getElem? (l := lw_tbl) (i := 133) (by decide +kernel)) rfl
theorem qw_115 : Cond.initialized RX5 ∈ qx_Wd := qx_in (List.mem_of_getElem? (l := lw_tbl) (i := 115) (by decide +kernel)) rfl
theorem qc_X5_init : qx_Cd yX5_init cX5_init 2 none 0 := ⟨qw_115, qw_133, by decide +kernel, by decide +kernel, by decide +kernel⟩
theorem qw_405 : Cond.code yX5_accepts cX5_accepts 3 ((some .int)) ∈ qx_Wd := qx_in (List.mem_of_getElem? (l := lw_tbl) (i := 405) (by decide +kernel)) rfl
theorem qc_X5_accepts : qx_Cd yX5_accepts cX5_accepts 3 (some .int) 2 := ⟨qw_115, qw_405, by decide +kernel, by decide +kernel, by decide +kernel⟩
theorem qw_504 : Cond.code yX5_ahead cX5_ahead 5 ((some .int)) ∈ qx_Wd := qx_in (List.mem_of_getElem? (l := lw_tbl) (i := 504) (by decide +kernel)) rfl
theorem qc_X5_ahead : qx_Cd yX5_ahead cX5_ahead 5 (some .int) 3 := ⟨qw_115, qw_504, by decide +kernel, by decide +kernel, by decide +kernel⟩
theorem qw_787 : Cond.code yX5_as cX5_as 4 ((some .int)) ∈ qx_Wd := qx_in (List.mem_of_getElem? (l := lw_tbl) (i := 787) (by decide +kernel)) rfl
theorem qc_X5_as : qx_Cd yX5_as cX5_as 4 (some .int) 2 := ⟨qw_115, qw_787, by decide +kernel, by decide +kernel, by decide +kernel⟩
theorem qw_508 : Cond.code yX5_beginTrial cX5_beginTrial 1 none ∈ qx_Wd := qx_in (List.mem_of_getElem? (l := lw_tbl) (i := 508) (by decide +kernel)) rfl
theorem qc_X5_beginTrial : qx_Cd yX5_beginTrial cX5_beginTrial 1 none 0 := ⟨qw_115, qw_508, by decide +kernel, by decide +kernel, by decide +kernel⟩
theorem qw_317 : Cond.code yX5_bequest cX5_bequest 4 ((some .int)) ∈ qx_Wd := qx_in (List.mem_of_getElem? (l := lw_tbl) (i := 317) (by decide +kernel)) rfl
theorem qc_X5_bequest : qx_Cd yX5_bequest cX5_bequest 4 (some .int) 2 := ⟨qw_115, qw_317, by decide +kernel, by decide +kernel, by decide +kernel⟩
theorem qw_337 : Cond.code yX5_bust cX5_bust 4 ((some .int)) ∈ qx_Wd := qx_in (List.mem_of_getElem? (l := lw_tbl) (i := 337) (by decide +kernel)) rfl
theorem qc_X5_bust : qx_Cd yX5_bust cX5_bust 4 (some .int) 2 := ⟨qw_115, qw_337, by decide +kernel, by decide +kernel, by decide +kernel⟩
theorem qw_618 : Cond.code yX5_chance cX5_chance 3 ((some .int)) ∈ qx_Wd := qx_in (List.mem_of_getElem? (l := lw_tbl) (i := 618) (by decide +kernel)) rfl
theorem qc_X5_chance : qx_Cd yX5_chance cX5_chance 3 (some .int) 1 := ⟨qw_115, qw_618, by decide +kernel, by decide +kernel, by decide +kernel⟩
theorem qw_395 : Cond.code yX5_change cX5_change 5 ((some .int)) ∈ qx_Wd := qx_in (List.mem_of_getElem? (l := lw_tbl) (i := 395) (by decide +kernel)) rfl
theorem qc_X5_change : qx_Cd yX5_change cX5_change 5 (some .int) 3 := ⟨qw_115, qw_395, by decide +kernel, by decide +kernel, by decide +kernel⟩
theorem qw_815 : Cond.code yX5_copy cX5_copy 6 ((some .int)) ∈ qx_Wd := qx_in (List.mem_of_getElem? (l := lw_tbl) (i := 815) (by decide +kernel)) rfl
theorem qc_X5_copy : qx_Cd yX5_copy cX5_copy 6 (some .int) 5 := ⟨qw_115, qw_815, by decide +kernel, by decide +kernel, by decide +kernel⟩
theorem qw_845 : Cond.code yX5_count cX5_count 2 ((some .int)) ∈ qx_Wd := qx_in (List.mem_of_getElem? (l := lw_tbl) (i := 845) (by decide +kernel)) rfl
theorem qc_X5_count : qx_Cd yX5_count cX5_count 2 (some .int) 1 := ⟨qw_115, qw_845, by decide +kernel, by decide +kernel, by decide +kernel⟩
theorem qw_549 : Cond.code yX5_dateFor cX5_dateFor 5 ((some .int)) ∈ qx_Wd := qx_in (List.mem_of_getElem? (l := lw_tbl) (i := 549) (by decide +kernel)) rfl
theorem qc_X5_dateFor : qx_Cd yX5_dateFor cX5_dateFor 5 (some .int) 3 := ⟨qw_115, qw_549, by decide +kernel, by decide +kernel, by decide +kernel⟩
theorem qw_536 : Cond.code yX5_daysUntil cX5_daysUntil 5 ((some .int)) ∈ qx_Wd := qx_in (List.mem_of_getElem? (l := lw_tbl) (i := 536) (by decide +kernel)) rfl
theorem qc_X5_daysUntil : qx_Cd yX5_daysUntil cX5_daysUntil 5 (some .int) 3 := ⟨qw_115, qw_536, by decide +kernel, by decide +kernel, by decide +kernel⟩
theorem qw_642 : Cond.code yX5_feed cX5_feed 4 ((some .int)) ∈ qx_Wd := qx_in (List.mem_of_getElem? (l := lw_tbl) (i := 642) (by decide +kernel)) rfl
theorem qc_X5_feed : qx_Cd yX5_feed cX5_feed 4 (some .int) 2 := ⟨qw_115, qw_642, by decide +kernel, by decide +kernel, by decide +kernel⟩
theorem qw_596 : Cond.code yX5_findingOfSheet cX5_findingOfSheet 2 ((some .int)) ∈ qx_Wd := qx_in (List.mem_of_getElem? (l := lw_tbl) (i := 596) (by decide +kernel)) rfl
theorem qc_X5_findingOfSheet : qx_Cd yX5_findingOfSheet cX5_findingOfSheet 2 (some .int) 1 := ⟨qw_115, qw_596, by decide +kernel, by decide +kernel, by decide +kernel⟩
theorem qw_592 : Cond.code yX5_findingOfVoices cX5_findingOfVoices 4 ((some .int)) ∈ qx_Wd := qx_in (List.mem_of_getElem? (l := lw_tbl) (i := 592) (by decide +kernel)) rfl
theorem qc_X5_findingOfVoices : qx_Cd yX5_findingOfVoices cX5_findingOfVoices 4 (some .int) 2 := ⟨qw_115, qw_592, by decide +kernel, by decide +kernel, by decide +kernel⟩
theorem qw_588 : Cond.code yX5_fits cX5_fits 6 ((some .int)) ∈ qx_Wd := qx_in (List.mem_of_getElem? (l := lw_tbl) (i := 588) (by decide +kernel)) rfl
theorem qc_X5_fits : qx_Cd yX5_fits cX5_fits 6 (some .int) 2 := ⟨qw_115, qw_588, by decide +kernel, by decide +kernel, by decide +kernel⟩
theorem qw_325 : Cond.code yX5_found cX5_found 3 ((some .int)) ∈ qx_Wd := qx_in (List.mem_of_getElem? (l := lw_tbl) (i := 325) (by decide +kernel)) rfl
theorem qc_X5_found : qx_Cd yX5_found cX5_found 3 (some .int) 1 := ⟨qw_115, qw_325, by decide +kernel, by decide +kernel, by decide +kernel⟩
theorem qw_423 : Cond.code yX5_give cX5_give 4 ((some .int)) ∈ qx_Wd := qx_in (List.mem_of_getElem? (l := lw_tbl) (i := 423) (by decide +kernel)) rfl
theorem qc_X5_give : qx_Cd yX5_give cX5_give 4 (some .int) 2 := ⟨qw_115, qw_423, by decide +kernel, by decide +kernel, by decide +kernel⟩
theorem qw_433 : Cond.code yX5_go cX5_go 2 ((some .int)) ∈ qx_Wd := qx_in (List.mem_of_getElem? (l := lw_tbl) (i := 433) (by decide +kernel)) rfl
theorem qc_X5_go : qx_Cd yX5_go cX5_go 2 (some .int) 1 := ⟨qw_115, qw_433, by decide +kernel, by decide +kernel, by decide +kernel⟩
theorem qw_557 : Cond.code yX5_hasByDate cX5_hasByDate 5 ((some .boolean)) ∈ qx_Wd := qx_in (List.mem_of_getElem? (l := lw_tbl) (i := 557) (by decide +kernel)) rfl
theorem qc_X5_hasByDate : qx_Cd yX5_hasByDate cX5_hasByDate 5 (some .boolean) 4 := ⟨qw_115, qw_557, by decide +kernel, by decide +kernel, by decide +kernel⟩
theorem qw_413 : Cond.code yX5_heir cX5_heir 3 ((some .int)) ∈ qx_Wd := qx_in (List.mem_of_getElem? (l := lw_tbl) (i := 413) (by decide +kernel)) rfl
theorem qc_X5_heir : qx_Cd yX5_heir cX5_heir 3 (some .int) 1 := ⟨qw_115, qw_413, by decide +kernel, by decide +kernel, by decide +kernel⟩
theorem qw_783 : Cond.code yX5_hold cX5_hold 3 ((some .int)) ∈ qx_Wd := qx_in (List.mem_of_getElem? (l := lw_tbl) (i := 783) (by decide +kernel)) rfl
theorem qc_X5_hold : qx_Cd yX5_hold cX5_hold 3 (some .int) 2 := ⟨qw_115, qw_783, by decide +kernel, by decide +kernel, by decide +kernel⟩
theorem qw_833 : Cond.code yX5_image cX5_image 1 ((some .int)) ∈ qx_Wd := qx_in (List.mem_of_getElem? (l := lw_tbl) (i := 833) (by decide +kernel)) rfl
theorem qc_X5_image : qx_Cd yX5_image cX5_image 1 (some .int) 0 := ⟨qw_115, qw_833, by decide +kernel, by decide +kernel, by decide +kernel⟩
theorem qw_354 : Cond.code yX5_isBust cX5_isBust 2 ((some .boolean)) ∈ qx_Wd := qx_in (List.mem_of_getElem? (l := lw_tbl) (i := 354) (by decide +kernel)) rfl
theorem qc_X5_isBust : qx_Cd yX5_isBust cX5_isBust 2 (some .boolean) 1 := ⟨qw_115, qw_354, by decide +kernel, by decide +kernel, by decide +kernel⟩
theorem qw_600 : Cond.code yX5_isSheet cX5_isSheet 2 ((some .boolean)) ∈ qx_Wd := qx_in (List.mem_of_getElem? (l := lw_tbl) (i := 600) (by decide +kernel)) rfl
theorem qc_X5_isSheet : qx_Cd yX5_isSheet cX5_isSheet 2 (some .boolean) 1 := ⟨qw_115, qw_600, by decide +kernel, by decide +kernel, by decide +kernel⟩
theorem qw_829 : Cond.code yX5_judge cX5_judge 4 ((some .int)) ∈ qx_Wd := qx_in (List.mem_of_getElem? (l := lw_tbl) (i := 829) (by decide +kernel)) rfl
theorem qc_X5_judge : qx_Cd yX5_judge cX5_judge 4 (some .int) 1 := ⟨qw_115, qw_829, by decide +kernel, by decide +kernel, by decide +kernel⟩
theorem qw_584 : Cond.code yX5_keepsAll cX5_keepsAll 4 ((some .boolean)) ∈ qx_Wd := qx_in (List.mem_of_getElem? (l := lw_tbl) (i := 584) (by decide +kernel)) rfl
theorem qc_X5_keepsAll : qx_Cd yX5_keepsAll cX5_keepsAll 4 (some .boolean) 2 := ⟨qw_115, qw_584, by decide +kernel, by decide +kernel, by decide +kernel⟩
theorem qw_561 : Cond.code yX5_kindFor cX5_kindFor 7 ((some .int)) ∈ qx_Wd := qx_in (List.mem_of_getElem? (l := lw_tbl) (i := 561) (by decide +kernel)) rfl
theorem qc_X5_kindFor : qx_Cd yX5_kindFor cX5_kindFor 7 (some .int) 2 := ⟨qw_115, qw_561, by decide +kernel, by decide +kernel, by decide +kernel⟩
theorem qw_614 : Cond.code yX5_kinds cX5_kinds 6 ((some .int)) ∈ qx_Wd := qx_in (List.mem_of_getElem? (l := lw_tbl) (i := 614) (by decide +kernel)) rfl
theorem qc_X5_kinds : qx_Cd yX5_kinds cX5_kinds 6 (some .int) 2 := ⟨qw_115, qw_614, by decide +kernel, by decide +kernel, by decide +kernel⟩
theorem qw_532 : Cond.code yX5_leaves cX5_leaves 2 ((some .int)) ∈ qx_Wd := qx_in (List.mem_of_getElem? (l := lw_tbl) (i := 532) (by decide +kernel)) rfl
theorem qc_X5_leaves : qx_Cd yX5_leaves cX5_leaves 2 (some .int) 1 := ⟨qw_115, qw_532, by decide +kernel, by decide +kernel, by decide +kernel⟩
theorem qw_523 : Cond.code yX5_left cX5_left 2 ((some .int)) ∈ qx_Wd := qx_in (List.mem_of_getElem? (l := lw_tbl) (i := 523) (by decide +kernel)) rfl
theorem qc_X5_left : qx_Cd yX5_left cX5_left 2 (some .int) 1 := ⟨qw_115, qw_523, by decide +kernel, by decide +kernel, by decide +kernel⟩
theorem qw_329 : Cond.code yX5_listed cX5_listed 2 ((some .int)) ∈ qx_Wd := qx_in (List.mem_of_getElem? (l := lw_tbl) (i := 329) (by decide +kernel)) rfl
theorem qc_X5_listed : qx_Cd yX5_listed cX5_listed 2 (some .int) 1 := ⟨qw_115, qw_329, by decide +kernel, by decide +kernel, by decide +kernel⟩
theorem qw_824 : Cond.code yX5_load cX5_load 6 ((some .int)) ∈ qx_Wd := qx_in (List.mem_of_getElem? (l := lw_tbl) (i := 824) (by decide +kernel)) rfl
theorem qc_X5_load : qx_Cd yX5_load cX5_load 6 (some .int) 1 := ⟨qw_115, qw_824, by decide +kernel, by decide +kernel, by decide +kernel⟩
theorem qw_475 : Cond.code yX5_now cX5_now 2 ((some .int)) ∈ qx_Wd := qx_in (List.mem_of_getElem? (l := lw_tbl) (i := 475) (by decide +kernel)) rfl
theorem qc_X5_now : qx_Cd yX5_now cX5_now 2 (some .int) 1 := ⟨qw_115, qw_475, by decide +kernel, by decide +kernel, by decide +kernel⟩
theorem qw_631 : Cond.code yX5_odds cX5_odds 8 ((some .long)) ∈ qx_Wd := qx_in (List.mem_of_getElem? (l := lw_tbl) (i := 631) (by decide +kernel)) rfl
theorem qc_X5_odds : qx_Cd yX5_odds cX5_odds 8 (some .long) 3 := ⟨qw_115, qw_631, by decide +kernel, by decide +kernel, by decide +kernel⟩
theorem qw_350 : Cond.code yX5_of cX5_of 3 ((some .int)) ∈ qx_Wd := qx_in (List.mem_of_getElem? (l := lw_tbl) (i := 350) (by decide +kernel)) rfl
theorem qc_X5_of : qx_Cd yX5_of cX5_of 3 (some .int) 2 := ⟨qw_115, qw_350, by decide +kernel, by decide +kernel, by decide +kernel⟩
theorem qw_544 : Cond.code yX5_orderFor cX5_orderFor 8 ((some .int)) ∈ qx_Wd := qx_in (List.mem_of_getElem? (l := lw_tbl) (i := 544) (by decide +kernel)) rfl
theorem qc_X5_orderFor : qx_Cd yX5_orderFor cX5_orderFor 8 (some .int) 3 := ⟨qw_115, qw_544, by decide +kernel, by decide +kernel, by decide +kernel⟩
theorem qw_566 : Cond.code yX5_pathTo cX5_pathTo 4 ((some .int)) ∈ qx_Wd := qx_in (List.mem_of_getElem? (l := lw_tbl) (i := 566) (by decide +kernel)) rfl
theorem qc_X5_pathTo : qx_Cd yX5_pathTo cX5_pathTo 4 (some .int) 2 := ⟨qw_115, qw_566, by decide +kernel, by decide +kernel, by decide +kernel⟩
theorem qw_634 : Cond.code yX5_power cX5_power 6 ((some .long)) ∈ qx_Wd := qx_in (List.mem_of_getElem? (l := lw_tbl) (i := 634) (by decide +kernel)) rfl
theorem qc_X5_power : qx_Cd yX5_power cX5_power 6 (some .long) 2 := ⟨qw_115, qw_634, by decide +kernel, by decide +kernel, by decide +kernel⟩
theorem qw_580 : Cond.code yX5_seal cX5_seal 5 ((some .int)) ∈ qx_Wd := qx_in (List.mem_of_getElem? (l := lw_tbl) (i := 580) (by decide +kernel)) rfl
theorem qc_X5_seal : qx_Cd yX5_seal cX5_seal 5 (some .int) 1 := ⟨qw_115, qw_580, by decide +kernel, by decide +kernel, by decide +kernel⟩
theorem qw_638 : Cond.code yX5_seed cX5_seed 3 ((some .int)) ∈ qx_Wd := qx_in (List.mem_of_getElem? (l := lw_tbl) (i := 638) (by decide +kernel)) rfl
theorem qc_X5_seed : qx_Cd yX5_seed cX5_seed 3 (some .int) 1 := ⟨qw_115, qw_638, by decide +kernel, by decide +kernel, by decide +kernel⟩
theorem qw_798 : Cond.code yX5_sheet cX5_sheet 4 ((some .int)) ∈ qx_Wd := qx_in (List.mem_of_getElem? (l := lw_tbl) (i := 798) (by decide +kernel)) rfl
theorem qc_X5_sheet : qx_Cd yX5_sheet cX5_sheet 4 (some .int) 3 := ⟨qw_115, qw_798, by decide +kernel, by decide +kernel, by decide +kernel⟩
theorem qw_853 : Cond.code yX5_status cX5_status 4 ((some .int)) ∈ qx_Wd := qx_in (List.mem_of_getElem? (l := lw_tbl) (i := 853) (by decide +kernel)) rfl
theorem qc_X5_status : qx_Cd yX5_status cX5_status 4 (some .int) 1 := ⟨qw_115, qw_853, by decide +kernel, by decide +kernel, by decide +kernel⟩
theorem qw_333 : Cond.code yX5_stored cX5_stored 2 ((some .int)) ∈ qx_Wd := qx_in (List.mem_of_getElem? (l := lw_tbl) (i := 333) (by decide +kernel)) rfl
theorem qc_X5_stored : qx_Cd yX5_stored cX5_stored 2 (some .int) 1 := ⟨qw_115, qw_333, by decide +kernel, by decide +kernel, by decide +kernel⟩
theorem qw_841 : Cond.code yX5_tear cX5_tear 2 ((some .int)) ∈ qx_Wd := qx_in (List.mem_of_getElem? (l := lw_tbl) (i := 841) (by decide +kernel)) rfl
theorem qc_X5_tear : qx_Cd yX5_tear cX5_tear 2 (some .int) 0 := ⟨qw_115, qw_841, by decide +kernel, by decide +kernel, by decide +kernel⟩
theorem qw_654 : Cond.code yX5_text cX5_text 2 ((some .int)) ∈ qx_Wd := qx_in (List.mem_of_getElem? (l := lw_tbl) (i := 654) (by decide +kernel)) rfl
theorem qc_X5_text : qx_Cd yX5_text cX5_text 2 (some .int) 0 := ⟨qw_115, qw_654, by decide +kernel, by decide +kernel, by decide +kernel⟩
theorem qw_610 : Cond.code yX5_trialSays cX5_trialSays 5 ((some .boolean)) ∈ qx_Wd := qx_in (List.mem_of_getElem? (l := lw_tbl) (i := 610) (by decide +kernel)) rfl
theorem qc_X5_trialSays : qx_Cd yX5_trialSays cX5_trialSays 5 (some .boolean) 2 := ⟨qw_115, qw_610, by decide +kernel, by decide +kernel, by decide +kernel⟩
theorem qw_837 : Cond.code yX5_undo cX5_undo 1 ((some .int)) ∈ qx_Wd := qx_in (List.mem_of_getElem? (l := lw_tbl) (i := 837) (by decide +kernel)) rfl
theorem qc_X5_undo : qx_Cd yX5_undo cX5_undo 1 (some .int) 0 := ⟨qw_115, qw_837, by decide +kernel, by decide +kernel, by decide +kernel⟩
theorem qw_540 : Cond.code yX5_voice cX5_voice 3 ((some .int)) ∈ qx_Wd := qx_in (List.mem_of_getElem? (l := lw_tbl) (i := 540) (by decide +kernel)) rfl
theorem qc_X5_voice : qx_Cd yX5_voice cX5_voice 3 (some .int) 2 := ⟨qw_115, qw_540, by decide +kernel, by decide +kernel, by decide +kernel⟩
theorem qw_527 : Cond.code yX5_when cX5_when 4 ((some .int)) ∈ qx_Wd := qx_in (List.mem_of_getElem? (l := lw_tbl) (i := 527) (by decide +kernel)) rfl
theorem qc_X5_when : qx_Cd yX5_when cX5_when 4 (some .int) 2 := ⟨qw_115, qw_527, by decide +kernel, by decide +kernel, by decide +kernel⟩
theorem qw_650 : Cond.code yX5_wipe cX5_wipe 2 ((some .int)) ∈ qx_Wd := qx_in (List.mem_of_getElem? (l := lw_tbl) (i := 650) (by decide +kernel)) rfl
theorem qc_X5_wipe : qx_Cd yX5_wipe cX5_wipe 2 (some .int) 0 := ⟨qw_115, qw_650, by decide +kernel, by decide +kernel, by decide +kernel⟩
theorem qw_320 : Cond.code yX5_within cX5_within 2 ((some .boolean)) ∈ qx_Wd := qx_in (List.mem_of_getElem? (l := lw_tbl) (i := 320) (by decide +kernel)) rfl
theorem qc_X5_within : qx_Cd yX5_within cX5_within 2 (some .boolean) 2 := ⟨qw_115, qw_320, by decide +kernel, by decide +kernel, by decide +kernel⟩
theorem qw_807 : Cond.code yX5_write cX5_write 5 ((some .int)) ∈ qx_Wd := qx_in (List.mem_of_getElem? (l := lw_tbl) (i := 807) (by decide +kernel)) rfl
theorem qc_X5_write : qx_Cd yX5_write cX5_write 5 (some .int) 3 := ⟨qw_115, qw_807, by decide +kernel, by decide +kernel, by decide +kernel⟩
theorem qw_148 : Cond.code yX0_init cX0_init 1 none ∈ qx_Wd := qx_in (List.mem_of_getElem? (l := lw_tbl) (i := 148) (by decide +kernel)) rfl
theorem qw_117 : Cond.initialized RX0 ∈ qx_Wd := qx_in (List.mem_of_getElem? (l := lw_tbl) (i := 117) (by decide +kernel)) rfl
theorem qc_X0_init : qx_Cd yX0_init cX0_init 1 none 0 := ⟨qw_117, qw_148, by decide +kernel, by decide +kernel, by decide +kernel⟩
theorem qw_401 : Cond.code yX0_become cX0_become 3 none ∈ qx_Wd := qx_in (List.mem_of_getElem? (l := lw_tbl) (i := 401) (by decide +kernel)) rfl
theorem qc_X0_become : qx_Cd yX0_become cX0_become 3 none 2 := ⟨qw_117, qw_401, by decide +kernel, by decide +kernel, by decide +kernel⟩
theorem qw_345 : Cond.code yX0_begin cX0_begin 3 none ∈ qx_Wd := qx_in (List.mem_of_getElem? (l := lw_tbl) (i := 345) (by decide +kernel)) rfl
theorem qc_X0_begin : qx_Cd yX0_begin cX0_begin 3 none 2 := ⟨qw_117, qw_345, by decide +kernel, by decide +kernel, by decide +kernel⟩
theorem qw_519 : Cond.code yX0_copyFrom cX0_copyFrom 2 none ∈ qx_Wd := qx_in (List.mem_of_getElem? (l := lw_tbl) (i := 519) (by decide +kernel)) rfl
theorem qc_X0_copyFrom : qx_Cd yX0_copyFrom cX0_copyFrom 2 none 1 := ⟨qw_117, qw_519, by decide +kernel, by decide +kernel, by decide +kernel⟩
theorem qw_391 : Cond.code yX0_greatestPart cX0_greatestPart 2 ((some .int)) ∈ qx_Wd := qx_in (List.mem_of_getElem? (l := lw_tbl) (i := 391) (by decide +kernel)) rfl
theorem qc_X0_greatestPart : qx_Cd yX0_greatestPart cX0_greatestPart 2 (some .int) 0 := ⟨qw_117, qw_391, by decide +kernel, by decide +kernel, by decide +kernel⟩
theorem qw_372 : Cond.code yX0_hasPart cX0_hasPart 2 ((some .boolean)) ∈ qx_Wd := qx_in (List.mem_of_getElem? (l := lw_tbl) (i := 372) (by decide +kernel)) rfl
theorem qc_X0_hasPart : qx_Cd yX0_hasPart cX0_hasPart 2 (some .boolean) 1 := ⟨qw_117, qw_372, by decide +kernel, by decide +kernel, by decide +kernel⟩
theorem qw_791 : Cond.code yX0_isA cX0_isA 4 ((some .boolean)) ∈ qx_Wd := qx_in (List.mem_of_getElem? (l := lw_tbl) (i := 791) (by decide +kernel)) rfl
theorem qc_X0_isA : qx_Cd yX0_isA cX0_isA 4 (some .boolean) 1 := ⟨qw_117, qw_791, by decide +kernel, by decide +kernel, by decide +kernel⟩
theorem qw_379 : Cond.code yX0_leavesWith cX0_leavesWith 4 ((some .int)) ∈ qx_Wd := qx_in (List.mem_of_getElem? (l := lw_tbl) (i := 379) (by decide +kernel)) rfl
theorem qc_X0_leavesWith : qx_Cd yX0_leavesWith cX0_leavesWith 4 (some .int) 0 := ⟨qw_117, qw_379, by decide +kernel, by decide +kernel, by decide +kernel⟩
theorem qw_570 : Cond.code yX0_pathUpTo cX0_pathUpTo 4 ((some .int)) ∈ qx_Wd := qx_in (List.mem_of_getElem? (l := lw_tbl) (i := 570) (by decide +kernel)) rfl
theorem qc_X0_pathUpTo : qx_Cd yX0_pathUpTo cX0_pathUpTo 4 (some .int) 1 := ⟨qw_117, qw_570, by decide +kernel, by decide +kernel, by decide +kernel⟩
theorem qw_429 : Cond.code yX0_receive cX0_receive 2 none ∈ qx_Wd := qx_in (List.mem_of_getElem? (l := lw_tbl) (i := 429) (by decide +kernel)) rfl
theorem qc_X0_receive : qx_Cd yX0_receive cX0_receive 2 none 1 := ⟨qw_117, qw_429, by decide +kernel, by decide +kernel, by decide +kernel⟩
theorem qw_387 : Cond.code yX0_says cX0_says 5 ((some .int)) ∈ qx_Wd := qx_in (List.mem_of_getElem? (l := lw_tbl) (i := 387) (by decide +kernel)) rfl
theorem qc_X0_says : qx_Cd yX0_says cX0_says 5 (some .int) 0 := ⟨qw_117, qw_387, by decide +kernel, by decide +kernel, by decide +kernel⟩
theorem qw_383 : Cond.code yX0_stepsInADay cX0_stepsInADay 4 ((some .int)) ∈ qx_Wd := qx_in (List.mem_of_getElem? (l := lw_tbl) (i := 383) (by decide +kernel)) rfl
theorem qc_X0_stepsInADay : qx_Cd yX0_stepsInADay cX0_stepsInADay 4 (some .int) 0 := ⟨qw_117, qw_383, by decide +kernel, by decide +kernel, by decide +kernel⟩
theorem qw_409 : Cond.code yX0_takes cX0_takes 5 ((some .boolean)) ∈ qx_Wd := qx_in (List.mem_of_getElem? (l := lw_tbl) (i := 409) (by decide +kernel)) rfl
theorem qc_X0_takes : qx_Cd yX0_takes cX0_takes 5 (some .boolean) 1 := ⟨qw_117, qw_409, by decide +kernel, by decide +kernel, by decide +kernel⟩
theorem qw_575 : Cond.code yX0_takesBehind cX0_takesBehind 4 ((some .boolean)) ∈ qx_Wd := qx_in (List.mem_of_getElem? (l := lw_tbl) (i := 575) (by decide +kernel)) rfl
theorem qc_X0_takesBehind : qx_Cd yX0_takesBehind cX0_takesBehind 4 (some .boolean) 1 := ⟨qw_117, qw_575, by decide +kernel, by decide +kernel, by decide +kernel⟩
theorem qw_358 : Cond.code yX0_told cX0_told 2 ((some .int)) ∈ qx_Wd := qx_in (List.mem_of_getElem? (l := lw_tbl) (i := 358) (by decide +kernel)) rfl
theorem qc_X0_told : qx_Cd yX0_told cX0_told 2 (some .int) 1 := ⟨qw_117, qw_358, by decide +kernel, by decide +kernel, by decide +kernel⟩
theorem qw_469 : Cond.code yX0_wouldWalk cX0_wouldWalk 1 ((some .boolean)) ∈ qx_Wd := qx_in (List.mem_of_getElem? (l := lw_tbl) (i := 469) (by decide +kernel)) rfl
theorem qc_X0_wouldWalk : qx_Cd yX0_wouldWalk cX0_wouldWalk 1 (some .boolean) 0 := ⟨qw_117, qw_469, by decide +kernel, by decide +kernel, by decide +kernel⟩
theorem qw_464 : Cond.code yX0_yearn cX0_yearn 2 none ∈ qx_Wd := qx_in (List.mem_of_getElem? (l := lw_tbl) (i := 464) (by decide +kernel)) rfl
theorem qc_X0_yearn : qx_Cd yX0_yearn cX0_yearn 2 none 1 := ⟨qw_117, qw_464, by decide +kernel, by decide +kernel, by decide +kernel⟩
theorem qw_362 : Cond.code yX0_yearnsMore cX0_yearnsMore 5 ((some .int)) ∈ qx_Wd := qx_in (List.mem_of_getElem? (l := lw_tbl) (i := 362) (by decide +kernel)) rfl
theorem qc_X0_yearnsMore : qx_Cd yX0_yearnsMore cX0_yearnsMore 5 (some .int) 0 := ⟨qw_117, qw_362, by decide +kernel, by decide +kernel, by decide +kernel⟩
theorem qw_141 : Cond.code yX1_init cX1_init 2 none ∈ qx_Wd := qx_in (List.mem_of_getElem? (l := lw_tbl) (i := 141) (by decide +kernel)) rfl
theorem qw_116 : Cond.initialized RX1 ∈ qx_Wd := qx_in (List.mem_of_getElem? (l := lw_tbl) (i := 116) (by decide +kernel)) rfl
theorem qc_X1_init : qx_Cd yX1_init cX1_init 2 none 0 := ⟨qw_116, qw_141, by decide +kernel, by decide +kernel, by decide +kernel⟩
theorem qw_341 : Cond.code yX1_addBust cX1_addBust 3 ((some .int)) ∈ qx_Wd := qx_in (List.mem_of_getElem? (l := lw_tbl) (i := 341) (by decide +kernel)) rfl
theorem qc_X1_addBust : qx_Cd yX1_addBust cX1_addBust 3 (some .int) 2 := ⟨qw_116, qw_341, by decide +kernel, by decide +kernel, by decide +kernel⟩
theorem qw_451 : Cond.code yX1_bequeath cX1_bequeath 3 none ∈ qx_Wd := qx_in (List.mem_of_getElem? (l := lw_tbl) (i := 451) (by decide +kernel)) rfl
theorem qc_X1_bequeath : qx_Cd yX1_bequeath cX1_bequeath 3 none 2 := ⟨qw_116, qw_451, by decide +kernel, by decide +kernel, by decide +kernel⟩
theorem qw_483 : Cond.code yX1_completeBusts cX1_completeBusts 3 ((some .int)) ∈ qx_Wd := qx_in (List.mem_of_getElem? (l := lw_tbl) (i := 483) (by decide +kernel)) rfl
theorem qc_X1_completeBusts : qx_Cd yX1_completeBusts cX1_completeBusts 3 (some .int) 0 := ⟨qw_116, qw_483, by decide +kernel, by decide +kernel, by decide +kernel⟩
theorem qw_512 : Cond.code yX1_copyFrom cX1_copyFrom 3 none ∈ qx_Wd := qx_in (List.mem_of_getElem? (l := lw_tbl) (i := 512) (by decide +kernel)) rfl
theorem qc_X1_copyFrom : qx_Cd yX1_copyFrom cX1_copyFrom 3 none 1 := ⟨qw_116, qw_512, by decide +kernel, by decide +kernel, by decide +kernel⟩
theorem qw_626 : Cond.code yX1_draw cX1_draw 1 ((some .int)) ∈ qx_Wd := qx_in (List.mem_of_getElem? (l := lw_tbl) (i := 626) (by decide +kernel)) rfl
theorem qc_X1_draw : qx_Cd yX1_draw cX1_draw 1 (some .int) 0 := ⟨qw_116, qw_626, by decide +kernel, by decide +kernel, by decide +kernel⟩
theorem qw_500 : Cond.code yX1_goneBusts cX1_goneBusts 3 ((some .int)) ∈ qx_Wd := qx_in (List.mem_of_getElem? (l := lw_tbl) (i := 500) (by decide +kernel)) rfl
theorem qc_X1_goneBusts : qx_Cd yX1_goneBusts cX1_goneBusts 3 (some .int) 0 := ⟨qw_116, qw_500, by decide +kernel, by decide +kernel, by decide +kernel⟩
theorem qw_417 : Cond.code yX1_heirOf cX1_heirOf 5 ((some .int)) ∈ qx_Wd := qx_in (List.mem_of_getElem? (l := lw_tbl) (i := 417) (by decide +kernel)) rfl
theorem qc_X1_heirOf : qx_Cd yX1_heirOf cX1_heirOf 5 (some .int) 1 := ⟨qw_116, qw_417, by decide +kernel, by decide +kernel, by decide +kernel⟩
theorem qw_491 : Cond.code yX1_loudest cX1_loudest 4 ((some .int)) ∈ qx_Wd := qx_in (List.mem_of_getElem? (l := lw_tbl) (i := 491) (by decide +kernel)) rfl
theorem qc_X1_loudest : qx_Cd yX1_loudest cX1_loudest 4 (some .int) 0 := ⟨qw_116, qw_491, by decide +kernel, by decide +kernel, by decide +kernel⟩
theorem qw_553 : Cond.code yX1_mayDifferAt cX1_mayDifferAt 4 ((some .boolean)) ∈ qx_Wd := qx_in (List.mem_of_getElem? (l := lw_tbl) (i := 553) (by decide +kernel)) rfl
theorem qc_X1_mayDifferAt : qx_Cd yX1_mayDifferAt cX1_mayDifferAt 4 (some .boolean) 2 := ⟨qw_116, qw_553, by decide +kernel, by decide +kernel, by decide +kernel⟩
theorem qw_442 : Cond.code yX1_passDay cX1_passDay 3 none ∈ qx_Wd := qx_in (List.mem_of_getElem? (l := lw_tbl) (i := 442) (by decide +kernel)) rfl
theorem qc_X1_passDay : qx_Cd yX1_passDay cX1_passDay 3 none 0 := ⟨qw_116, qw_442, by decide +kernel, by decide +kernel, by decide +kernel⟩
theorem qw_622 : Cond.code yX1_passDayByDraws cX1_passDayByDraws 3 none ∈ qx_Wd := qx_in (List.mem_of_getElem? (l := lw_tbl) (i := 622) (by decide +kernel)) rfl
theorem qc_X1_passDayByDraws : qx_Cd yX1_passDayByDraws cX1_passDayByDraws 3 none 0 := ⟨qw_116, qw_622, by decide +kernel, by decide +kernel, by decide +kernel⟩
theorem qw_459 : Cond.code yX1_passDayOf cX1_passDayOf 2 none ∈ qx_Wd := qx_in (List.mem_of_getElem? (l := lw_tbl) (i := 459) (by decide +kernel)) rfl
theorem qc_X1_passDayOf : qx_Cd yX1_passDayOf cX1_passDayOf 2 none 1 := ⟨qw_116, qw_459, by decide +kernel, by decide +kernel, by decide +kernel⟩
theorem qw_438 : Cond.code yX1_passDays cX1_passDays 3 none ∈ qx_Wd := qx_in (List.mem_of_getElem? (l := lw_tbl) (i := 438) (by decide +kernel)) rfl
theorem qc_X1_passDays : qx_Cd yX1_passDays cX1_passDays 3 none 1 := ⟨qw_116, qw_438, by decide +kernel, by decide +kernel, by decide +kernel⟩
theorem qw_446 : Cond.code yX1_placeToday cX1_placeToday 1 ((some .int)) ∈ qx_Wd := qx_in (List.mem_of_getElem? (l := lw_tbl) (i := 446) (by decide +kernel)) rfl
theorem qc_X1_placeToday : qx_Cd yX1_placeToday cX1_placeToday 1 (some .int) 0 := ⟨qw_116, qw_446, by decide +kernel, by decide +kernel, by decide +kernel⟩
theorem qw_849 : Cond.code yX1_spotsTaken cX1_spotsTaken 3 ((some .int)) ∈ qx_Wd := qx_in (List.mem_of_getElem? (l := lw_tbl) (i := 849) (by decide +kernel)) rfl
theorem qc_X1_spotsTaken : qx_Cd yX1_spotsTaken cX1_spotsTaken 3 (some .int) 0 := ⟨qw_116, qw_849, by decide +kernel, by decide +kernel, by decide +kernel⟩
theorem qw_479 : Cond.code yX1_storedTogether cX1_storedTogether 3 ((some .int)) ∈ qx_Wd := qx_in (List.mem_of_getElem? (l := lw_tbl) (i := 479) (by decide +kernel)) rfl
theorem qc_X1_storedTogether : qx_Cd yX1_storedTogether cX1_storedTogether 3 (some .int) 0 := ⟨qw_116, qw_479, by decide +kernel, by decide +kernel, by decide +kernel⟩
theorem qw_487 : Cond.code yX1_walkers cX1_walkers 3 ((some .int)) ∈ qx_Wd := qx_in (List.mem_of_getElem? (l := lw_tbl) (i := 487) (by decide +kernel)) rfl
theorem qc_X1_walkers : qx_Cd yX1_walkers cX1_walkers 3 (some .int) 0 := ⟨qw_116, qw_487, by decide +kernel, by decide +kernel, by decide +kernel⟩
theorem qw_496 : Cond.code yX1_yearningTogether cX1_yearningTogether 3 ((some .int)) ∈ qx_Wd := qx_in (List.mem_of_getElem? (l := lw_tbl) (i := 496) (by decide +kernel)) rfl
theorem qc_X1_yearningTogether : qx_Cd yX1_yearningTogether cX1_yearningTogether 3 (some .int) 0 := ⟨qw_116, qw_496, by decide +kernel, by decide +kernel, by decide +kernel⟩
theorem qw_274 : Cond.code yX2_init cX2_init 1 none ∈ qx_Wd := qx_in (List.mem_of_getElem? (l := lw_tbl) (i := 274) (by decide +kernel)) rfl
theorem qw_120 : Cond.initialized RX2 ∈ qx_Wd := qx_in (List.mem_of_getElem? (l := lw_tbl) (i := 120) (by decide +kernel)) rfl
theorem qc_X2_init : qx_Cd yX2_init cX2_init 1 none 0 := ⟨qw_120, qw_274, by decide +kernel, by decide +kernel, by decide +kernel⟩
theorem qw_803 : Cond.code yX2_begin cX2_begin 4 none ∈ qx_Wd := qx_in (List.mem_of_getElem? (l := lw_tbl) (i := 803) (by decide +kernel)) rfl
theorem qc_X2_begin : qx_Cd yX2_begin cX2_begin 4 none 2 := ⟨qw_120, qw_803, by decide +kernel, by decide +kernel, by decide +kernel⟩
theorem qw_604 : Cond.code yX2_isMissing cX2_isMissing 1 ((some .boolean)) ∈ qx_Wd := qx_in (List.mem_of_getElem? (l := lw_tbl) (i := 604) (by decide +kernel)) rfl
theorem qc_X2_isMissing : qx_Cd yX2_isMissing cX2_isMissing 1 (some .boolean) 0 := ⟨qw_120, qw_604, by decide +kernel, by decide +kernel, by decide +kernel⟩
theorem qw_811 : Cond.code yX2_put cX2_put 3 none ∈ qx_Wd := qx_in (List.mem_of_getElem? (l := lw_tbl) (i := 811) (by decide +kernel)) rfl
theorem qc_X2_put : qx_Cd yX2_put cX2_put 3 none 2 := ⟨qw_120, qw_811, by decide +kernel, by decide +kernel, by decide +kernel⟩
theorem qw_819 : Cond.code yX2_spans cX2_spans 3 ((some .boolean)) ∈ qx_Wd := qx_in (List.mem_of_getElem? (l := lw_tbl) (i := 819) (by decide +kernel)) rfl
theorem qc_X2_spans : qx_Cd yX2_spans cX2_spans 3 (some .boolean) 2 := ⟨qw_120, qw_819, by decide +kernel, by decide +kernel, by decide +kernel⟩
theorem qw_225 : Cond.code yX3_init cX3_init 1 none ∈ qx_Wd := qx_in (List.mem_of_getElem? (l := lw_tbl) (i := 225) (by decide +kernel)) rfl
theorem qw_118 : Cond.initialized RX3 ∈ qx_Wd := qx_in (List.mem_of_getElem? (l := lw_tbl) (i := 118) (by decide +kernel)) rfl
theorem qc_X3_init : qx_Cd yX3_init cX3_init 1 none 0 := ⟨qw_118, qw_225, by decide +kernel, by decide +kernel, by decide +kernel⟩
theorem qw_646 : Cond.code yX3_append cX3_append 2 none ∈ qx_Wd := qx_in (List.mem_of_getElem? (l := lw_tbl) (i := 646) (by decide +kernel)) rfl
theorem qc_X3_append : qx_Cd yX3_append cX3_append 2 none 1 := ⟨qw_118, qw_646, by decide +kernel, by decide +kernel, by decide +kernel⟩
theorem qw_674 : Cond.code yX3_isDigit cX3_isDigit 2 ((some .boolean)) ∈ qx_Wd := qx_in (List.mem_of_getElem? (l := lw_tbl) (i := 674) (by decide +kernel)) rfl
theorem qc_X3_isDigit : qx_Cd yX3_isDigit cX3_isDigit 2 (some .boolean) 1 := ⟨qw_118, qw_674, by decide +kernel, by decide +kernel, by decide +kernel⟩
theorem qw_670 : Cond.code yX3_isLetter cX3_isLetter 2 ((some .boolean)) ∈ qx_Wd := qx_in (List.mem_of_getElem? (l := lw_tbl) (i := 670) (by decide +kernel)) rfl
theorem qc_X3_isLetter : qx_Cd yX3_isLetter cX3_isLetter 2 (some .boolean) 1 := ⟨qw_118, qw_670, by decide +kernel, by decide +kernel, by decide +kernel⟩
theorem qw_745 : Cond.code yX3_isNumber cX3_isNumber 2 ((some .boolean)) ∈ qx_Wd := qx_in (List.mem_of_getElem? (l := lw_tbl) (i := 745) (by decide +kernel)) rfl
theorem qc_X3_isNumber : qx_Cd yX3_isNumber cX3_isNumber 2 (some .boolean) 1 := ⟨qw_118, qw_745, by decide +kernel, by decide +kernel, by decide +kernel⟩
theorem qw_684 : Cond.code yX3_isWord cX3_isWord 3 ((some .boolean)) ∈ qx_Wd := qx_in (List.mem_of_getElem? (l := lw_tbl) (i := 684) (by decide +kernel)) rfl
theorem qc_X3_isWord : qx_Cd yX3_isWord cX3_isWord 3 (some .boolean) 1 := ⟨qw_118, qw_684, by decide +kernel, by decide +kernel, by decide +kernel⟩
theorem qw_666 : Cond.code yX3_readToken cX3_readToken 1 none ∈ qx_Wd := qx_in (List.mem_of_getElem? (l := lw_tbl) (i := 666) (by decide +kernel)) rfl
theorem qc_X3_readToken : qx_Cd yX3_readToken cX3_readToken 1 none 0 := ⟨qw_118, qw_666, by decide +kernel, by decide +kernel, by decide +kernel⟩
theorem qw_662 : Cond.code yX3_rewind cX3_rewind 1 none ∈ qx_Wd := qx_in (List.mem_of_getElem? (l := lw_tbl) (i := 662) (by decide +kernel)) rfl
theorem qc_X3_rewind : qx_Cd yX3_rewind cX3_rewind 1 none 0 := ⟨qw_118, qw_662, by decide +kernel, by decide +kernel, by decide +kernel⟩
theorem qw_254 : Cond.code yX4_init cX4_init 3 none ∈ qx_Wd := qx_in (List.mem_of_getElem? (l := lw_tbl) (i := 254) (by decide +kernel)) rfl
theorem qw_119 : Cond.initialized RX4 ∈ qx_Wd := qx_in (List.mem_of_getElem? (l := lw_tbl) (i := 119) (by decide +kernel)) rfl
theorem qc_X4_init : qx_Cd yX4_init cX4_init 3 none 2 := ⟨qw_119, qw_254, by decide +kernel, by decide +kernel, by decide +kernel⟩
theorem qw_736 : Cond.code yX4_readBequest cX4_readBequest 1 ((some .boolean)) ∈ qx_Wd := qx_in (List.mem_of_getElem? (l := lw_tbl) (i := 736) (by decide +kernel)) rfl
theorem qc_X4_readBequest : qx_Cd yX4_readBequest cX4_readBequest 1 (some .boolean) 0 := ⟨qw_119, qw_736, by decide +kernel, by decide +kernel, by decide +kernel⟩
theorem qw_764 : Cond.code yX4_readBust cX4_readBust 4 ((some .boolean)) ∈ qx_Wd := qx_in (List.mem_of_getElem? (l := lw_tbl) (i := 764) (by decide +kernel)) rfl
theorem qc_X4_readBust : qx_Cd yX4_readBust cX4_readBust 4 (some .boolean) 1 := ⟨qw_119, qw_764, by decide +kernel, by decide +kernel, by decide +kernel⟩
theorem qw_679 : Cond.code yX4_readItem cX4_readItem 2 ((some .boolean)) ∈ qx_Wd := qx_in (List.mem_of_getElem? (l := lw_tbl) (i := 679) (by decide +kernel)) rfl
theorem qc_X4_readItem : qx_Cd yX4_readItem cX4_readItem 2 (some .boolean) 0 := ⟨qw_119, qw_679, by decide +kernel, by decide +kernel, by decide +kernel⟩
theorem qw_770 : Cond.code yX4_readMore cX4_readMore 4 ((some .boolean)) ∈ qx_Wd := qx_in (List.mem_of_getElem? (l := lw_tbl) (i := 770) (by decide +kernel)) rfl
theorem qc_X4_readMore : qx_Cd yX4_readMore cX4_readMore 4 (some .boolean) 3 := ⟨qw_119, qw_770, by decide +kernel, by decide +kernel, by decide +kernel⟩
theorem qw_777 : Cond.code yX4_readSeal cX4_readSeal 2 ((some .boolean)) ∈ qx_Wd := qx_in (List.mem_of_getElem? (l := lw_tbl) (i := 777) (by decide +kernel)) rfl
theorem qc_X4_readSeal : qx_Cd yX4_readSeal cX4_readSeal 2 (some .boolean) 1 := ⟨qw_119, qw_777, by decide +kernel, by decide +kernel, by decide +kernel⟩
theorem qw_750 : Cond.code yX4_readStore cX4_readStore 1 ((some .boolean)) ∈ qx_Wd := qx_in (List.mem_of_getElem? (l := lw_tbl) (i := 750) (by decide +kernel)) rfl
theorem qc_X4_readStore : qx_Cd yX4_readStore cX4_readStore 1 (some .boolean) 0 := ⟨qw_119, qw_750, by decide +kernel, by decide +kernel, by decide +kernel⟩
theorem qw_658 : Cond.code yX4_readText cX4_readText 2 ((some .int)) ∈ qx_Wd := qx_in (List.mem_of_getElem? (l := lw_tbl) (i := 658) (by decide +kernel)) rfl
theorem qc_X4_readText : qx_Cd yX4_readText cX4_readText 2 (some .int) 0 := ⟨qw_119, qw_658, by decide +kernel, by decide +kernel, by decide +kernel⟩
theorem qw_740 : Cond.code yX4_readTwoNumbers cX4_readTwoNumbers 3 ((some .boolean)) ∈ qx_Wd := qx_in (List.mem_of_getElem? (l := lw_tbl) (i := 740) (by decide +kernel)) rfl
theorem qc_X4_readTwoNumbers : qx_Cd yX4_readTwoNumbers cX4_readTwoNumbers 3 (some .boolean) 2 := ⟨qw_119, qw_740, by decide +kernel, by decide +kernel, by decide +kernel⟩
theorem qw_753 : Cond.code yX4_wordOf cX4_wordOf 1 ((some (.object "java/lang/String"))) ∈ qx_Wd := qx_in (List.mem_of_getElem? (l := lw_tbl) (i := 753) (by decide +kernel)) rfl
theorem qc_X4_wordOf : qx_Cd yX4_wordOf cX4_wordOf 1 (some (.object "java/lang/String")) 1 := ⟨qw_119, qw_753, by decide +kernel, by decide +kernel, by decide +kernel⟩
theorem qw_858 : Cond.code yX6_init cX6_init 2 none ∈ qx_Wd := qx_in (List.mem_of_getElem? (l := lw_tbl) (i := 858) (by decide +kernel)) rfl
theorem qw_121 : Cond.initialized RX6 ∈ qx_Wd := qx_in (List.mem_of_getElem? (l := lw_tbl) (i := 121) (by decide +kernel)) rfl
theorem qc_X6_init : qx_Cd yX6_init cX6_init 2 none 0 := ⟨qw_121, qw_858, by decide +kernel, by decide +kernel, by decide +kernel⟩
theorem qw_1314 : Cond.code yX6_above cX6_above 1 ((some .int)) ∈ qx_Wd := qx_in (List.mem_of_getElem? (l := lw_tbl) (i := 1314) (by decide +kernel)) rfl
theorem qc_X6_above : qx_Cd yX6_above cX6_above 1 (some .int) 1 := ⟨qw_121, qw_1314, by decide +kernel, by decide +kernel, by decide +kernel⟩
theorem qw_1039 : Cond.code yX6_accepts cX6_accepts 3 ((some .int)) ∈ qx_Wd := qx_in (List.mem_of_getElem? (l := lw_tbl) (i := 1039) (by decide +kernel)) rfl
theorem qc_X6_accepts : qx_Cd yX6_accepts cX6_accepts 3 (some .int) 2 := ⟨qw_121, qw_1039, by decide +kernel, by decide +kernel, by decide +kernel⟩
theorem qw_1291 : Cond.code yX6_addItem cX6_addItem 7 none ∈ qx_Wd := qx_in (List.mem_of_getElem? (l := lw_tbl) (i := 1291) (by decide +kernel)) rfl
theorem qc_X6_addItem : qx_Cd yX6_addItem cX6_addItem 7 none 5 := ⟨qw_121, qw_1291, by decide +kernel, by decide +kernel, by decide +kernel⟩
theorem qw_1135 : Cond.code yX6_ahead cX6_ahead 5 ((some .int)) ∈ qx_Wd := qx_in (List.mem_of_getElem? (l := lw_tbl) (i := 1135) (by decide +kernel)) rfl
theorem qc_X6_ahead : qx_Cd yX6_ahead cX6_ahead 5 (some .int) 3 := ⟨qw_121, qw_1135, by decide +kernel, by decide +kernel, by decide +kernel⟩
theorem qw_1011 : Cond.code yX6_arms cX6_arms 2 ((some .int)) ∈ qx_Wd := qx_in (List.mem_of_getElem? (l := lw_tbl) (i := 1011) (by decide +kernel)) rfl
theorem qc_X6_arms : qx_Cd yX6_arms cX6_arms 2 (some .int) 1 := ⟨qw_121, qw_1011, by decide +kernel, by decide +kernel, by decide +kernel⟩
theorem qw_1308 : Cond.code yX6_as cX6_as 4 ((some .int)) ∈ qx_Wd := qx_in (List.mem_of_getElem? (l := lw_tbl) (i := 1308) (by decide +kernel)) rfl
theorem qc_X6_as : qx_Cd yX6_as cX6_as 4 (some .int) 2 := ⟨qw_121, qw_1308, by decide +kernel, by decide +kernel, by decide +kernel⟩
theorem qw_946 : Cond.code yX6_become cX6_become 4 ((some .int)) ∈ qx_Wd := qx_in (List.mem_of_getElem? (l := lw_tbl) (i := 946) (by decide +kernel)) rfl
theorem qc_X6_become : qx_Cd yX6_become cX6_become 4 (some .int) 2 := ⟨qw_121, qw_946, by decide +kernel, by decide +kernel, by decide +kernel⟩
theorem qw_1154 : Cond.code yX6_behind cX6_behind 3 ((some .int)) ∈ qx_Wd := qx_in (List.mem_of_getElem? (l := lw_tbl) (i := 1154) (by decide +kernel)) rfl
theorem qc_X6_behind : qx_Cd yX6_behind cX6_behind 3 (some .int) 2 := ⟨qw_121, qw_1154, by decide +kernel, by decide +kernel, by decide +kernel⟩
theorem qw_933 : Cond.code yX6_bequest cX6_bequest 3 ((some .int)) ∈ qx_Wd := qx_in (List.mem_of_getElem? (l := lw_tbl) (i := 933) (by decide +kernel)) rfl
theorem qc_X6_bequest : qx_Cd yX6_bequest cX6_bequest 3 (some .int) 2 := ⟨qw_121, qw_933, by decide +kernel, by decide +kernel, by decide +kernel⟩
theorem qw_1003 : Cond.code yX6_bits cX6_bits 3 ((some .int)) ∈ qx_Wd := qx_in (List.mem_of_getElem? (l := lw_tbl) (i := 1003) (by decide +kernel)) rfl
theorem qc_X6_bits : qx_Cd yX6_bits cX6_bits 3 (some .int) 1 := ⟨qw_121, qw_1003, by decide +kernel, by decide +kernel, by decide +kernel⟩
theorem qw_966 : Cond.code yX6_bust cX6_bust 3 ((some .int)) ∈ qx_Wd := qx_in (List.mem_of_getElem? (l := lw_tbl) (i := 966) (by decide +kernel)) rfl
theorem qc_X6_bust : qx_Cd yX6_bust cX6_bust 3 (some .int) 2 := ⟨qw_121, qw_966, by decide +kernel, by decide +kernel, by decide +kernel⟩
theorem qw_980 : Cond.code yX6_bustAt cX6_bustAt 2 ((some .int)) ∈ qx_Wd := qx_in (List.mem_of_getElem? (l := lw_tbl) (i := 980) (by decide +kernel)) rfl
theorem qc_X6_bustAt : qx_Cd yX6_bustAt cX6_bustAt 2 (some .int) 2 := ⟨qw_121, qw_980, by decide +kernel, by decide +kernel, by decide +kernel⟩
theorem qw_1000 : Cond.code yX6_bustIs cX6_bustIs 3 ((some .int)) ∈ qx_Wd := qx_in (List.mem_of_getElem? (l := lw_tbl) (i := 1000) (by decide +kernel)) rfl
theorem qc_X6_bustIs : qx_Cd yX6_bustIs cX6_bustIs 3 (some .int) 2 := ⟨qw_121, qw_1000, by decide +kernel, by decide +kernel, by decide +kernel⟩
theorem qw_1258 : Cond.code yX6_byteAt cX6_byteAt 2 ((some .int)) ∈ qx_Wd := qx_in (List.mem_of_getElem? (l := lw_tbl) (i := 1258) (by decide +kernel)) rfl
theorem qc_X6_byteAt : qx_Cd yX6_byteAt cX6_byteAt 2 (some .int) 1 := ⟨qw_121, qw_1258, by decide +kernel, by decide +kernel, by decide +kernel⟩
theorem qw_1225 : Cond.code yX6_chance cX6_chance 5 ((some .int)) ∈ qx_Wd := qx_in (List.mem_of_getElem? (l := lw_tbl) (i := 1225) (by decide +kernel)) rfl
theorem qc_X6_chance : qx_Cd yX6_chance cX6_chance 5 (some .int) 1 := ⟨qw_121, qw_1225, by decide +kernel, by decide +kernel, by decide +kernel⟩
theorem qw_1032 : Cond.code yX6_change cX6_change 4 ((some .int)) ∈ qx_Wd := qx_in (List.mem_of_getElem? (l := lw_tbl) (i := 1032) (by decide +kernel)) rfl
theorem qc_X6_change : qx_Cd yX6_change cX6_change 4 (some .int) 3 := ⟨qw_121, qw_1032, by decide +kernel, by decide +kernel, by decide +kernel⟩
theorem qw_977 : Cond.code yX6_comes cX6_comes 5 ((some .int)) ∈ qx_Wd := qx_in (List.mem_of_getElem? (l := lw_tbl) (i := 977) (by decide +kernel)) rfl
theorem qc_X6_comes : qx_Cd yX6_comes cX6_comes 5 (some .int) 2 := ⟨qw_121, qw_977, by decide +kernel, by decide +kernel, by decide +kernel⟩
theorem qw_1331 : Cond.code yX6_copy cX6_copy 7 ((some .int)) ∈ qx_Wd := qx_in (List.mem_of_getElem? (l := lw_tbl) (i := 1331) (by decide +kernel)) rfl
theorem qc_X6_copy : qx_Cd yX6_copy cX6_copy 7 (some .int) 5 := ⟨qw_121, qw_1331, by decide +kernel, by decide +kernel, by decide +kernel⟩
theorem qw_1142 : Cond.code yX6_copyRow cX6_copyRow 3 none ∈ qx_Wd := qx_in (List.mem_of_getElem? (l := lw_tbl) (i := 1142) (by decide +kernel)) rfl
theorem qc_X6_copyRow : qx_Cd yX6_copyRow cX6_copyRow 3 none 2 := ⟨qw_121, qw_1142, by decide +kernel, by decide +kernel, by decide +kernel⟩
theorem qw_1355 : Cond.code yX6_count cX6_count 4 ((some .int)) ∈ qx_Wd := qx_in (List.mem_of_getElem? (l := lw_tbl) (i := 1355) (by decide +kernel)) rfl
theorem qc_X6_count : qx_Cd yX6_count cX6_count 4 (some .int) 1 := ⟨qw_121, qw_1355, by decide +kernel, by decide +kernel, by decide +kernel⟩
theorem qw_1327 : Cond.code yX6_cutTo cX6_cutTo 2 ((some .int)) ∈ qx_Wd := qx_in (List.mem_of_getElem? (l := lw_tbl) (i := 1327) (by decide +kernel)) rfl
theorem qc_X6_cutTo : qx_Cd yX6_cutTo cX6_cutTo 2 (some .int) 2 := ⟨qw_121, qw_1327, by decide +kernel, by decide +kernel, by decide +kernel⟩
theorem qw_1177 : Cond.code yX6_dateFor cX6_dateFor 8 ((some .int)) ∈ qx_Wd := qx_in (List.mem_of_getElem? (l := lw_tbl) (i := 1177) (by decide +kernel)) rfl
theorem qc_X6_dateFor : qx_Cd yX6_dateFor cX6_dateFor 8 (some .int) 3 := ⟨qw_121, qw_1177, by decide +kernel, by decide +kernel, by decide +kernel⟩
theorem qw_1086 : Cond.code yX6_day cX6_day 3 none ∈ qx_Wd := qx_in (List.mem_of_getElem? (l := lw_tbl) (i := 1086) (by decide +kernel)) rfl
theorem qc_X6_day : qx_Cd yX6_day cX6_day 3 none 0 := ⟨qw_121, qw_1086, by decide +kernel, by decide +kernel, by decide +kernel⟩
theorem qw_1082 : Cond.code yX6_daysGo cX6_daysGo 3 none ∈ qx_Wd := qx_in (List.mem_of_getElem? (l := lw_tbl) (i := 1082) (by decide +kernel)) rfl
theorem qc_X6_daysGo : qx_Cd yX6_daysGo cX6_daysGo 3 none 1 := ⟨qw_121, qw_1082, by decide +kernel, by decide +kernel, by decide +kernel⟩
theorem qw_1229 : Cond.code yX6_drawn cX6_drawn 1 ((some .int)) ∈ qx_Wd := qx_in (List.mem_of_getElem? (l := lw_tbl) (i := 1229) (by decide +kernel)) rfl
theorem qc_X6_drawn : qx_Cd yX6_drawn cX6_drawn 1 (some .int) 0 := ⟨qw_121, qw_1229, by decide +kernel, by decide +kernel, by decide +kernel⟩
theorem qw_1242 : Cond.code yX6_feed cX6_feed 4 ((some .int)) ∈ qx_Wd := qx_in (List.mem_of_getElem? (l := lw_tbl) (i := 1242) (by decide +kernel)) rfl
theorem qc_X6_feed : qx_Cd yX6_feed cX6_feed 4 (some .int) 2 := ⟨qw_121, qw_1242, by decide +kernel, by decide +kernel, by decide +kernel⟩
theorem qw_951 : Cond.code yX6_finding cX6_finding 2 ((some .int)) ∈ qx_Wd := qx_in (List.mem_of_getElem? (l := lw_tbl) (i := 951) (by decide +kernel)) rfl
theorem qc_X6_finding : qx_Cd yX6_finding cX6_finding 2 (some .int) 1 := ⟨qw_121, qw_951, by decide +kernel, by decide +kernel, by decide +kernel⟩
theorem qw_1201 : Cond.code yX6_fits cX6_fits 4 ((some .int)) ∈ qx_Wd := qx_in (List.mem_of_getElem? (l := lw_tbl) (i := 1201) (by decide +kernel)) rfl
theorem qc_X6_fits : qx_Cd yX6_fits cX6_fits 4 (some .int) 2 := ⟨qw_121, qw_1201, by decide +kernel, by decide +kernel, by decide +kernel⟩
theorem qw_1213 : Cond.code yX6_fitting cX6_fitting 8 ((some .int)) ∈ qx_Wd := qx_in (List.mem_of_getElem? (l := lw_tbl) (i := 1213) (by decide +kernel)) rfl
theorem qc_X6_fitting : qx_Cd yX6_fitting cX6_fitting 8 (some .int) 4 := ⟨qw_121, qw_1213, by decide +kernel, by decide +kernel, by decide +kernel⟩
theorem qw_1073 : Cond.code yX6_gets cX6_gets 3 ((some .int)) ∈ qx_Wd := qx_in (List.mem_of_getElem? (l := lw_tbl) (i := 1073) (by decide +kernel)) rfl
theorem qc_X6_gets : qx_Cd yX6_gets cX6_gets 3 (some .int) 2 := ⟨qw_121, qw_1073, by decide +kernel, by decide +kernel, by decide +kernel⟩
theorem qw_1068 : Cond.code yX6_give cX6_give 3 ((some .int)) ∈ qx_Wd := qx_in (List.mem_of_getElem? (l := lw_tbl) (i := 1068) (by decide +kernel)) rfl
theorem qc_X6_give : qx_Cd yX6_give cX6_give 3 (some .int) 2 := ⟨qw_121, qw_1068, by decide +kernel, by decide +kernel, by decide +kernel⟩
theorem qw_1077 : Cond.code yX6_go cX6_go 2 ((some .int)) ∈ qx_Wd := qx_in (List.mem_of_getElem? (l := lw_tbl) (i := 1077) (by decide +kernel)) rfl
theorem qc_X6_go : qx_Cd yX6_go cX6_go 2 (some .int) 1 := ⟨qw_121, qw_1077, by decide +kernel, by decide +kernel, by decide +kernel⟩
theorem qw_1131 : Cond.code yX6_goneOnes cX6_goneOnes 3 ((some .int)) ∈ qx_Wd := qx_in (List.mem_of_getElem? (l := lw_tbl) (i := 1131) (by decide +kernel)) rfl
theorem qc_X6_goneOnes : qx_Cd yX6_goneOnes cX6_goneOnes 3 (some .int) 0 := ⟨qw_121, qw_1131, by decide +kernel, by decide +kernel, by decide +kernel⟩
theorem qw_1028 : Cond.code yX6_greatest cX6_greatest 3 ((some .int)) ∈ qx_Wd := qx_in (List.mem_of_getElem? (l := lw_tbl) (i := 1028) (by decide +kernel)) rfl
theorem qc_X6_greatest : qx_Cd yX6_greatest cX6_greatest 3 (some .int) 1 := ⟨qw_121, qw_1028, by decide +kernel, by decide +kernel, by decide +kernel⟩
theorem qw_1007 : Cond.code yX6_has cX6_has 3 ((some .boolean)) ∈ qx_Wd := qx_in (List.mem_of_getElem? (l := lw_tbl) (i := 1007) (by decide +kernel)) rfl
theorem qc_X6_has : qx_Cd yX6_has cX6_has 3 (some .boolean) 2 := ⟨qw_121, qw_1007, by decide +kernel, by decide +kernel, by decide +kernel⟩
theorem qw_1051 : Cond.code yX6_heir cX6_heir 2 ((some .int)) ∈ qx_Wd := qx_in (List.mem_of_getElem? (l := lw_tbl) (i := 1051) (by decide +kernel)) rfl
theorem qc_X6_heir : qx_Cd yX6_heir cX6_heir 2 (some .int) 1 := ⟨qw_121, qw_1051, by decide +kernel, by decide +kernel, by decide +kernel⟩
theorem qw_1055 : Cond.code yX6_heirOf cX6_heirOf 4 ((some .int)) ∈ qx_Wd := qx_in (List.mem_of_getElem? (l := lw_tbl) (i := 1055) (by decide +kernel)) rfl
theorem qc_X6_heirOf : qx_Cd yX6_heirOf cX6_heirOf 4 (some .int) 1 := ⟨qw_121, qw_1055, by decide +kernel, by decide +kernel, by decide +kernel⟩
theorem qw_1301 : Cond.code yX6_hold cX6_hold 3 ((some .int)) ∈ qx_Wd := qx_in (List.mem_of_getElem? (l := lw_tbl) (i := 1301) (by decide +kernel)) rfl
theorem qc_X6_hold : qx_Cd yX6_hold cX6_hold 3 (some .int) 2 := ⟨qw_121, qw_1301, by decide +kernel, by decide +kernel, by decide +kernel⟩
theorem qw_1343 : Cond.code yX6_image cX6_image 1 ((some .int)) ∈ qx_Wd := qx_in (List.mem_of_getElem? (l := lw_tbl) (i := 1343) (by decide +kernel)) rfl
theorem qc_X6_image : qx_Cd yX6_image cX6_image 1 (some .int) 0 := ⟨qw_121, qw_1343, by decide +kernel, by decide +kernel, by decide +kernel⟩
theorem qw_1111 : Cond.code yX6_inStore cX6_inStore 3 ((some .int)) ∈ qx_Wd := qx_in (List.mem_of_getElem? (l := lw_tbl) (i := 1111) (by decide +kernel)) rfl
theorem qc_X6_inStore : qx_Cd yX6_inStore cX6_inStore 3 (some .int) 0 := ⟨qw_121, qw_1111, by decide +kernel, by decide +kernel, by decide +kernel⟩
theorem qw_942 : Cond.code yX6_isBequest cX6_isBequest 1 ((some .boolean)) ∈ qx_Wd := qx_in (List.mem_of_getElem? (l := lw_tbl) (i := 942) (by decide +kernel)) rfl
theorem qc_X6_isBequest : qx_Cd yX6_isBequest cX6_isBequest 1 (some .boolean) 1 := ⟨qw_121, qw_942, by decide +kernel, by decide +kernel, by decide +kernel⟩
theorem qw_988 : Cond.code yX6_isBust cX6_isBust 2 ((some .boolean)) ∈ qx_Wd := qx_in (List.mem_of_getElem? (l := lw_tbl) (i := 988) (by decide +kernel)) rfl
theorem qc_X6_isBust : qx_Cd yX6_isBust cX6_isBust 2 (some .boolean) 1 := ⟨qw_121, qw_988, by decide +kernel, by decide +kernel, by decide +kernel⟩
theorem qw_972 : Cond.code yX6_isDate cX6_isDate 1 ((some .boolean)) ∈ qx_Wd := qx_in (List.mem_of_getElem? (l := lw_tbl) (i := 972) (by decide +kernel)) rfl
theorem qc_X6_isDate : qx_Cd yX6_isDate cX6_isDate 1 (some .boolean) 1 := ⟨qw_121, qw_972, by decide +kernel, by decide +kernel, by decide +kernel⟩
theorem qw_1035 : Cond.code yX6_isField cX6_isField 2 ((some .boolean)) ∈ qx_Wd := qx_in (List.mem_of_getElem? (l := lw_tbl) (i := 1035) (by decide +kernel)) rfl
theorem qc_X6_isField : qx_Cd yX6_isField cX6_isField 2 (some .boolean) 2 := ⟨qw_121, qw_1035, by decide +kernel, by decide +kernel, by decide +kernel⟩
theorem qw_1059 : Cond.code yX6_isGone cX6_isGone 2 ((some .boolean)) ∈ qx_Wd := qx_in (List.mem_of_getElem? (l := lw_tbl) (i := 1059) (by decide +kernel)) rfl
theorem qc_X6_isGone : qx_Cd yX6_isGone cX6_isGone 2 (some .boolean) 1 := ⟨qw_121, qw_1059, by decide +kernel, by decide +kernel, by decide +kernel⟩
theorem qw_969 : Cond.code yX6_isKind cX6_isKind 1 ((some .boolean)) ∈ qx_Wd := qx_in (List.mem_of_getElem? (l := lw_tbl) (i := 969) (by decide +kernel)) rfl
theorem qc_X6_isKind : qx_Cd yX6_isKind cX6_isKind 1 (some .boolean) 1 := ⟨qw_121, qw_969, by decide +kernel, by decide +kernel, by decide +kernel⟩
theorem qw_962 : Cond.code yX6_isPart cX6_isPart 1 ((some .boolean)) ∈ qx_Wd := qx_in (List.mem_of_getElem? (l := lw_tbl) (i := 962) (by decide +kernel)) rfl
theorem qc_X6_isPart : qx_Cd yX6_isPart cX6_isPart 1 (some .boolean) 1 := ⟨qw_121, qw_962, by decide +kernel, by decide +kernel, by decide +kernel⟩
theorem qw_936 : Cond.code yX6_isPlace cX6_isPlace 1 ((some .boolean)) ∈ qx_Wd := qx_in (List.mem_of_getElem? (l := lw_tbl) (i := 936) (by decide +kernel)) rfl
theorem qc_X6_isPlace : qx_Cd yX6_isPlace cX6_isPlace 1 (some .boolean) 1 := ⟨qw_121, qw_936, by decide +kernel, by decide +kernel, by decide +kernel⟩
theorem qw_1208 : Cond.code yX6_isSheet cX6_isSheet 1 ((some .boolean)) ∈ qx_Wd := qx_in (List.mem_of_getElem? (l := lw_tbl) (i := 1208) (by decide +kernel)) rfl
theorem qc_X6_isSheet : qx_Cd yX6_isSheet cX6_isSheet 1 (some .boolean) 1 := ⟨qw_121, qw_1208, by decide +kernel, by decide +kernel, by decide +kernel⟩
theorem qw_1217 : Cond.code yX6_isSo cX6_isSo 6 ((some .boolean)) ∈ qx_Wd := qx_in (List.mem_of_getElem? (l := lw_tbl) (i := 1217) (by decide +kernel)) rfl
theorem qc_X6_isSo : qx_Cd yX6_isSo cX6_isSo 6 (some .boolean) 2 := ⟨qw_121, qw_1217, by decide +kernel, by decide +kernel, by decide +kernel⟩
theorem qw_1304 : Cond.code yX6_isSpot cX6_isSpot 1 ((some .boolean)) ∈ qx_Wd := qx_in (List.mem_of_getElem? (l := lw_tbl) (i := 1304) (by decide +kernel)) rfl
theorem qc_X6_isSpot : qx_Cd yX6_isSpot cX6_isSpot 1 (some .boolean) 1 := ⟨qw_121, qw_1304, by decide +kernel, by decide +kernel, by decide +kernel⟩
theorem qw_1173 : Cond.code yX6_isThought cX6_isThought 1 ((some .boolean)) ∈ qx_Wd := qx_in (List.mem_of_getElem? (l := lw_tbl) (i := 1173) (by decide +kernel)) rfl
theorem qc_X6_isThought : qx_Cd yX6_isThought cX6_isThought 1 (some .boolean) 1 := ⟨qw_121, qw_1173, by decide +kernel, by decide +kernel, by decide +kernel⟩
theorem qw_1297 : Cond.code yX6_isToldSo cX6_isToldSo 5 none ∈ qx_Wd := qx_in (List.mem_of_getElem? (l := lw_tbl) (i := 1297) (by decide +kernel)) rfl
theorem qc_X6_isToldSo : qx_Cd yX6_isToldSo cX6_isToldSo 5 none 1 := ⟨qw_121, qw_1297, by decide +kernel, by decide +kernel, by decide +kernel⟩
theorem qw_1311 : Cond.code yX6_isUnder cX6_isUnder 3 ((some .boolean)) ∈ qx_Wd := qx_in (List.mem_of_getElem? (l := lw_tbl) (i := 1311) (by decide +kernel)) rfl
theorem qc_X6_isUnder : qx_Cd yX6_isUnder cX6_isUnder 3 (some .boolean) 2 := ⟨qw_121, qw_1311, by decide +kernel, by decide +kernel, by decide +kernel⟩
theorem qw_1266 : Cond.code yX6_isWord cX6_isWord 4 ((some .boolean)) ∈ qx_Wd := qx_in (List.mem_of_getElem? (l := lw_tbl) (i := 1266) (by decide +kernel)) rfl
theorem qc_X6_isWord : qx_Cd yX6_isWord cX6_isWord 4 (some .boolean) 1 := ⟨qw_121, qw_1266, by decide +kernel, by decide +kernel, by decide +kernel⟩
theorem qw_1339 : Cond.code yX6_judge cX6_judge 3 ((some .int)) ∈ qx_Wd := qx_in (List.mem_of_getElem? (l := lw_tbl) (i := 1339) (by decide +kernel)) rfl
theorem qc_X6_judge : qx_Cd yX6_judge cX6_judge 3 (some .int) 1 := ⟨qw_121, qw_1339, by decide +kernel, by decide +kernel, by decide +kernel⟩
theorem qw_1181 : Cond.code yX6_kindFor cX6_kindFor 9 ((some .int)) ∈ qx_Wd := qx_in (List.mem_of_getElem? (l := lw_tbl) (i := 1181) (by decide +kernel)) rfl
theorem qc_X6_kindFor : qx_Cd yX6_kindFor cX6_kindFor 9 (some .int) 2 := ⟨qw_121, qw_1181, by decide +kernel, by decide +kernel, by decide +kernel⟩
theorem qw_1221 : Cond.code yX6_kinds cX6_kinds 4 ((some .int)) ∈ qx_Wd := qx_in (List.mem_of_getElem? (l := lw_tbl) (i := 1221) (by decide +kernel)) rfl
theorem qc_X6_kinds : qx_Cd yX6_kinds cX6_kinds 4 (some .int) 2 := ⟨qw_121, qw_1221, by decide +kernel, by decide +kernel, by decide +kernel⟩
theorem qw_1205 : Cond.code yX6_lacks cX6_lacks 3 ((some .int)) ∈ qx_Wd := qx_in (List.mem_of_getElem? (l := lw_tbl) (i := 1205) (by decide +kernel)) rfl
theorem qc_X6_lacks : qx_Cd yX6_lacks cX6_lacks 3 (some .int) 2 := ⟨qw_121, qw_1205, by decide +kernel, by decide +kernel, by decide +kernel⟩
theorem qw_1189 : Cond.code yX6_leadsTo cX6_leadsTo 7 ((some .boolean)) ∈ qx_Wd := qx_in (List.mem_of_getElem? (l := lw_tbl) (i := 1189) (by decide +kernel)) rfl
theorem qc_X6_leadsTo : qx_Cd yX6_leadsTo cX6_leadsTo 7 (some .boolean) 3 := ⟨qw_121, qw_1189, by decide +kernel, by decide +kernel, by decide +kernel⟩
theorem qw_1162 : Cond.code yX6_leaves cX6_leaves 3 ((some .int)) ∈ qx_Wd := qx_in (List.mem_of_getElem? (l := lw_tbl) (i := 1162) (by decide +kernel)) rfl
theorem qc_X6_leaves : qx_Cd yX6_leaves cX6_leaves 3 (some .int) 1 := ⟨qw_121, qw_1162, by decide +kernel, by decide +kernel, by decide +kernel⟩
theorem qw_1016 : Cond.code yX6_leavesWith cX6_leavesWith 2 ((some .int)) ∈ qx_Wd := qx_in (List.mem_of_getElem? (l := lw_tbl) (i := 1016) (by decide +kernel)) rfl
theorem qc_X6_leavesWith : qx_Cd yX6_leavesWith cX6_leavesWith 2 (some .int) 1 := ⟨qw_121, qw_1016, by decide +kernel, by decide +kernel, by decide +kernel⟩
theorem qw_1150 : Cond.code yX6_left cX6_left 2 ((some .int)) ∈ qx_Wd := qx_in (List.mem_of_getElem? (l := lw_tbl) (i := 1150) (by decide +kernel)) rfl
theorem qc_X6_left : qx_Cd yX6_left cX6_left 2 (some .int) 1 := ⟨qw_121, qw_1150, by decide +kernel, by decide +kernel, by decide +kernel⟩
theorem qw_1047 : Cond.code yX6_likes cX6_likes 4 ((some .boolean)) ∈ qx_Wd := qx_in (List.mem_of_getElem? (l := lw_tbl) (i := 1047) (by decide +kernel)) rfl
theorem qc_X6_likes : qx_Cd yX6_likes cX6_likes 4 (some .boolean) 2 := ⟨qw_121, qw_1047, by decide +kernel, by decide +kernel, by decide +kernel⟩
theorem qw_955 : Cond.code yX6_listed cX6_listed 2 ((some .int)) ∈ qx_Wd := qx_in (List.mem_of_getElem? (l := lw_tbl) (i := 955) (by decide +kernel)) rfl
theorem qc_X6_listed : qx_Cd yX6_listed cX6_listed 2 (some .int) 1 := ⟨qw_121, qw_955, by decide +kernel, by decide +kernel, by decide +kernel⟩
theorem qw_1335 : Cond.code yX6_load cX6_load 3 ((some .int)) ∈ qx_Wd := qx_in (List.mem_of_getElem? (l := lw_tbl) (i := 1335) (by decide +kernel)) rfl
theorem qc_X6_load : qx_Cd yX6_load cX6_load 3 (some .int) 1 := ⟨qw_121, qw_1335, by decide +kernel, by decide +kernel, by decide +kernel⟩
theorem qw_1123 : Cond.code yX6_loudest cX6_loudest 3 ((some .int)) ∈ qx_Wd := qx_in (List.mem_of_getElem? (l := lw_tbl) (i := 1123) (by decide +kernel)) rfl
theorem qc_X6_loudest : qx_Cd yX6_loudest cX6_loudest 3 (some .int) 0 := ⟨qw_121, qw_1123, by decide +kernel, by decide +kernel, by decide +kernel⟩
theorem qw_1094 : Cond.code yX6_more cX6_more 4 none ∈ qx_Wd := qx_in (List.mem_of_getElem? (l := lw_tbl) (i := 1094) (by decide +kernel)) rfl
theorem qc_X6_more : qx_Cd yX6_more cX6_more 4 none 3 := ⟨qw_121, qw_1094, by decide +kernel, by decide +kernel, by decide +kernel⟩
theorem qw_1276 : Cond.code yX6_must cX6_must 2 none ∈ qx_Wd := qx_in (List.mem_of_getElem? (l := lw_tbl) (i := 1276) (by decide +kernel)) rfl
theorem qc_X6_must : qx_Cd yX6_must cX6_must 2 none 1 := ⟨qw_121, qw_1276, by decide +kernel, by decide +kernel, by decide +kernel⟩
theorem qw_1197 : Cond.code yX6_nobodyLeaves cX6_nobodyLeaves 5 ((some .boolean)) ∈ qx_Wd := qx_in (List.mem_of_getElem? (l := lw_tbl) (i := 1197) (by decide +kernel)) rfl
theorem qc_X6_nobodyLeaves : qx_Cd yX6_nobodyLeaves cX6_nobodyLeaves 5 (some .boolean) 2 := ⟨qw_121, qw_1197, by decide +kernel, by decide +kernel, by decide +kernel⟩
theorem qw_1107 : Cond.code yX6_now cX6_now 2 ((some .int)) ∈ qx_Wd := qx_in (List.mem_of_getElem? (l := lw_tbl) (i := 1107) (by decide +kernel)) rfl
theorem qc_X6_now : qx_Cd yX6_now cX6_now 2 (some .int) 1 := ⟨qw_121, qw_1107, by decide +kernel, by decide +kernel, by decide +kernel⟩
theorem qw_1280 : Cond.code yX6_number cX6_number 4 ((some .int)) ∈ qx_Wd := qx_in (List.mem_of_getElem? (l := lw_tbl) (i := 1280) (by decide +kernel)) rfl
theorem qc_X6_number : qx_Cd yX6_number cX6_number 4 (some .int) 2 := ⟨qw_121, qw_1280, by decide +kernel, by decide +kernel, by decide +kernel⟩
theorem qw_1234 : Cond.code yX6_odds cX6_odds 10 ((some .long)) ∈ qx_Wd := qx_in (List.mem_of_getElem? (l := lw_tbl) (i := 1234) (by decide +kernel)) rfl
theorem qc_X6_odds : qx_Cd yX6_odds cX6_odds 10 (some .long) 3 := ⟨qw_121, qw_1234, by decide +kernel, by decide +kernel, by decide +kernel⟩
theorem qw_984 : Cond.code yX6_of cX6_of 3 ((some .int)) ∈ qx_Wd := qx_in (List.mem_of_getElem? (l := lw_tbl) (i := 984) (by decide +kernel)) rfl
theorem qc_X6_of : qx_Cd yX6_of cX6_of 3 (some .int) 2 := ⟨qw_121, qw_984, by decide +kernel, by decide +kernel, by decide +kernel⟩
theorem qw_1063 : Cond.code yX6_orNone cX6_orNone 2 ((some .int)) ∈ qx_Wd := qx_in (List.mem_of_getElem? (l := lw_tbl) (i := 1063) (by decide +kernel)) rfl
theorem qc_X6_orNone : qx_Cd yX6_orNone cX6_orNone 2 (some .int) 1 := ⟨qw_121, qw_1063, by decide +kernel, by decide +kernel, by decide +kernel⟩
theorem qw_1170 : Cond.code yX6_orderFor cX6_orderFor 9 ((some .int)) ∈ qx_Wd := qx_in (List.mem_of_getElem? (l := lw_tbl) (i := 1170) (by decide +kernel)) rfl
theorem qc_X6_orderFor : qx_Cd yX6_orderFor cX6_orderFor 9 (some .int) 3 := ⟨qw_121, qw_1170, by decide +kernel, by decide +kernel, by decide +kernel⟩
theorem qw_1185 : Cond.code yX6_pathTo cX6_pathTo 5 ((some .int)) ∈ qx_Wd := qx_in (List.mem_of_getElem? (l := lw_tbl) (i := 1185) (by decide +kernel)) rfl
theorem qc_X6_pathTo : qx_Cd yX6_pathTo cX6_pathTo 5 (some .int) 2 := ⟨qw_121, qw_1185, by decide +kernel, by decide +kernel, by decide +kernel⟩
theorem qw_1090 : Cond.code yX6_placeNow cX6_placeNow 1 ((some .int)) ∈ qx_Wd := qx_in (List.mem_of_getElem? (l := lw_tbl) (i := 1090) (by decide +kernel)) rfl
theorem qc_X6_placeNow : qx_Cd yX6_placeNow cX6_placeNow 1 (some .int) 0 := ⟨qw_121, qw_1090, by decide +kernel, by decide +kernel, by decide +kernel⟩
theorem qw_1146 : Cond.code yX6_putBack cX6_putBack 2 ((some .int)) ∈ qx_Wd := qx_in (List.mem_of_getElem? (l := lw_tbl) (i := 1146) (by decide +kernel)) rfl
theorem qc_X6_putBack : qx_Cd yX6_putBack cX6_putBack 2 (some .int) 1 := ⟨qw_121, qw_1146, by decide +kernel, by decide +kernel, by decide +kernel⟩
theorem qw_1272 : Cond.code yX6_readBust cX6_readBust 5 none ∈ qx_Wd := qx_in (List.mem_of_getElem? (l := lw_tbl) (i := 1272) (by decide +kernel)) rfl
theorem qc_X6_readBust : qx_Cd yX6_readBust cX6_readBust 5 none 1 := ⟨qw_121, qw_1272, by decide +kernel, by decide +kernel, by decide +kernel⟩
theorem qw_1262 : Cond.code yX6_readItem cX6_readItem 3 none ∈ qx_Wd := qx_in (List.mem_of_getElem? (l := lw_tbl) (i := 1262) (by decide +kernel)) rfl
theorem qc_X6_readItem : qx_Cd yX6_readItem cX6_readItem 3 none 0 := ⟨qw_121, qw_1262, by decide +kernel, by decide +kernel, by decide +kernel⟩
theorem qw_1024 : Cond.code yX6_says cX6_says 4 ((some .int)) ∈ qx_Wd := qx_in (List.mem_of_getElem? (l := lw_tbl) (i := 1024) (by decide +kernel)) rfl
theorem qc_X6_says : qx_Cd yX6_says cX6_says 4 (some .int) 1 := ⟨qw_121, qw_1024, by decide +kernel, by decide +kernel, by decide +kernel⟩
theorem qw_1193 : Cond.code yX6_seal cX6_seal 4 ((some .int)) ∈ qx_Wd := qx_in (List.mem_of_getElem? (l := lw_tbl) (i := 1193) (by decide +kernel)) rfl
theorem qc_X6_seal : qx_Cd yX6_seal cX6_seal 4 (some .int) 1 := ⟨qw_121, qw_1193, by decide +kernel, by decide +kernel, by decide +kernel⟩
theorem qw_1238 : Cond.code yX6_seed cX6_seed 2 ((some .int)) ∈ qx_Wd := qx_in (List.mem_of_getElem? (l := lw_tbl) (i := 1238) (by decide +kernel)) rfl
theorem qc_X6_seed : qx_Cd yX6_seed cX6_seed 2 (some .int) 1 := ⟨qw_121, qw_1238, by decide +kernel, by decide +kernel, by decide +kernel⟩
theorem qw_1319 : Cond.code yX6_sheet cX6_sheet 5 ((some .int)) ∈ qx_Wd := qx_in (List.mem_of_getElem? (l := lw_tbl) (i := 1319) (by decide +kernel)) rfl
theorem qc_X6_sheet : qx_Cd yX6_sheet cX6_sheet 5 (some .int) 3 := ⟨qw_121, qw_1319, by decide +kernel, by decide +kernel, by decide +kernel⟩
theorem qw_1359 : Cond.code yX6_status cX6_status 2 ((some .int)) ∈ qx_Wd := qx_in (List.mem_of_getElem? (l := lw_tbl) (i := 1359) (by decide +kernel)) rfl
theorem qc_X6_status : qx_Cd yX6_status cX6_status 2 (some .int) 1 := ⟨qw_121, qw_1359, by decide +kernel, by decide +kernel, by decide +kernel⟩
theorem qw_1020 : Cond.code yX6_steps cX6_steps 2 ((some .int)) ∈ qx_Wd := qx_in (List.mem_of_getElem? (l := lw_tbl) (i := 1020) (by decide +kernel)) rfl
theorem qc_X6_steps : qx_Cd yX6_steps cX6_steps 2 (some .int) 1 := ⟨qw_121, qw_1020, by decide +kernel, by decide +kernel, by decide +kernel⟩
theorem qw_959 : Cond.code yX6_stored cX6_stored 2 ((some .int)) ∈ qx_Wd := qx_in (List.mem_of_getElem? (l := lw_tbl) (i := 959) (by decide +kernel)) rfl
theorem qc_X6_stored : qx_Cd yX6_stored cX6_stored 2 (some .int) 1 := ⟨qw_121, qw_959, by decide +kernel, by decide +kernel, by decide +kernel⟩
theorem qw_1043 : Cond.code yX6_takes cX6_takes 3 ((some .boolean)) ∈ qx_Wd := qx_in (List.mem_of_getElem? (l := lw_tbl) (i := 1043) (by decide +kernel)) rfl
theorem qc_X6_takes : qx_Cd yX6_takes cX6_takes 3 (some .boolean) 2 := ⟨qw_121, qw_1043, by decide +kernel, by decide +kernel, by decide +kernel⟩
theorem qw_1285 : Cond.code yX6_takesWord cX6_takesWord 3 ((some .boolean)) ∈ qx_Wd := qx_in (List.mem_of_getElem? (l := lw_tbl) (i := 1285) (by decide +kernel)) rfl
theorem qc_X6_takesWord : qx_Cd yX6_takesWord cX6_takesWord 3 (some .boolean) 1 := ⟨qw_121, qw_1285, by decide +kernel, by decide +kernel, by decide +kernel⟩
theorem qw_1351 : Cond.code yX6_tear cX6_tear 2 ((some .int)) ∈ qx_Wd := qx_in (List.mem_of_getElem? (l := lw_tbl) (i := 1351) (by decide +kernel)) rfl
theorem qc_X6_tear : qx_Cd yX6_tear cX6_tear 2 (some .int) 0 := ⟨qw_121, qw_1351, by decide +kernel, by decide +kernel, by decide +kernel⟩
theorem qw_1250 : Cond.code yX6_text cX6_text 2 ((some .int)) ∈ qx_Wd := qx_in (List.mem_of_getElem? (l := lw_tbl) (i := 1250) (by decide +kernel)) rfl
theorem qc_X6_text : qx_Cd yX6_text cX6_text 2 (some .int) 0 := ⟨qw_121, qw_1250, by decide +kernel, by decide +kernel, by decide +kernel⟩
theorem qw_1254 : Cond.code yX6_token cX6_token 2 none ∈ qx_Wd := qx_in (List.mem_of_getElem? (l := lw_tbl) (i := 1254) (by decide +kernel)) rfl
theorem qc_X6_token : qx_Cd yX6_token cX6_token 2 none 0 := ⟨qw_121, qw_1254, by decide +kernel, by decide +kernel, by decide +kernel⟩
theorem qw_992 : Cond.code yX6_told cX6_told 3 ((some .int)) ∈ qx_Wd := qx_in (List.mem_of_getElem? (l := lw_tbl) (i := 992) (by decide +kernel)) rfl
theorem qc_X6_told : qx_Cd yX6_told cX6_told 3 (some .int) 2 := ⟨qw_121, qw_992, by decide +kernel, by decide +kernel, by decide +kernel⟩
theorem qw_1139 : Cond.code yX6_toldBehind cX6_toldBehind 4 ((some .int)) ∈ qx_Wd := qx_in (List.mem_of_getElem? (l := lw_tbl) (i := 1139) (by decide +kernel)) rfl
theorem qc_X6_toldBehind : qx_Cd yX6_toldBehind cX6_toldBehind 4 (some .int) 3 := ⟨qw_121, qw_1139, by decide +kernel, by decide +kernel, by decide +kernel⟩
theorem qw_1347 : Cond.code yX6_undo cX6_undo 1 ((some .int)) ∈ qx_Wd := qx_in (List.mem_of_getElem? (l := lw_tbl) (i := 1347) (by decide +kernel)) rfl
theorem qc_X6_undo : qx_Cd yX6_undo cX6_undo 1 (some .int) 0 := ⟨qw_121, qw_1347, by decide +kernel, by decide +kernel, by decide +kernel⟩
theorem qw_1166 : Cond.code yX6_voice cX6_voice 4 ((some .int)) ∈ qx_Wd := qx_in (List.mem_of_getElem? (l := lw_tbl) (i := 1166) (by decide +kernel)) rfl
theorem qc_X6_voice : qx_Cd yX6_voice cX6_voice 4 (some .int) 2 := ⟨qw_121, qw_1166, by decide +kernel, by decide +kernel, by decide +kernel⟩
theorem qw_1119 : Cond.code yX6_walkers cX6_walkers 3 ((some .int)) ∈ qx_Wd := qx_in (List.mem_of_getElem? (l := lw_tbl) (i := 1119) (by decide +kernel)) rfl
theorem qc_X6_walkers : qx_Cd yX6_walkers cX6_walkers 3 (some .int) 0 := ⟨qw_121, qw_1119, by decide +kernel, by decide +kernel, by decide +kernel⟩
theorem qw_1158 : Cond.code yX6_when cX6_when 4 ((some .int)) ∈ qx_Wd := qx_in (List.mem_of_getElem? (l := lw_tbl) (i := 1158) (by decide +kernel)) rfl
theorem qc_X6_when : qx_Cd yX6_when cX6_when 4 (some .int) 2 := ⟨qw_121, qw_1158, by decide +kernel, by decide +kernel, by decide +kernel⟩
theorem qw_1115 : Cond.code yX6_wholeOnes cX6_wholeOnes 3 ((some .int)) ∈ qx_Wd := qx_in (List.mem_of_getElem? (l := lw_tbl) (i := 1115) (by decide +kernel)) rfl
theorem qc_X6_wholeOnes : qx_Cd yX6_wholeOnes cX6_wholeOnes 3 (some .int) 0 := ⟨qw_121, qw_1115, by decide +kernel, by decide +kernel, by decide +kernel⟩
theorem qw_1246 : Cond.code yX6_wipe cX6_wipe 2 ((some .int)) ∈ qx_Wd := qx_in (List.mem_of_getElem? (l := lw_tbl) (i := 1246) (by decide +kernel)) rfl
theorem qc_X6_wipe : qx_Cd yX6_wipe cX6_wipe 2 (some .int) 0 := ⟨qw_121, qw_1246, by decide +kernel, by decide +kernel, by decide +kernel⟩
theorem qw_939 : Cond.code yX6_within cX6_within 3 ((some .boolean)) ∈ qx_Wd := qx_in (List.mem_of_getElem? (l := lw_tbl) (i := 939) (by decide +kernel)) rfl
theorem qc_X6_within : qx_Cd yX6_within cX6_within 3 (some .boolean) 3 := ⟨qw_121, qw_939, by decide +kernel, by decide +kernel, by decide +kernel⟩
theorem qw_1103 : Cond.code yX6_wouldWalk cX6_wouldWalk 2 ((some .boolean)) ∈ qx_Wd := qx_in (List.mem_of_getElem? (l := lw_tbl) (i := 1103) (by decide +kernel)) rfl
theorem qc_X6_wouldWalk : qx_Cd yX6_wouldWalk cX6_wouldWalk 2 (some .boolean) 1 := ⟨qw_121, qw_1103, by decide +kernel, by decide +kernel, by decide +kernel⟩
theorem qw_1324 : Cond.code yX6_write cX6_write 4 ((some .int)) ∈ qx_Wd := qx_in (List.mem_of_getElem? (l := lw_tbl) (i := 1324) (by decide +kernel)) rfl
theorem qc_X6_write : qx_Cd yX6_write cX6_write 4 (some .int) 3 := ⟨qw_121, qw_1324, by decide +kernel, by decide +kernel, by decide +kernel⟩
theorem qw_1127 : Cond.code yX6_yearnings cX6_yearnings 3 ((some .int)) ∈ qx_Wd := qx_in (List.mem_of_getElem? (l := lw_tbl) (i := 1127) (by decide +kernel)) rfl
theorem qc_X6_yearnings : qx_Cd yX6_yearnings cX6_yearnings 3 (some .int) 0 := ⟨qw_121, qw_1127, by decide +kernel, by decide +kernel, by decide +kernel⟩
theorem qw_996 : Cond.code yX6_yearns cX6_yearns 4 ((some .int)) ∈ qx_Wd := qx_in (List.mem_of_getElem? (l := lw_tbl) (i := 996) (by decide +kernel)) rfl
theorem qc_X6_yearns : qx_Cd yX6_yearns cX6_yearns 4 (some .int) 1 := ⟨qw_121, qw_996, by decide +kernel, by decide +kernel, by decide +kernel⟩
theorem qw_1099 : Cond.code yX6_yearnsOn cX6_yearnsOn 2 none ∈ qx_Wd := qx_in (List.mem_of_getElem? (l := lw_tbl) (i := 1099) (by decide +kernel)) rfl
theorem qc_X6_yearnsOn : qx_Cd yX6_yearnsOn cX6_yearnsOn 2 none 1 := ⟨qw_121, qw_1099, by decide +kernel, by decide +kernel, by decide +kernel⟩
theorem qw_365 : Cond.code yJ6_bitCount_0f7a4 cJ6_bitCount_0f7a4 1 ((some .int)) ∈ qx_Wd := qx_in (List.mem_of_getElem? (l := lw_tbl) (i := 365) (by decide +kernel)) rfl
theorem qw_122 : Cond.initialized RJ6 ∈ qx_Wd := qx_in (List.mem_of_getElem? (l := lw_tbl) (i := 122) (by decide +kernel)) rfl
theorem qc_J6_bitCount_0f7a4 : qx_Cd yJ6_bitCount_0f7a4 cJ6_bitCount_0f7a4 1 (some .int) 1 := ⟨qw_122, qw_365, by decide +kernel, by decide +kernel, by decide +kernel⟩
theorem qw_698 : Cond.code yJ0_charAt_5068e cJ0_charAt_5068e 2 ((some .char)) ∈ qx_Wd := qx_in (List.mem_of_getElem? (l := lw_tbl) (i := 698) (by decide +kernel)) rfl
theorem qw_125 : Cond.initialized RJ0 ∈ qx_Wd := qx_in (List.mem_of_getElem? (l := lw_tbl) (i := 125) (by decide +kernel)) rfl
theorem qc_J0_charAt_5068e : qx_Cd yJ0_charAt_5068e cJ0_charAt_5068e 2 (some .char) 1 := ⟨qw_125, qw_698, by decide +kernel, by decide +kernel, by decide +kernel⟩
theorem qw_708 : Cond.code yJ0_checkIndex_df160 cJ0_checkIndex_df160 2 none ∈ qx_Wd := qx_in (List.mem_of_getElem? (l := lw_tbl) (i := 708) (by decide +kernel)) rfl
theorem qc_J0_checkIndex_df160 : qx_Cd yJ0_checkIndex_df160 cJ0_checkIndex_df160 2 none 2 := ⟨qw_125, qw_708, by decide +kernel, by decide +kernel, by decide +kernel⟩
theorem qw_692 : Cond.code yJ0_coder_7d493 cJ0_coder_7d493 1 ((some .byte)) ∈ qx_Wd := qx_in (List.mem_of_getElem? (l := lw_tbl) (i := 692) (by decide +kernel)) rfl
theorem qc_J0_coder_7d493 : qx_Cd yJ0_coder_7d493 cJ0_coder_7d493 1 (some .byte) 0 := ⟨qw_125, qw_692, by decide +kernel, by decide +kernel, by decide +kernel⟩
theorem qw_702 : Cond.code yJ0_isLatin1_aae02 cJ0_isLatin1_aae02 1 ((some .boolean)) ∈ qx_Wd := qx_in (List.mem_of_getElem? (l := lw_tbl) (i := 702) (by decide +kernel)) rfl
theorem qc_J0_isLatin1_aae02 : qx_Cd yJ0_isLatin1_aae02 cJ0_isLatin1_aae02 1 (some .boolean) 0 := ⟨qw_125, qw_702, by decide +kernel, by decide +kernel, by decide +kernel⟩
theorem qw_688 : Cond.code yJ0_length_8abf5 cJ0_length_8abf5 1 ((some .int)) ∈ qx_Wd := qx_in (List.mem_of_getElem? (l := lw_tbl) (i := 688) (by decide +kernel)) rfl
theorem qc_J0_length_8abf5 : qx_Cd yJ0_length_8abf5 cJ0_length_8abf5 1 (some .int) 0 := ⟨qw_125, qw_688, by decide +kernel, by decide +kernel, by decide +kernel⟩
theorem qw_705 : Cond.code yJ1_charAt_3b067 cJ1_charAt_3b067 2 ((some .char)) ∈ qx_Wd := qx_in (List.mem_of_getElem? (l := lw_tbl) (i := 705) (by decide +kernel)) rfl
theorem qw_126 : Cond.initialized RJ1 ∈ qx_Wd := qx_in (List.mem_of_getElem? (l := lw_tbl) (i := 126) (by decide +kernel)) rfl
theorem qc_J1_charAt_3b067 : qx_Cd yJ1_charAt_3b067 cJ1_charAt_3b067 2 (some .char) 2 := ⟨qw_126, qw_705, by decide +kernel, by decide +kernel, by decide +kernel⟩
theorem qw_716 : Cond.code yJ2_charAt_3b067 cJ2_charAt_3b067 2 ((some .char)) ∈ qx_Wd := qx_in (List.mem_of_getElem? (l := lw_tbl) (i := 716) (by decide +kernel)) rfl
theorem qw_128 : Cond.initialized RJ2 ∈ qx_Wd := qx_in (List.mem_of_getElem? (l := lw_tbl) (i := 128) (by decide +kernel)) rfl
theorem qc_J2_charAt_3b067 : qx_Cd yJ2_charAt_3b067 cJ2_charAt_3b067 2 (some .char) 2 := ⟨qw_128, qw_716, by decide +kernel, by decide +kernel, by decide +kernel⟩
theorem qw_719 : Cond.code yJ2_checkIndex_2214a cJ2_checkIndex_2214a 2 none ∈ qx_Wd := qx_in (List.mem_of_getElem? (l := lw_tbl) (i := 719) (by decide +kernel)) rfl
theorem qc_J2_checkIndex_2214a : qx_Cd yJ2_checkIndex_2214a cJ2_checkIndex_2214a 2 none 2 := ⟨qw_128, qw_719, by decide +kernel, by decide +kernel, by decide +kernel⟩
theorem qw_726 : Cond.code yJ2_getChar_3b067 cJ2_getChar_3b067 2 ((some .char)) ∈ qx_Wd := qx_in (List.mem_of_getElem? (l := lw_tbl) (i := 726) (by decide +kernel)) rfl
theorem qc_J2_getChar_3b067 : qx_Cd yJ2_getChar_3b067 cJ2_getChar_3b067 2 (some .char) 2 := ⟨qw_128, qw_726, by decide +kernel, by decide +kernel, by decide +kernel⟩
theorem qw_722 : Cond.code yJ2_length_9d52b cJ2_length_9d52b 1 ((some .int)) ∈ qx_Wd := qx_in (List.mem_of_getElem? (l := lw_tbl) (i := 722) (by decide +kernel)) rfl
theorem qc_J2_length_9d52b : qx_Cd yJ2_length_9d52b cJ2_length_9d52b 1 (some .int) 1 := ⟨qw_128, qw_722, by decide +kernel, by decide +kernel, by decide +kernel⟩
theorem qw_713 : Cond.code yJ3_checkIndex_8e157 cJ3_checkIndex_8e157 3 ((some .int)) ∈ qx_Wd := qx_in (List.mem_of_getElem? (l := lw_tbl) (i := 713) (by decide +kernel)) rfl
theorem qw_127 : Cond.initialized RJ3 ∈ qx_Wd := qx_in (List.mem_of_getElem? (l := lw_tbl) (i := 127) (by decide +kernel)) rfl
theorem qc_J3_checkIndex_8e157 : qx_Cd yJ3_checkIndex_8e157 cJ3_checkIndex_8e157 3 (some .int) 3 := ⟨qw_127, qw_713, by decide +kernel, by decide +kernel, by decide +kernel⟩
theorem qw_134 : Cond.methodLink RX5 3 objectInit ∈ qx_Wd := qx_in (List.mem_of_getElem? (l := lw_tbl) (i := 134) (by decide +kernel)) rfl
theorem qw_135 : Cond.instanceMethod objectInit ∈ qx_Wd := qx_in (List.mem_of_getElem? (l := lw_tbl) (i := 135) (by decide +kernel)) rfl
theorem qw_139 : Cond.methodLinkNest RX5 11 yX1_init "BustRest" ∈ qx_Nd := qx_inN (List.mem_of_getElem? (l := lw_tbl) (i := 139) (by decide +kernel)) rfl
theorem qw_140 : Cond.instanceMethod yX1_init ∈ qx_Wd := qx_in (List.mem_of_getElem? (l := lw_tbl) (i := 140) (by decide +kernel)) rfl
theorem qw_223 : Cond.methodLinkNest RX5 28 yX3_init "BustRest" ∈ qx_Nd := qx_inN (List.mem_of_getElem? (l := lw_tbl) (i := 223) (by decide +kernel)) rfl
theorem qw_224 : Cond.instanceMethod yX3_init ∈ qx_Wd := qx_in (List.mem_of_getElem? (l := lw_tbl) (i := 224) (by decide +kernel)) rfl
theorem qw_252 : Cond.methodLinkNest RX5 35 yX4_init "BustRest" ∈ qx_Nd := qx_inN (List.mem_of_getElem? (l := lw_tbl) (i := 252) (by decide +kernel)) rfl
theorem qw_253 : Cond.instanceMethod yX4_init ∈ qx_Wd := qx_in (List.mem_of_getElem? (l := lw_tbl) (i := 253) (by decide +kernel)) rfl
theorem qw_272 : Cond.methodLinkNest RX5 52 yX2_init "BustRest" ∈ qx_Nd := qx_inN (List.mem_of_getElem? (l := lw_tbl) (i := 272) (by decide +kernel)) rfl
theorem qw_273 : Cond.instanceMethod yX2_init ∈ qx_Wd := qx_in (List.mem_of_getElem? (l := lw_tbl) (i := 273) (by decide +kernel)) rfl
theorem qw_318 : Cond.methodLink RX5 53 yX5_within ∈ qx_Wd := qx_in (List.mem_of_getElem? (l := lw_tbl) (i := 318) (by decide +kernel)) rfl
theorem qw_319 : Cond.static yX5_within ∈ qx_Wd := qx_in (List.mem_of_getElem? (l := lw_tbl) (i := 319) (by decide +kernel)) rfl
theorem ql_X5_53 : qx_LS RX5 53 yX5_within := ⟨qw_319, qw_318⟩
theorem qw_322 : Cond.methodLink RX5 58 yX5_found ∈ qx_Wd := qx_in (List.mem_of_getElem? (l := lw_tbl) (i := 322) (by decide +kernel)) rfl
theorem qw_324 : Cond.instanceMethod yX5_found ∈ qx_Wd := qx_in (List.mem_of_getElem? (l := lw_tbl) (i := 324) (by decide +kernel)) rfl
theorem qw_0 : Cond.selects RX5 yX5_found yX5_found ∈ qx_Wd := qx_in (List.mem_of_getElem? (l := lw_tbl) (i := 0) (by decide +kernel)) rfl
theorem ql_X5_58 : qx_LV RX5 58 yX5_found := ⟨qw_324, qw_0, Or.inl qw_322⟩
theorem qw_338 : Cond.methodLinkNest RX5 68 yX1_addBust "BustRest" ∈ qx_Nd := qx_inN (List.mem_of_getElem? (l := lw_tbl) (i := 338) (by decide +kernel)) rfl
theorem qw_340 : Cond.instanceMethod yX1_addBust ∈ qx_Wd := qx_in (List.mem_of_getElem? (l := lw_tbl) (i := 340) (by decide +kernel)) rfl
theorem qw_1 : Cond.selects RX1 yX1_addBust yX1_addBust ∈ qx_Wd := qx_in (List.mem_of_getElem? (l := lw_tbl) (i := 1) (by decide +kernel)) rfl
theorem ql_X5_68 : qx_LV RX5 68 yX1_addBust := ⟨qw_340, qw_1, Or.inr ⟨_, qw_338⟩⟩
theorem qw_351 : Cond.methodLink RX5 73 yX5_isBust ∈ qx_Wd := qx_in (List.mem_of_getElem? (l := lw_tbl) (i := 351) (by decide +kernel)) rfl
theorem qw_353 : Cond.instanceMethod yX5_isBust ∈ qx_Wd := qx_in (List.mem_of_getElem? (l := lw_tbl) (i := 353) (by decide +kernel)) rfl
theorem qw_3 : Cond.selects RX5 yX5_isBust yX5_isBust ∈ qx_Wd := qx_in (List.mem_of_getElem? (l := lw_tbl) (i := 3) (by decide +kernel)) rfl
theorem ql_X5_73 : qx_LV RX5 73 yX5_isBust := ⟨qw_353, qw_3, Or.inl qw_351⟩
theorem qw_355 : Cond.methodLinkNest RX5 81 yX0_told "BustRest" ∈ qx_Nd := qx_inN (List.mem_of_getElem? (l := lw_tbl) (i := 355) (by decide +kernel)) rfl
theorem qw_357 : Cond.instanceMethod yX0_told ∈ qx_Wd := qx_in (List.mem_of_getElem? (l := lw_tbl) (i := 357) (by decide +kernel)) rfl
theorem qw_4 : Cond.selects RX0 yX0_told yX0_told ∈ qx_Wd := qx_in (List.mem_of_getElem? (l := lw_tbl) (i := 4) (by decide +kernel)) rfl
theorem ql_X5_81 : qx_LV RX5 81 yX0_told := ⟨qw_357, qw_4, Or.inr ⟨_, qw_355⟩⟩
theorem qw_398 : Cond.methodLinkNest RX5 89 yX0_become "BustRest" ∈ qx_Nd := qx_inN (List.mem_of_getElem? (l := lw_tbl) (i := 398) (by decide +kernel)) rfl
theorem qw_400 : Cond.instanceMethod yX0_become ∈ qx_Wd := qx_in (List.mem_of_getElem? (l := lw_tbl) (i := 400) (by decide +kernel)) rfl
theorem qw_11 : Cond.selects RX0 yX0_become yX0_become ∈ qx_Wd := qx_in (List.mem_of_getElem? (l := lw_tbl) (i := 11) (by decide +kernel)) rfl
theorem ql_X5_89 : qx_LV RX5 89 yX0_become := ⟨qw_400, qw_11, Or.inr ⟨_, qw_398⟩⟩
theorem qw_406 : Cond.methodLinkNest RX5 93 yX0_takes "BustRest" ∈ qx_Nd := qx_inN (List.mem_of_getElem? (l := lw_tbl) (i := 406) (by decide +kernel)) rfl
theorem qw_408 : Cond.instanceMethod yX0_takes ∈ qx_Wd := qx_in (List.mem_of_getElem? (l := lw_tbl) (i := 408) (by decide +kernel)) rfl
theorem qw_12 : Cond.selects RX0 yX0_takes yX0_takes ∈ qx_Wd := qx_in (List.mem_of_getElem? (l := lw_tbl) (i := 12) (by decide +kernel)) rfl
theorem ql_X5_93 : qx_LV RX5 93 yX0_takes := ⟨qw_408, qw_12, Or.inr ⟨_, qw_406⟩⟩
theorem qw_414 : Cond.methodLinkNest RX5 96 yX1_heirOf "BustRest" ∈ qx_Nd := qx_inN (List.mem_of_getElem? (l := lw_tbl) (i := 414) (by decide +kernel)) rfl
theorem qw_416 : Cond.instanceMethod yX1_heirOf ∈ qx_Wd := qx_in (List.mem_of_getElem? (l := lw_tbl) (i := 416) (by decide +kernel)) rfl
theorem qw_13 : Cond.selects RX1 yX1_heirOf yX1_heirOf ∈ qx_Wd := qx_in (List.mem_of_getElem? (l := lw_tbl) (i := 13) (by decide +kernel)) rfl
theorem ql_X5_96 : qx_LV RX5 96 yX1_heirOf := ⟨qw_416, qw_13, Or.inr ⟨_, qw_414⟩⟩
theorem qw_424 : Cond.methodLinkNest RX5 100 yX0_hasPart "BustRest" ∈ qx_Nd := qx_inN (List.mem_of_getElem? (l := lw_tbl) (i := 424) (by decide +kernel)) rfl
theorem qw_371 : Cond.instanceMethod yX0_hasPart ∈ qx_Wd := qx_in (List.mem_of_getElem? (l := lw_tbl) (i := 371) (by decide +kernel)) rfl
theorem qw_6 : Cond.selects RX0 yX0_hasPart yX0_hasPart ∈ qx_Wd := qx_in (List.mem_of_getElem? (l := lw_tbl) (i := 6) (by decide +kernel)) rfl
theorem ql_X5_100 : qx_LV RX5 100 yX0_hasPart := ⟨qw_371, qw_6, Or.inr ⟨_, qw_424⟩⟩
theorem qw_426 : Cond.methodLinkNest RX5 108 yX0_receive "BustRest" ∈ qx_Nd := qx_inN (List.mem_of_getElem? (l := lw_tbl) (i := 426) (by decide +kernel)) rfl
theorem qw_428 : Cond.instanceMethod yX0_receive ∈ qx_Wd := qx_in (List.mem_of_getElem? (l := lw_tbl) (i := 428) (by decide +kernel)) rfl
theorem qw_14 : Cond.selects RX0 yX0_receive yX0_receive ∈ qx_Wd := qx_in (List.mem_of_getElem? (l := lw_tbl) (i := 14) (by decide +kernel)) rfl
theorem ql_X5_108 : qx_LV RX5 108 yX0_receive := ⟨qw_428, qw_14, Or.inr ⟨_, qw_426⟩⟩
theorem qw_435 : Cond.methodLinkNest RX5 119 yX1_passDays "BustRest" ∈ qx_Nd := qx_inN (List.mem_of_getElem? (l := lw_tbl) (i := 435) (by decide +kernel)) rfl
theorem qw_437 : Cond.instanceMethod yX1_passDays ∈ qx_Wd := qx_in (List.mem_of_getElem? (l := lw_tbl) (i := 437) (by decide +kernel)) rfl
theorem qw_15 : Cond.selects RX1 yX1_passDays yX1_passDays ∈ qx_Wd := qx_in (List.mem_of_getElem? (l := lw_tbl) (i := 15) (by decide +kernel)) rfl
theorem ql_X5_119 : qx_LV RX5 119 yX1_passDays := ⟨qw_437, qw_15, Or.inr ⟨_, qw_435⟩⟩
theorem qw_476 : Cond.methodLinkNest RX5 125 yX1_storedTogether "BustRest" ∈ qx_Nd := qx_inN (List.mem_of_getElem? (l := lw_tbl) (i := 476) (by decide +kernel)) rfl
theorem qw_478 : Cond.instanceMethod yX1_storedTogether ∈ qx_Wd := qx_in (List.mem_of_getElem? (l := lw_tbl) (i := 478) (by decide +kernel)) rfl
theorem qw_22 : Cond.selects RX1 yX1_storedTogether yX1_storedTogether ∈ qx_Wd := qx_in (List.mem_of_getElem? (l := lw_tbl) (i := 22) (by decide +kernel)) rfl
theorem ql_X5_125 : qx_LV RX5 125 yX1_storedTogether := ⟨qw_478, qw_22, Or.inr ⟨_, qw_476⟩⟩
theorem qw_480 : Cond.methodLinkNest RX5 129 yX1_completeBusts "BustRest" ∈ qx_Nd := qx_inN (List.mem_of_getElem? (l := lw_tbl) (i := 480) (by decide +kernel)) rfl
theorem qw_482 : Cond.instanceMethod yX1_completeBusts ∈ qx_Wd := qx_in (List.mem_of_getElem? (l := lw_tbl) (i := 482) (by decide +kernel)) rfl
theorem qw_23 : Cond.selects RX1 yX1_completeBusts yX1_completeBusts ∈ qx_Wd := qx_in (List.mem_of_getElem? (l := lw_tbl) (i := 23) (by decide +kernel)) rfl
theorem ql_X5_129 : qx_LV RX5 129 yX1_completeBusts := ⟨qw_482, qw_23, Or.inr ⟨_, qw_480⟩⟩
theorem qw_484 : Cond.methodLinkNest RX5 132 yX1_walkers "BustRest" ∈ qx_Nd := qx_inN (List.mem_of_getElem? (l := lw_tbl) (i := 484) (by decide +kernel)) rfl
theorem qw_486 : Cond.instanceMethod yX1_walkers ∈ qx_Wd := qx_in (List.mem_of_getElem? (l := lw_tbl) (i := 486) (by decide +kernel)) rfl
theorem qw_24 : Cond.selects RX1 yX1_walkers yX1_walkers ∈ qx_Wd := qx_in (List.mem_of_getElem? (l := lw_tbl) (i := 24) (by decide +kernel)) rfl
theorem ql_X5_132 : qx_LV RX5 132 yX1_walkers := ⟨qw_486, qw_24, Or.inr ⟨_, qw_484⟩⟩
theorem qw_488 : Cond.methodLinkNest RX5 135 yX1_loudest "BustRest" ∈ qx_Nd := qx_inN (List.mem_of_getElem? (l := lw_tbl) (i := 488) (by decide +kernel)) rfl
theorem qw_490 : Cond.instanceMethod yX1_loudest ∈ qx_Wd := qx_in (List.mem_of_getElem? (l := lw_tbl) (i := 490) (by decide +kernel)) rfl
theorem qw_25 : Cond.selects RX1 yX1_loudest yX1_loudest ∈ qx_Wd := qx_in (List.mem_of_getElem? (l := lw_tbl) (i := 25) (by decide +kernel)) rfl
theorem ql_X5_135 : qx_LV RX5 135 yX1_loudest := ⟨qw_490, qw_25, Or.inr ⟨_, qw_488⟩⟩
theorem qw_493 : Cond.methodLinkNest RX5 138 yX1_yearningTogether "BustRest" ∈ qx_Nd := qx_inN (List.mem_of_getElem? (l := lw_tbl) (i := 493) (by decide +kernel)) rfl
theorem qw_495 : Cond.instanceMethod yX1_yearningTogether ∈ qx_Wd := qx_in (List.mem_of_getElem? (l := lw_tbl) (i := 495) (by decide +kernel)) rfl
theorem qw_26 : Cond.selects RX1 yX1_yearningTogether yX1_yearningTogether ∈ qx_Wd := qx_in (List.mem_of_getElem? (l := lw_tbl) (i := 26) (by decide +kernel)) rfl
theorem ql_X5_138 : qx_LV RX5 138 yX1_yearningTogether := ⟨qw_495, qw_26, Or.inr ⟨_, qw_493⟩⟩
theorem qw_497 : Cond.methodLinkNest RX5 141 yX1_goneBusts "BustRest" ∈ qx_Nd := qx_inN (List.mem_of_getElem? (l := lw_tbl) (i := 497) (by decide +kernel)) rfl
theorem qw_499 : Cond.instanceMethod yX1_goneBusts ∈ qx_Wd := qx_in (List.mem_of_getElem? (l := lw_tbl) (i := 499) (by decide +kernel)) rfl
theorem qw_27 : Cond.selects RX1 yX1_goneBusts yX1_goneBusts ∈ qx_Wd := qx_in (List.mem_of_getElem? (l := lw_tbl) (i := 27) (by decide +kernel)) rfl
theorem ql_X5_141 : qx_LV RX5 141 yX1_goneBusts := ⟨qw_499, qw_27, Or.inr ⟨_, qw_497⟩⟩
theorem qw_505 : Cond.methodLink RX5 144 yX5_beginTrial ∈ qx_Wd := qx_in (List.mem_of_getElem? (l := lw_tbl) (i := 505) (by decide +kernel)) rfl
theorem qw_507 : Cond.instanceMethod yX5_beginTrial ∈ qx_Wd := qx_in (List.mem_of_getElem? (l := lw_tbl) (i := 507) (by decide +kernel)) rfl
theorem qw_28 : Cond.selects RX5 yX5_beginTrial yX5_beginTrial ∈ qx_Wd := qx_in (List.mem_of_getElem? (l := lw_tbl) (i := 28) (by decide +kernel)) rfl
theorem ql_X5_144 : qx_LV RX5 144 yX5_beginTrial := ⟨qw_507, qw_28, Or.inl qw_505⟩
theorem qw_528 : Cond.methodLinkNest RX5 147 yX1_passDay "BustRest" ∈ qx_Nd := qx_inN (List.mem_of_getElem? (l := lw_tbl) (i := 528) (by decide +kernel)) rfl
theorem qw_441 : Cond.instanceMethod yX1_passDay ∈ qx_Wd := qx_in (List.mem_of_getElem? (l := lw_tbl) (i := 441) (by decide +kernel)) rfl
theorem qw_16 : Cond.selects RX1 yX1_passDay yX1_passDay ∈ qx_Wd := qx_in (List.mem_of_getElem? (l := lw_tbl) (i := 16) (by decide +kernel)) rfl
theorem ql_X5_147 : qx_LV RX5 147 yX1_passDay := ⟨qw_441, qw_16, Or.inr ⟨_, qw_528⟩⟩
theorem qw_533 : Cond.methodLink RX5 150 yX5_daysUntil ∈ qx_Wd := qx_in (List.mem_of_getElem? (l := lw_tbl) (i := 533) (by decide +kernel)) rfl
theorem qw_535 : Cond.instanceMethod yX5_daysUntil ∈ qx_Wd := qx_in (List.mem_of_getElem? (l := lw_tbl) (i := 535) (by decide +kernel)) rfl
theorem qw_31 : Cond.selects RX5 yX5_daysUntil yX5_daysUntil ∈ qx_Wd := qx_in (List.mem_of_getElem? (l := lw_tbl) (i := 31) (by decide +kernel)) rfl
theorem ql_X5_150 : qx_LV RX5 150 yX5_daysUntil := ⟨qw_535, qw_31, Or.inl qw_533⟩
theorem qw_545 : Cond.methodLink RX5 154 yJ6_bitCount_0f7a4 ∈ qx_Wd := qx_in (List.mem_of_getElem? (l := lw_tbl) (i := 545) (by decide +kernel)) rfl
theorem qw_364 : Cond.static yJ6_bitCount_0f7a4 ∈ qx_Wd := qx_in (List.mem_of_getElem? (l := lw_tbl) (i := 364) (by decide +kernel)) rfl
theorem ql_X5_154 : qx_LS RX5 154 yJ6_bitCount_0f7a4 := ⟨qw_364, qw_545⟩
theorem qw_550 : Cond.methodLinkNest RX5 159 yX1_mayDifferAt "BustRest" ∈ qx_Nd := qx_inN (List.mem_of_getElem? (l := lw_tbl) (i := 550) (by decide +kernel)) rfl
theorem qw_552 : Cond.instanceMethod yX1_mayDifferAt ∈ qx_Wd := qx_in (List.mem_of_getElem? (l := lw_tbl) (i := 552) (by decide +kernel)) rfl
theorem qw_32 : Cond.selects RX1 yX1_mayDifferAt yX1_mayDifferAt ∈ qx_Wd := qx_in (List.mem_of_getElem? (l := lw_tbl) (i := 32) (by decide +kernel)) rfl
theorem ql_X5_159 : qx_LV RX5 159 yX1_mayDifferAt := ⟨qw_552, qw_32, Or.inr ⟨_, qw_550⟩⟩
theorem qw_554 : Cond.methodLink RX5 162 yX5_hasByDate ∈ qx_Wd := qx_in (List.mem_of_getElem? (l := lw_tbl) (i := 554) (by decide +kernel)) rfl
theorem qw_556 : Cond.instanceMethod yX5_hasByDate ∈ qx_Wd := qx_in (List.mem_of_getElem? (l := lw_tbl) (i := 556) (by decide +kernel)) rfl
theorem qw_33 : Cond.selects RX5 yX5_hasByDate yX5_hasByDate ∈ qx_Wd := qx_in (List.mem_of_getElem? (l := lw_tbl) (i := 33) (by decide +kernel)) rfl
theorem ql_X5_162 : qx_LV RX5 162 yX5_hasByDate := ⟨qw_556, qw_33, Or.inl qw_554⟩
theorem qw_562 : Cond.methodLinkNest RX5 169 yX0_says "BustRest" ∈ qx_Nd := qx_inN (List.mem_of_getElem? (l := lw_tbl) (i := 562) (by decide +kernel)) rfl
theorem qw_386 : Cond.instanceMethod yX0_says ∈ qx_Wd := qx_in (List.mem_of_getElem? (l := lw_tbl) (i := 386) (by decide +kernel)) rfl
theorem qw_9 : Cond.selects RX0 yX0_says yX0_says ∈ qx_Wd := qx_in (List.mem_of_getElem? (l := lw_tbl) (i := 9) (by decide +kernel)) rfl
theorem ql_X5_169 : qx_LV RX5 169 yX0_says := ⟨qw_386, qw_9, Or.inr ⟨_, qw_562⟩⟩
theorem qw_567 : Cond.methodLinkNest RX5 172 yX0_pathUpTo "BustRest" ∈ qx_Nd := qx_inN (List.mem_of_getElem? (l := lw_tbl) (i := 567) (by decide +kernel)) rfl
theorem qw_569 : Cond.instanceMethod yX0_pathUpTo ∈ qx_Wd := qx_in (List.mem_of_getElem? (l := lw_tbl) (i := 569) (by decide +kernel)) rfl
theorem qw_34 : Cond.selects RX0 yX0_pathUpTo yX0_pathUpTo ∈ qx_Wd := qx_in (List.mem_of_getElem? (l := lw_tbl) (i := 34) (by decide +kernel)) rfl
theorem ql_X5_172 : qx_LV RX5 172 yX0_pathUpTo := ⟨qw_569, qw_34, Or.inr ⟨_, qw_567⟩⟩
theorem qw_581 : Cond.methodLink RX5 178 yX5_keepsAll ∈ qx_Wd := qx_in (List.mem_of_getElem? (l := lw_tbl) (i := 581) (by decide +kernel)) rfl
theorem qw_583 : Cond.instanceMethod yX5_keepsAll ∈ qx_Wd := qx_in (List.mem_of_getElem? (l := lw_tbl) (i := 583) (by decide +kernel)) rfl
theorem qw_36 : Cond.selects RX5 yX5_keepsAll yX5_keepsAll ∈ qx_Wd := qx_in (List.mem_of_getElem? (l := lw_tbl) (i := 36) (by decide +kernel)) rfl
theorem ql_X5_178 : qx_LV RX5 178 yX5_keepsAll := ⟨qw_583, qw_36, Or.inl qw_581⟩
theorem qw_589 : Cond.methodLink RX5 181 yX5_findingOfVoices ∈ qx_Wd := qx_in (List.mem_of_getElem? (l := lw_tbl) (i := 589) (by decide +kernel)) rfl
theorem qw_591 : Cond.instanceMethod yX5_findingOfVoices ∈ qx_Wd := qx_in (List.mem_of_getElem? (l := lw_tbl) (i := 591) (by decide +kernel)) rfl
theorem qw_37 : Cond.selects RX5 yX5_findingOfVoices yX5_findingOfVoices ∈ qx_Wd := qx_in (List.mem_of_getElem? (l := lw_tbl) (i := 37) (by decide +kernel)) rfl
theorem ql_X5_181 : qx_LV RX5 181 yX5_findingOfVoices := ⟨qw_591, qw_37, Or.inl qw_589⟩
theorem qw_606 : Cond.methodLinkNest RX5 184 yX1_placeToday "BustRest" ∈ qx_Nd := qx_inN (List.mem_of_getElem? (l := lw_tbl) (i := 606) (by decide +kernel)) rfl
theorem qw_445 : Cond.instanceMethod yX1_placeToday ∈ qx_Wd := qx_in (List.mem_of_getElem? (l := lw_tbl) (i := 445) (by decide +kernel)) rfl
theorem qw_17 : Cond.selects RX1 yX1_placeToday yX1_placeToday ∈ qx_Wd := qx_in (List.mem_of_getElem? (l := lw_tbl) (i := 17) (by decide +kernel)) rfl
theorem ql_X5_184 : qx_LV RX5 184 yX1_placeToday := ⟨qw_445, qw_17, Or.inr ⟨_, qw_606⟩⟩
theorem qw_607 : Cond.methodLink RX5 187 yX5_trialSays ∈ qx_Wd := qx_in (List.mem_of_getElem? (l := lw_tbl) (i := 607) (by decide +kernel)) rfl
theorem qw_609 : Cond.instanceMethod yX5_trialSays ∈ qx_Wd := qx_in (List.mem_of_getElem? (l := lw_tbl) (i := 609) (by decide +kernel)) rfl
theorem qw_41 : Cond.selects RX5 yX5_trialSays yX5_trialSays ∈ qx_Wd := qx_in (List.mem_of_getElem? (l := lw_tbl) (i := 41) (by decide +kernel)) rfl
theorem ql_X5_187 : qx_LV RX5 187 yX5_trialSays := ⟨qw_609, qw_41, Or.inl qw_607⟩
theorem qw_619 : Cond.methodLinkNest RX5 191 yX1_passDayByDraws "BustRest" ∈ qx_Nd := qx_inN (List.mem_of_getElem? (l := lw_tbl) (i := 619) (by decide +kernel)) rfl
theorem qw_621 : Cond.instanceMethod yX1_passDayByDraws ∈ qx_Wd := qx_in (List.mem_of_getElem? (l := lw_tbl) (i := 621) (by decide +kernel)) rfl
theorem qw_42 : Cond.selects RX1 yX1_passDayByDraws yX1_passDayByDraws ∈ qx_Wd := qx_in (List.mem_of_getElem? (l := lw_tbl) (i := 42) (by decide +kernel)) rfl
theorem ql_X5_191 : qx_LV RX5 191 yX1_passDayByDraws := ⟨qw_621, qw_42, Or.inr ⟨_, qw_619⟩⟩
theorem qw_632 : Cond.methodLink RX5 194 yX5_power ∈ qx_Wd := qx_in (List.mem_of_getElem? (l := lw_tbl) (i := 632) (by decide +kernel)) rfl
theorem qw_633 : Cond.static yX5_power ∈ qx_Wd := qx_in (List.mem_of_getElem? (l := lw_tbl) (i := 633) (by decide +kernel)) rfl
theorem ql_X5_194 : qx_LS RX5 194 yX5_power := ⟨qw_633, qw_632⟩
theorem qw_643 : Cond.methodLinkNest RX5 204 yX3_append "BustRest" ∈ qx_Nd := qx_inN (List.mem_of_getElem? (l := lw_tbl) (i := 643) (by decide +kernel)) rfl
theorem qw_645 : Cond.instanceMethod yX3_append ∈ qx_Wd := qx_in (List.mem_of_getElem? (l := lw_tbl) (i := 645) (by decide +kernel)) rfl
theorem qw_44 : Cond.selects RX3 yX3_append yX3_append ∈ qx_Wd := qx_in (List.mem_of_getElem? (l := lw_tbl) (i := 44) (by decide +kernel)) rfl
theorem ql_X5_204 : qx_LV RX5 204 yX3_append := ⟨qw_645, qw_44, Or.inr ⟨_, qw_643⟩⟩
theorem qw_655 : Cond.methodLinkNest RX5 207 yX4_readText "BustRest" ∈ qx_Nd := qx_inN (List.mem_of_getElem? (l := lw_tbl) (i := 655) (by decide +kernel)) rfl
theorem qw_657 : Cond.instanceMethod yX4_readText ∈ qx_Wd := qx_in (List.mem_of_getElem? (l := lw_tbl) (i := 657) (by decide +kernel)) rfl
theorem qw_45 : Cond.selects RX4 yX4_readText yX4_readText ∈ qx_Wd := qx_in (List.mem_of_getElem? (l := lw_tbl) (i := 45) (by decide +kernel)) rfl
theorem ql_X5_207 : qx_LV RX5 207 yX4_readText := ⟨qw_657, qw_45, Or.inr ⟨_, qw_655⟩⟩
theorem qw_509 : Cond.methodLinkNest RX5 210 yX1_copyFrom "BustRest" ∈ qx_Nd := qx_inN (List.mem_of_getElem? (l := lw_tbl) (i := 509) (by decide +kernel)) rfl
theorem qw_511 : Cond.instanceMethod yX1_copyFrom ∈ qx_Wd := qx_in (List.mem_of_getElem? (l := lw_tbl) (i := 511) (by decide +kernel)) rfl
theorem qw_29 : Cond.selects RX1 yX1_copyFrom yX1_copyFrom ∈ qx_Wd := qx_in (List.mem_of_getElem? (l := lw_tbl) (i := 29) (by decide +kernel)) rfl
theorem ql_X5_210 : qx_LV RX5 210 yX1_copyFrom := ⟨qw_511, qw_29, Or.inr ⟨_, qw_509⟩⟩
theorem qw_788 : Cond.methodLinkNest RX5 218 yX0_isA "BustRest" ∈ qx_Nd := qx_inN (List.mem_of_getElem? (l := lw_tbl) (i := 788) (by decide +kernel)) rfl
theorem qw_790 : Cond.instanceMethod yX0_isA ∈ qx_Wd := qx_in (List.mem_of_getElem? (l := lw_tbl) (i := 790) (by decide +kernel)) rfl
theorem qw_59 : Cond.selects RX0 yX0_isA yX0_isA ∈ qx_Wd := qx_in (List.mem_of_getElem? (l := lw_tbl) (i := 59) (by decide +kernel)) rfl
theorem ql_X5_218 : qx_LV RX5 218 yX0_isA := ⟨qw_790, qw_59, Or.inr ⟨_, qw_788⟩⟩
theorem qw_597 : Cond.methodLink RX5 222 yX5_isSheet ∈ qx_Wd := qx_in (List.mem_of_getElem? (l := lw_tbl) (i := 597) (by decide +kernel)) rfl
theorem qw_599 : Cond.instanceMethod yX5_isSheet ∈ qx_Wd := qx_in (List.mem_of_getElem? (l := lw_tbl) (i := 599) (by decide +kernel)) rfl
theorem qw_39 : Cond.selects RX5 yX5_isSheet yX5_isSheet ∈ qx_Wd := qx_in (List.mem_of_getElem? (l := lw_tbl) (i := 39) (by decide +kernel)) rfl
theorem ql_X5_222 : qx_LV RX5 222 yX5_isSheet := ⟨qw_599, qw_39, Or.inl qw_597⟩
theorem qw_800 : Cond.methodLinkNest RX5 226 yX2_begin "BustRest" ∈ qx_Nd := qx_inN (List.mem_of_getElem? (l := lw_tbl) (i := 800) (by decide +kernel)) rfl
theorem qw_802 : Cond.instanceMethod yX2_begin ∈ qx_Wd := qx_in (List.mem_of_getElem? (l := lw_tbl) (i := 802) (by decide +kernel)) rfl
theorem qw_60 : Cond.selects RX2 yX2_begin yX2_begin ∈ qx_Wd := qx_in (List.mem_of_getElem? (l := lw_tbl) (i := 60) (by decide +kernel)) rfl
theorem ql_X5_226 : qx_LV RX5 226 yX2_begin := ⟨qw_802, qw_60, Or.inr ⟨_, qw_800⟩⟩
theorem qw_593 : Cond.methodLink RX5 232 yX5_findingOfSheet ∈ qx_Wd := qx_in (List.mem_of_getElem? (l := lw_tbl) (i := 593) (by decide +kernel)) rfl
theorem qw_595 : Cond.instanceMethod yX5_findingOfSheet ∈ qx_Wd := qx_in (List.mem_of_getElem? (l := lw_tbl) (i := 595) (by decide +kernel)) rfl
theorem qw_38 : Cond.selects RX5 yX5_findingOfSheet yX5_findingOfSheet ∈ qx_Wd := qx_in (List.mem_of_getElem? (l := lw_tbl) (i := 38) (by decide +kernel)) rfl
theorem ql_X5_232 : qx_LV RX5 232 yX5_findingOfSheet := ⟨qw_595, qw_38, Or.inl qw_593⟩
theorem qw_808 : Cond.methodLinkNest RX5 235 yX2_put "BustRest" ∈ qx_Nd := qx_inN (List.mem_of_getElem? (l := lw_tbl) (i := 808) (by decide +kernel)) rfl
theorem qw_810 : Cond.instanceMethod yX2_put ∈ qx_Wd := qx_in (List.mem_of_getElem? (l := lw_tbl) (i := 810) (by decide +kernel)) rfl
theorem qw_61 : Cond.selects RX2 yX2_put yX2_put ∈ qx_Wd := qx_in (List.mem_of_getElem? (l := lw_tbl) (i := 61) (by decide +kernel)) rfl
theorem ql_X5_235 : qx_LV RX5 235 yX2_put := ⟨qw_810, qw_61, Or.inr ⟨_, qw_808⟩⟩
theorem qw_601 : Cond.methodLinkNest RX5 238 yX2_isMissing "BustRest" ∈ qx_Nd := qx_inN (List.mem_of_getElem? (l := lw_tbl) (i := 601) (by decide +kernel)) rfl
theorem qw_603 : Cond.instanceMethod yX2_isMissing ∈ qx_Wd := qx_in (List.mem_of_getElem? (l := lw_tbl) (i := 603) (by decide +kernel)) rfl
theorem qw_40 : Cond.selects RX2 yX2_isMissing yX2_isMissing ∈ qx_Wd := qx_in (List.mem_of_getElem? (l := lw_tbl) (i := 40) (by decide +kernel)) rfl
theorem ql_X5_238 : qx_LV RX5 238 yX2_isMissing := ⟨qw_603, qw_40, Or.inr ⟨_, qw_601⟩⟩
theorem qw_816 : Cond.methodLinkNest RX5 245 yX2_spans "BustRest" ∈ qx_Nd := qx_inN (List.mem_of_getElem? (l := lw_tbl) (i := 816) (by decide +kernel)) rfl
theorem qw_818 : Cond.instanceMethod yX2_spans ∈ qx_Wd := qx_in (List.mem_of_getElem? (l := lw_tbl) (i := 818) (by decide +kernel)) rfl
theorem qw_62 : Cond.selects RX2 yX2_spans yX2_spans ∈ qx_Wd := qx_in (List.mem_of_getElem? (l := lw_tbl) (i := 62) (by decide +kernel)) rfl
theorem ql_X5_245 : qx_LV RX5 245 yX2_spans := ⟨qw_818, qw_62, Or.inr ⟨_, qw_816⟩⟩
theorem qw_820 : Cond.methodLink RX5 251 arraycopyName ∈ qx_Wd := qx_in (List.mem_of_getElem? (l := lw_tbl) (i := 820) (by decide +kernel)) rfl
theorem qw_515 : Cond.native arraycopyName ∈ qx_Wd := qx_in (List.mem_of_getElem? (l := lw_tbl) (i := 515) (by decide +kernel)) rfl
theorem qw_514 : Cond.static arraycopyName ∈ qx_Wd := qx_in (List.mem_of_getElem? (l := lw_tbl) (i := 514) (by decide +kernel)) rfl
theorem qw_124 : Cond.initialized "java/lang/System" ∈ qx_Wd := qx_in (List.mem_of_getElem? (l := lw_tbl) (i := 124) (by decide +kernel)) rfl
theorem ql_X5_251 : qx_LA RX5 251 := ⟨qw_820, qw_515, qw_514, qw_124⟩
theorem qw_825 : Cond.methodLink RX5 257 Lib.Math.min.name ∈ qx_Wd := qx_in (List.mem_of_getElem? (l := lw_tbl) (i := 825) (by decide +kernel)) rfl
theorem qw_454 : Cond.static Lib.Math.min.name ∈ qx_Wd := qx_in (List.mem_of_getElem? (l := lw_tbl) (i := 454) (by decide +kernel)) rfl
theorem qw_123 : Cond.initialized "java/lang/Math" ∈ qx_Wd := qx_in (List.mem_of_getElem? (l := lw_tbl) (i := 123) (by decide +kernel)) rfl
theorem qw_455 : Cond.code Lib.Math.min.name Lib.Math.min.code 2 (some .int) ∈ qx_Wd := qx_in (List.mem_of_getElem? (l := lw_tbl) (i := 455) (by decide +kernel)) rfl
theorem ql_X5_257 : qx_LM RX5 257 Lib.Math.min.name Lib.Math.min.code := ⟨qw_825, qw_454, qw_123, qw_455⟩
theorem qw_846 : Cond.methodLinkNest RX5 262 yX1_spotsTaken "BustRest" ∈ qx_Nd := qx_inN (List.mem_of_getElem? (l := lw_tbl) (i := 846) (by decide +kernel)) rfl
theorem qw_848 : Cond.instanceMethod yX1_spotsTaken ∈ qx_Wd := qx_in (List.mem_of_getElem? (l := lw_tbl) (i := 848) (by decide +kernel)) rfl
theorem qw_63 : Cond.selects RX1 yX1_spotsTaken yX1_spotsTaken ∈ qx_Wd := qx_in (List.mem_of_getElem? (l := lw_tbl) (i := 63) (by decide +kernel)) rfl
theorem ql_X5_262 : qx_LV RX5 262 yX1_spotsTaken := ⟨qw_848, qw_63, Or.inr ⟨_, qw_846⟩⟩
theorem qw_149 : Cond.methodLink RX0 3 objectInit ∈ qx_Wd := qx_in (List.mem_of_getElem? (l := lw_tbl) (i := 149) (by decide +kernel)) rfl
theorem qw_359 : Cond.methodLink RX0 33 yX0_yearnsMore ∈ qx_Wd := qx_in (List.mem_of_getElem? (l := lw_tbl) (i := 359) (by decide +kernel)) rfl
theorem qw_361 : Cond.instanceMethod yX0_yearnsMore ∈ qx_Wd := qx_in (List.mem_of_getElem? (l := lw_tbl) (i := 361) (by decide +kernel)) rfl
theorem qw_5 : Cond.selects RX0 yX0_yearnsMore yX0_yearnsMore ∈ qx_Wd := qx_in (List.mem_of_getElem? (l := lw_tbl) (i := 5) (by decide +kernel)) rfl
theorem ql_X0_33 : qx_LV RX0 33 yX0_yearnsMore := ⟨qw_361, qw_5, Or.inl qw_359⟩
theorem qw_376 : Cond.methodLink RX0 37 yX0_leavesWith ∈ qx_Wd := qx_in (List.mem_of_getElem? (l := lw_tbl) (i := 376) (by decide +kernel)) rfl
theorem qw_378 : Cond.instanceMethod yX0_leavesWith ∈ qx_Wd := qx_in (List.mem_of_getElem? (l := lw_tbl) (i := 378) (by decide +kernel)) rfl
theorem qw_7 : Cond.selects RX0 yX0_leavesWith yX0_leavesWith ∈ qx_Wd := qx_in (List.mem_of_getElem? (l := lw_tbl) (i := 7) (by decide +kernel)) rfl
theorem ql_X0_37 : qx_LV RX0 37 yX0_leavesWith := ⟨qw_378, qw_7, Or.inl qw_376⟩
theorem qw_380 : Cond.methodLink RX0 40 yX0_stepsInADay ∈ qx_Wd := qx_in (List.mem_of_getElem? (l := lw_tbl) (i := 380) (by decide +kernel)) rfl
theorem qw_382 : Cond.instanceMethod yX0_stepsInADay ∈ qx_Wd := qx_in (List.mem_of_getElem? (l := lw_tbl) (i := 382) (by decide +kernel)) rfl
theorem qw_8 : Cond.selects RX0 yX0_stepsInADay yX0_stepsInADay ∈ qx_Wd := qx_in (List.mem_of_getElem? (l := lw_tbl) (i := 8) (by decide +kernel)) rfl
theorem ql_X0_40 : qx_LV RX0 40 yX0_stepsInADay := ⟨qw_382, qw_8, Or.inl qw_380⟩
theorem qw_384 : Cond.methodLink RX0 43 yX0_says ∈ qx_Wd := qx_in (List.mem_of_getElem? (l := lw_tbl) (i := 384) (by decide +kernel)) rfl
theorem ql_X0_43 : qx_LV RX0 43 yX0_says := ⟨qw_386, qw_9, Or.inl qw_384⟩
theorem qw_369 : Cond.methodLink RX0 50 yX0_hasPart ∈ qx_Wd := qx_in (List.mem_of_getElem? (l := lw_tbl) (i := 369) (by decide +kernel)) rfl
theorem ql_X0_50 : qx_LV RX0 50 yX0_hasPart := ⟨qw_371, qw_6, Or.inl qw_369⟩
theorem qw_363 : Cond.methodLink RX0 54 yJ6_bitCount_0f7a4 ∈ qx_Wd := qx_in (List.mem_of_getElem? (l := lw_tbl) (i := 363) (by decide +kernel)) rfl
theorem ql_X0_54 : qx_LS RX0 54 yJ6_bitCount_0f7a4 := ⟨qw_364, qw_363⟩
theorem qw_373 : Cond.methodLink RX0 60 Lib.Math.max.name ∈ qx_Wd := qx_in (List.mem_of_getElem? (l := lw_tbl) (i := 373) (by decide +kernel)) rfl
theorem qw_374 : Cond.static Lib.Math.max.name ∈ qx_Wd := qx_in (List.mem_of_getElem? (l := lw_tbl) (i := 374) (by decide +kernel)) rfl
theorem qw_375 : Cond.code Lib.Math.max.name Lib.Math.max.code 2 (some .int) ∈ qx_Wd := qx_in (List.mem_of_getElem? (l := lw_tbl) (i := 375) (by decide +kernel)) rfl
theorem ql_X0_60 : qx_LM RX0 60 Lib.Math.max.name Lib.Math.max.code := ⟨qw_373, qw_374, qw_123, qw_375⟩
theorem qw_388 : Cond.methodLink RX0 66 yX0_greatestPart ∈ qx_Wd := qx_in (List.mem_of_getElem? (l := lw_tbl) (i := 388) (by decide +kernel)) rfl
theorem qw_390 : Cond.instanceMethod yX0_greatestPart ∈ qx_Wd := qx_in (List.mem_of_getElem? (l := lw_tbl) (i := 390) (by decide +kernel)) rfl
theorem qw_10 : Cond.selects RX0 yX0_greatestPart yX0_greatestPart ∈ qx_Wd := qx_in (List.mem_of_getElem? (l := lw_tbl) (i := 10) (by decide +kernel)) rfl
theorem ql_X0_66 : qx_LV RX0 66 yX0_greatestPart := ⟨qw_390, qw_10, Or.inl qw_388⟩
theorem qw_465 : Cond.methodLink RX0 69 Lib.Math.min.name ∈ qx_Wd := qx_in (List.mem_of_getElem? (l := lw_tbl) (i := 465) (by decide +kernel)) rfl
theorem ql_X0_69 : qx_LM RX0 69 Lib.Math.min.name Lib.Math.min.code := ⟨qw_465, qw_454, qw_123, qw_455⟩
theorem qw_571 : Cond.methodLink RX0 72 yX0_takes ∈ qx_Wd := qx_in (List.mem_of_getElem? (l := lw_tbl) (i := 571) (by decide +kernel)) rfl
theorem ql_X0_72 : qx_LV RX0 72 yX0_takes := ⟨qw_408, qw_12, Or.inl qw_571⟩
theorem qw_572 : Cond.methodLink RX0 75 yX0_takesBehind ∈ qx_Wd := qx_in (List.mem_of_getElem? (l := lw_tbl) (i := 572) (by decide +kernel)) rfl
theorem qw_574 : Cond.instanceMethod yX0_takesBehind ∈ qx_Wd := qx_in (List.mem_of_getElem? (l := lw_tbl) (i := 574) (by decide +kernel)) rfl
theorem qw_35 : Cond.selects RX0 yX0_takesBehind yX0_takesBehind ∈ qx_Wd := qx_in (List.mem_of_getElem? (l := lw_tbl) (i := 35) (by decide +kernel)) rfl
theorem ql_X0_75 : qx_LV RX0 75 yX0_takesBehind := ⟨qw_574, qw_35, Or.inl qw_572⟩
theorem qw_576 : Cond.methodLink RX0 78 yX0_receive ∈ qx_Wd := qx_in (List.mem_of_getElem? (l := lw_tbl) (i := 576) (by decide +kernel)) rfl
theorem ql_X0_78 : qx_LV RX0 78 yX0_receive := ⟨qw_428, qw_14, Or.inl qw_576⟩
theorem qw_142 : Cond.methodLink RX1 3 objectInit ∈ qx_Wd := qx_in (List.mem_of_getElem? (l := lw_tbl) (i := 142) (by decide +kernel)) rfl
theorem qw_146 : Cond.methodLinkNest RX1 40 yX0_init "BustRest" ∈ qx_Nd := qx_inN (List.mem_of_getElem? (l := lw_tbl) (i := 146) (by decide +kernel)) rfl
theorem qw_147 : Cond.instanceMethod yX0_init ∈ qx_Wd := qx_in (List.mem_of_getElem? (l := lw_tbl) (i := 147) (by decide +kernel)) rfl
theorem qw_513 : Cond.methodLink RX1 41 arraycopyName ∈ qx_Wd := qx_in (List.mem_of_getElem? (l := lw_tbl) (i := 513) (by decide +kernel)) rfl
theorem ql_X1_41 : qx_LA RX1 41 := ⟨qw_513, qw_515, qw_514, qw_124⟩
theorem qw_516 : Cond.methodLinkNest RX1 47 yX0_copyFrom "BustRest" ∈ qx_Nd := qx_inN (List.mem_of_getElem? (l := lw_tbl) (i := 516) (by decide +kernel)) rfl
theorem qw_518 : Cond.instanceMethod yX0_copyFrom ∈ qx_Wd := qx_in (List.mem_of_getElem? (l := lw_tbl) (i := 518) (by decide +kernel)) rfl
theorem qw_30 : Cond.selects RX0 yX0_copyFrom yX0_copyFrom ∈ qx_Wd := qx_in (List.mem_of_getElem? (l := lw_tbl) (i := 30) (by decide +kernel)) rfl
theorem ql_X1_47 : qx_LV RX1 47 yX0_copyFrom := ⟨qw_518, qw_30, Or.inr ⟨_, qw_516⟩⟩
theorem qw_342 : Cond.methodLinkNest RX1 51 yX0_begin "BustRest" ∈ qx_Nd := qx_inN (List.mem_of_getElem? (l := lw_tbl) (i := 342) (by decide +kernel)) rfl
theorem qw_344 : Cond.instanceMethod yX0_begin ∈ qx_Wd := qx_in (List.mem_of_getElem? (l := lw_tbl) (i := 344) (by decide +kernel)) rfl
theorem qw_2 : Cond.selects RX0 yX0_begin yX0_begin ∈ qx_Wd := qx_in (List.mem_of_getElem? (l := lw_tbl) (i := 2) (by decide +kernel)) rfl
theorem ql_X1_51 : qx_LV RX1 51 yX0_begin := ⟨qw_344, qw_2, Or.inr ⟨_, qw_342⟩⟩
theorem qw_418 : Cond.methodLinkNest RX1 61 yX0_takes "BustRest" ∈ qx_Nd := qx_inN (List.mem_of_getElem? (l := lw_tbl) (i := 418) (by decide +kernel)) rfl
theorem ql_X1_61 : qx_LV RX1 61 yX0_takes := ⟨qw_408, qw_12, Or.inr ⟨_, qw_418⟩⟩
theorem qw_439 : Cond.methodLink RX1 65 yX1_passDay ∈ qx_Wd := qx_in (List.mem_of_getElem? (l := lw_tbl) (i := 439) (by decide +kernel)) rfl
theorem ql_X1_65 : qx_LV RX1 65 yX1_passDay := ⟨qw_441, qw_16, Or.inl qw_439⟩
theorem qw_443 : Cond.methodLink RX1 68 yX1_placeToday ∈ qx_Wd := qx_in (List.mem_of_getElem? (l := lw_tbl) (i := 443) (by decide +kernel)) rfl
theorem ql_X1_68 : qx_LV RX1 68 yX1_placeToday := ⟨qw_445, qw_17, Or.inl qw_443⟩
theorem qw_447 : Cond.methodLink RX1 72 yX1_heirOf ∈ qx_Wd := qx_in (List.mem_of_getElem? (l := lw_tbl) (i := 447) (by decide +kernel)) rfl
theorem ql_X1_72 : qx_LV RX1 72 yX1_heirOf := ⟨qw_416, qw_13, Or.inl qw_447⟩
theorem qw_448 : Cond.methodLink RX1 76 yX1_bequeath ∈ qx_Wd := qx_in (List.mem_of_getElem? (l := lw_tbl) (i := 448) (by decide +kernel)) rfl
theorem qw_450 : Cond.instanceMethod yX1_bequeath ∈ qx_Wd := qx_in (List.mem_of_getElem? (l := lw_tbl) (i := 450) (by decide +kernel)) rfl
theorem qw_18 : Cond.selects RX1 yX1_bequeath yX1_bequeath ∈ qx_Wd := qx_in (List.mem_of_getElem? (l := lw_tbl) (i := 18) (by decide +kernel)) rfl
theorem ql_X1_76 : qx_LV RX1 76 yX1_bequeath := ⟨qw_450, qw_18, Or.inl qw_448⟩
theorem qw_456 : Cond.methodLink RX1 79 yX1_passDayOf ∈ qx_Wd := qx_in (List.mem_of_getElem? (l := lw_tbl) (i := 456) (by decide +kernel)) rfl
theorem qw_458 : Cond.instanceMethod yX1_passDayOf ∈ qx_Wd := qx_in (List.mem_of_getElem? (l := lw_tbl) (i := 458) (by decide +kernel)) rfl
theorem qw_19 : Cond.selects RX1 yX1_passDayOf yX1_passDayOf ∈ qx_Wd := qx_in (List.mem_of_getElem? (l := lw_tbl) (i := 19) (by decide +kernel)) rfl
theorem ql_X1_79 : qx_LV RX1 79 yX1_passDayOf := ⟨qw_458, qw_19, Or.inl qw_456⟩
theorem qw_453 : Cond.methodLink RX1 83 Lib.Math.min.name ∈ qx_Wd := qx_in (List.mem_of_getElem? (l := lw_tbl) (i := 453) (by decide +kernel)) rfl
theorem ql_X1_83 : qx_LM RX1 83 Lib.Math.min.name Lib.Math.min.code := ⟨qw_453, qw_454, qw_123, qw_455⟩
theorem qw_452 : Cond.methodLinkNest RX1 89 yX0_receive "BustRest" ∈ qx_Nd := qx_inN (List.mem_of_getElem? (l := lw_tbl) (i := 452) (by decide +kernel)) rfl
theorem ql_X1_89 : qx_LV RX1 89 yX0_receive := ⟨qw_428, qw_14, Or.inr ⟨_, qw_452⟩⟩
theorem qw_460 : Cond.methodLinkNest RX1 93 yX0_yearnsMore "BustRest" ∈ qx_Nd := qx_inN (List.mem_of_getElem? (l := lw_tbl) (i := 460) (by decide +kernel)) rfl
theorem ql_X1_93 : qx_LV RX1 93 yX0_yearnsMore := ⟨qw_361, qw_5, Or.inr ⟨_, qw_460⟩⟩
theorem qw_461 : Cond.methodLinkNest RX1 96 yX0_yearn "BustRest" ∈ qx_Nd := qx_inN (List.mem_of_getElem? (l := lw_tbl) (i := 461) (by decide +kernel)) rfl
theorem qw_463 : Cond.instanceMethod yX0_yearn ∈ qx_Wd := qx_in (List.mem_of_getElem? (l := lw_tbl) (i := 463) (by decide +kernel)) rfl
theorem qw_20 : Cond.selects RX0 yX0_yearn yX0_yearn ∈ qx_Wd := qx_in (List.mem_of_getElem? (l := lw_tbl) (i := 20) (by decide +kernel)) rfl
theorem ql_X1_96 : qx_LV RX1 96 yX0_yearn := ⟨qw_463, qw_20, Or.inr ⟨_, qw_461⟩⟩
theorem qw_466 : Cond.methodLinkNest RX1 99 yX0_wouldWalk "BustRest" ∈ qx_Nd := qx_inN (List.mem_of_getElem? (l := lw_tbl) (i := 466) (by decide +kernel)) rfl
theorem qw_468 : Cond.instanceMethod yX0_wouldWalk ∈ qx_Wd := qx_in (List.mem_of_getElem? (l := lw_tbl) (i := 468) (by decide +kernel)) rfl
theorem qw_21 : Cond.selects RX0 yX0_wouldWalk yX0_wouldWalk ∈ qx_Wd := qx_in (List.mem_of_getElem? (l := lw_tbl) (i := 21) (by decide +kernel)) rfl
theorem ql_X1_99 : qx_LV RX1 99 yX0_wouldWalk := ⟨qw_468, qw_21, Or.inr ⟨_, qw_466⟩⟩
theorem qw_470 : Cond.methodLinkNest RX1 106 yX0_stepsInADay "BustRest" ∈ qx_Nd := qx_inN (List.mem_of_getElem? (l := lw_tbl) (i := 470) (by decide +kernel)) rfl
theorem ql_X1_106 : qx_LV RX1 106 yX0_stepsInADay := ⟨qw_382, qw_8, Or.inr ⟨_, qw_470⟩⟩
theorem qw_623 : Cond.methodLink RX1 110 yX1_draw ∈ qx_Wd := qx_in (List.mem_of_getElem? (l := lw_tbl) (i := 623) (by decide +kernel)) rfl
theorem qw_625 : Cond.instanceMethod yX1_draw ∈ qx_Wd := qx_in (List.mem_of_getElem? (l := lw_tbl) (i := 625) (by decide +kernel)) rfl
theorem qw_43 : Cond.selects RX1 yX1_draw yX1_draw ∈ qx_Wd := qx_in (List.mem_of_getElem? (l := lw_tbl) (i := 43) (by decide +kernel)) rfl
theorem ql_X1_110 : qx_LV RX1 110 yX1_draw := ⟨qw_625, qw_43, Or.inl qw_623⟩
theorem qw_492 : Cond.methodLinkNest RX1 116 yX0_says "BustRest" ∈ qx_Nd := qx_inN (List.mem_of_getElem? (l := lw_tbl) (i := 492) (by decide +kernel)) rfl
theorem ql_X1_116 : qx_LV RX1 116 yX0_says := ⟨qw_386, qw_9, Or.inr ⟨_, qw_492⟩⟩
theorem qw_275 : Cond.methodLink RX2 3 objectInit ∈ qx_Wd := qx_in (List.mem_of_getElem? (l := lw_tbl) (i := 275) (by decide +kernel)) rfl
theorem qw_226 : Cond.methodLink RX3 3 objectInit ∈ qx_Wd := qx_in (List.mem_of_getElem? (l := lw_tbl) (i := 226) (by decide +kernel)) rfl
theorem qw_663 : Cond.methodLink RX3 31 yX3_readToken ∈ qx_Wd := qx_in (List.mem_of_getElem? (l := lw_tbl) (i := 663) (by decide +kernel)) rfl
theorem qw_665 : Cond.instanceMethod yX3_readToken ∈ qx_Wd := qx_in (List.mem_of_getElem? (l := lw_tbl) (i := 665) (by decide +kernel)) rfl
theorem qw_47 : Cond.selects RX3 yX3_readToken yX3_readToken ∈ qx_Wd := qx_in (List.mem_of_getElem? (l := lw_tbl) (i := 47) (by decide +kernel)) rfl
theorem ql_X3_31 : qx_LV RX3 31 yX3_readToken := ⟨qw_665, qw_47, Or.inl qw_663⟩
theorem qw_667 : Cond.methodLink RX3 34 yX3_isLetter ∈ qx_Wd := qx_in (List.mem_of_getElem? (l := lw_tbl) (i := 667) (by decide +kernel)) rfl
theorem qw_669 : Cond.instanceMethod yX3_isLetter ∈ qx_Wd := qx_in (List.mem_of_getElem? (l := lw_tbl) (i := 669) (by decide +kernel)) rfl
theorem qw_48 : Cond.selects RX3 yX3_isLetter yX3_isLetter ∈ qx_Wd := qx_in (List.mem_of_getElem? (l := lw_tbl) (i := 48) (by decide +kernel)) rfl
theorem ql_X3_34 : qx_LV RX3 34 yX3_isLetter := ⟨qw_669, qw_48, Or.inl qw_667⟩
theorem qw_671 : Cond.methodLink RX3 38 yX3_isDigit ∈ qx_Wd := qx_in (List.mem_of_getElem? (l := lw_tbl) (i := 671) (by decide +kernel)) rfl
theorem qw_673 : Cond.instanceMethod yX3_isDigit ∈ qx_Wd := qx_in (List.mem_of_getElem? (l := lw_tbl) (i := 673) (by decide +kernel)) rfl
theorem qw_49 : Cond.selects RX3 yX3_isDigit yX3_isDigit ∈ qx_Wd := qx_in (List.mem_of_getElem? (l := lw_tbl) (i := 49) (by decide +kernel)) rfl
theorem ql_X3_38 : qx_LV RX3 38 yX3_isDigit := ⟨qw_673, qw_49, Or.inl qw_671⟩
theorem qw_675 : Cond.methodLink RX3 41 Lib.Math.min.name ∈ qx_Wd := qx_in (List.mem_of_getElem? (l := lw_tbl) (i := 675) (by decide +kernel)) rfl
theorem ql_X3_41 : qx_LM RX3 41 Lib.Math.min.name Lib.Math.min.code := ⟨qw_675, qw_454, qw_123, qw_455⟩
theorem qw_685 : Cond.methodLink RX3 47 yJ0_length_8abf5 ∈ qx_Wd := qx_in (List.mem_of_getElem? (l := lw_tbl) (i := 685) (by decide +kernel)) rfl
theorem qw_686 : Cond.instanceMethod yJ0_length_8abf5 ∈ qx_Wd := qx_in (List.mem_of_getElem? (l := lw_tbl) (i := 686) (by decide +kernel)) rfl
theorem qw_687 : Cond.selects RJ0 yJ0_length_8abf5 yJ0_length_8abf5 ∈ qx_Wd := qx_in (List.mem_of_getElem? (l := lw_tbl) (i := 687) (by decide +kernel)) rfl
theorem ql_X3_47 : qx_LV RX3 47 yJ0_length_8abf5 := ⟨qw_686, qw_687, Or.inl qw_685⟩
theorem qw_695 : Cond.methodLink RX3 52 yJ0_charAt_5068e ∈ qx_Wd := qx_in (List.mem_of_getElem? (l := lw_tbl) (i := 695) (by decide +kernel)) rfl
theorem qw_696 : Cond.instanceMethod yJ0_charAt_5068e ∈ qx_Wd := qx_in (List.mem_of_getElem? (l := lw_tbl) (i := 696) (by decide +kernel)) rfl
theorem qw_697 : Cond.selects RJ0 yJ0_charAt_5068e yJ0_charAt_5068e ∈ qx_Wd := qx_in (List.mem_of_getElem? (l := lw_tbl) (i := 697) (by decide +kernel)) rfl
theorem ql_X3_52 : qx_LV RX3 52 yJ0_charAt_5068e := ⟨qw_696, qw_697, Or.inl qw_695⟩
theorem qw_255 : Cond.methodLink RX4 3 objectInit ∈ qx_Wd := qx_in (List.mem_of_getElem? (l := lw_tbl) (i := 255) (by decide +kernel)) rfl
theorem qw_659 : Cond.methodLinkNest RX4 26 yX3_rewind "BustRest" ∈ qx_Nd := qx_inN (List.mem_of_getElem? (l := lw_tbl) (i := 659) (by decide +kernel)) rfl
theorem qw_661 : Cond.instanceMethod yX3_rewind ∈ qx_Wd := qx_in (List.mem_of_getElem? (l := lw_tbl) (i := 661) (by decide +kernel)) rfl
theorem qw_46 : Cond.selects RX3 yX3_rewind yX3_rewind ∈ qx_Wd := qx_in (List.mem_of_getElem? (l := lw_tbl) (i := 46) (by decide +kernel)) rfl
theorem ql_X4_26 : qx_LV RX4 26 yX3_rewind := ⟨qw_661, qw_46, Or.inr ⟨_, qw_659⟩⟩
theorem qw_676 : Cond.methodLink RX4 31 yX4_readItem ∈ qx_Wd := qx_in (List.mem_of_getElem? (l := lw_tbl) (i := 676) (by decide +kernel)) rfl
theorem qw_678 : Cond.instanceMethod yX4_readItem ∈ qx_Wd := qx_in (List.mem_of_getElem? (l := lw_tbl) (i := 678) (by decide +kernel)) rfl
theorem qw_50 : Cond.selects RX4 yX4_readItem yX4_readItem ∈ qx_Wd := qx_in (List.mem_of_getElem? (l := lw_tbl) (i := 50) (by decide +kernel)) rfl
theorem ql_X4_31 : qx_LV RX4 31 yX4_readItem := ⟨qw_678, qw_50, Or.inl qw_676⟩
theorem qw_741 : Cond.methodLinkNest RX4 38 yX3_readToken "BustRest" ∈ qx_Nd := qx_inN (List.mem_of_getElem? (l := lw_tbl) (i := 741) (by decide +kernel)) rfl
theorem ql_X4_38 : qx_LV RX4 38 yX3_readToken := ⟨qw_665, qw_47, Or.inr ⟨_, qw_741⟩⟩
theorem qw_681 : Cond.methodLinkNest RX4 46 yX3_isWord "BustRest" ∈ qx_Nd := qx_inN (List.mem_of_getElem? (l := lw_tbl) (i := 681) (by decide +kernel)) rfl
theorem qw_683 : Cond.instanceMethod yX3_isWord ∈ qx_Wd := qx_in (List.mem_of_getElem? (l := lw_tbl) (i := 683) (by decide +kernel)) rfl
theorem qw_51 : Cond.selects RX3 yX3_isWord yX3_isWord ∈ qx_Wd := qx_in (List.mem_of_getElem? (l := lw_tbl) (i := 51) (by decide +kernel)) rfl
theorem ql_X4_46 : qx_LV RX4 46 yX3_isWord := ⟨qw_683, qw_51, Or.inr ⟨_, qw_681⟩⟩
theorem qw_733 : Cond.methodLink RX4 50 yX4_readBequest ∈ qx_Wd := qx_in (List.mem_of_getElem? (l := lw_tbl) (i := 733) (by decide +kernel)) rfl
theorem qw_735 : Cond.instanceMethod yX4_readBequest ∈ qx_Wd := qx_in (List.mem_of_getElem? (l := lw_tbl) (i := 735) (by decide +kernel)) rfl
theorem qw_52 : Cond.selects RX4 yX4_readBequest yX4_readBequest ∈ qx_Wd := qx_in (List.mem_of_getElem? (l := lw_tbl) (i := 52) (by decide +kernel)) rfl
theorem ql_X4_50 : qx_LV RX4 50 yX4_readBequest := ⟨qw_735, qw_52, Or.inl qw_733⟩
theorem qw_747 : Cond.methodLink RX4 55 yX4_readStore ∈ qx_Wd := qx_in (List.mem_of_getElem? (l := lw_tbl) (i := 747) (by decide +kernel)) rfl
theorem qw_749 : Cond.instanceMethod yX4_readStore ∈ qx_Wd := qx_in (List.mem_of_getElem? (l := lw_tbl) (i := 749) (by decide +kernel)) rfl
theorem qw_55 : Cond.selects RX4 yX4_readStore yX4_readStore ∈ qx_Wd := qx_in (List.mem_of_getElem? (l := lw_tbl) (i := 55) (by decide +kernel)) rfl
theorem ql_X4_55 : qx_LV RX4 55 yX4_readStore := ⟨qw_749, qw_55, Or.inl qw_747⟩
theorem qw_751 : Cond.methodLink RX4 58 yX4_wordOf ∈ qx_Wd := qx_in (List.mem_of_getElem? (l := lw_tbl) (i := 751) (by decide +kernel)) rfl
theorem qw_752 : Cond.static yX4_wordOf ∈ qx_Wd := qx_in (List.mem_of_getElem? (l := lw_tbl) (i := 752) (by decide +kernel)) rfl
theorem ql_X4_58 : qx_LS RX4 58 yX4_wordOf := ⟨qw_752, qw_751⟩
theorem qw_761 : Cond.methodLink RX4 62 yX4_readBust ∈ qx_Wd := qx_in (List.mem_of_getElem? (l := lw_tbl) (i := 761) (by decide +kernel)) rfl
theorem qw_763 : Cond.instanceMethod yX4_readBust ∈ qx_Wd := qx_in (List.mem_of_getElem? (l := lw_tbl) (i := 763) (by decide +kernel)) rfl
theorem qw_56 : Cond.selects RX4 yX4_readBust yX4_readBust ∈ qx_Wd := qx_in (List.mem_of_getElem? (l := lw_tbl) (i := 56) (by decide +kernel)) rfl
theorem ql_X4_62 : qx_LV RX4 62 yX4_readBust := ⟨qw_763, qw_56, Or.inl qw_761⟩
theorem qw_737 : Cond.methodLink RX4 80 yX4_readTwoNumbers ∈ qx_Wd := qx_in (List.mem_of_getElem? (l := lw_tbl) (i := 737) (by decide +kernel)) rfl
theorem qw_739 : Cond.instanceMethod yX4_readTwoNumbers ∈ qx_Wd := qx_in (List.mem_of_getElem? (l := lw_tbl) (i := 739) (by decide +kernel)) rfl
theorem qw_53 : Cond.selects RX4 yX4_readTwoNumbers yX4_readTwoNumbers ∈ qx_Wd := qx_in (List.mem_of_getElem? (l := lw_tbl) (i := 53) (by decide +kernel)) rfl
theorem ql_X4_80 : qx_LV RX4 80 yX4_readTwoNumbers := ⟨qw_739, qw_53, Or.inl qw_737⟩
theorem qw_742 : Cond.methodLinkNest RX4 92 yX3_isNumber "BustRest" ∈ qx_Nd := qx_inN (List.mem_of_getElem? (l := lw_tbl) (i := 742) (by decide +kernel)) rfl
theorem qw_744 : Cond.instanceMethod yX3_isNumber ∈ qx_Wd := qx_in (List.mem_of_getElem? (l := lw_tbl) (i := 744) (by decide +kernel)) rfl
theorem qw_54 : Cond.selects RX3 yX3_isNumber yX3_isNumber ∈ qx_Wd := qx_in (List.mem_of_getElem? (l := lw_tbl) (i := 54) (by decide +kernel)) rfl
theorem ql_X4_92 : qx_LV RX4 92 yX3_isNumber := ⟨qw_744, qw_54, Or.inr ⟨_, qw_742⟩⟩
theorem qw_765 : Cond.methodLinkNest RX4 98 yX1_addBust "BustRest" ∈ qx_Nd := qx_inN (List.mem_of_getElem? (l := lw_tbl) (i := 765) (by decide +kernel)) rfl
theorem ql_X4_98 : qx_LV RX4 98 yX1_addBust := ⟨qw_340, qw_1, Or.inr ⟨_, qw_765⟩⟩
theorem qw_767 : Cond.methodLink RX4 113 yX4_readMore ∈ qx_Wd := qx_in (List.mem_of_getElem? (l := lw_tbl) (i := 767) (by decide +kernel)) rfl
theorem qw_769 : Cond.instanceMethod yX4_readMore ∈ qx_Wd := qx_in (List.mem_of_getElem? (l := lw_tbl) (i := 769) (by decide +kernel)) rfl
theorem qw_57 : Cond.selects RX4 yX4_readMore yX4_readMore ∈ qx_Wd := qx_in (List.mem_of_getElem? (l := lw_tbl) (i := 57) (by decide +kernel)) rfl
theorem ql_X4_113 : qx_LV RX4 113 yX4_readMore := ⟨qw_769, qw_57, Or.inl qw_767⟩
theorem qw_774 : Cond.methodLink RX4 119 yX4_readSeal ∈ qx_Wd := qx_in (List.mem_of_getElem? (l := lw_tbl) (i := 774) (by decide +kernel)) rfl
theorem qw_776 : Cond.instanceMethod yX4_readSeal ∈ qx_Wd := qx_in (List.mem_of_getElem? (l := lw_tbl) (i := 776) (by decide +kernel)) rfl
theorem qw_58 : Cond.selects RX4 yX4_readSeal yX4_readSeal ∈ qx_Wd := qx_in (List.mem_of_getElem? (l := lw_tbl) (i := 58) (by decide +kernel)) rfl
theorem ql_X4_119 : qx_LV RX4 119 yX4_readSeal := ⟨qw_776, qw_58, Or.inl qw_774⟩
theorem qw_772 : Cond.methodLinkNest RX4 126 yX0_become "BustRest" ∈ qx_Nd := qx_inN (List.mem_of_getElem? (l := lw_tbl) (i := 772) (by decide +kernel)) rfl
theorem ql_X4_126 : qx_LV RX4 126 yX0_become := ⟨qw_400, qw_11, Or.inr ⟨_, qw_772⟩⟩
theorem qw_131 : Cond.methodLink RL 9 yX5_init ∈ qx_Wd := qx_in (List.mem_of_getElem? (l := lw_tbl) (i := 131) (by decide +kernel)) rfl
theorem qw_132 : Cond.instanceMethod yX5_init ∈ qx_Wd := qx_in (List.mem_of_getElem? (l := lw_tbl) (i := 132) (by decide +kernel)) rfl
theorem qw_856 : Cond.methodLink RL 12 yX6_init ∈ qx_Wd := qx_in (List.mem_of_getElem? (l := lw_tbl) (i := 856) (by decide +kernel)) rfl
theorem qw_857 : Cond.instanceMethod yX6_init ∈ qx_Wd := qx_in (List.mem_of_getElem? (l := lw_tbl) (i := 857) (by decide +kernel)) rfl
theorem qw_314 : Cond.methodLink RL 13 yX5_bequest ∈ qx_Wd := qx_in (List.mem_of_getElem? (l := lw_tbl) (i := 314) (by decide +kernel)) rfl
theorem qw_315 : Cond.instanceMethod yX5_bequest ∈ qx_Wd := qx_in (List.mem_of_getElem? (l := lw_tbl) (i := 315) (by decide +kernel)) rfl
theorem qw_316 : Cond.selects RX5 yX5_bequest yX5_bequest ∈ qx_Wd := qx_in (List.mem_of_getElem? (l := lw_tbl) (i := 316) (by decide +kernel)) rfl
theorem ql_L_13 : qx_LV RL 13 yX5_bequest := ⟨qw_315, qw_316, Or.inl qw_314⟩
theorem qw_930 : Cond.methodLink RL 17 yX6_bequest ∈ qx_Wd := qx_in (List.mem_of_getElem? (l := lw_tbl) (i := 930) (by decide +kernel)) rfl
theorem qw_931 : Cond.instanceMethod yX6_bequest ∈ qx_Wd := qx_in (List.mem_of_getElem? (l := lw_tbl) (i := 931) (by decide +kernel)) rfl
theorem qw_932 : Cond.selects RX6 yX6_bequest yX6_bequest ∈ qx_Wd := qx_in (List.mem_of_getElem? (l := lw_tbl) (i := 932) (by decide +kernel)) rfl
theorem ql_L_17 : qx_LV RL 17 yX6_bequest := ⟨qw_931, qw_932, Or.inl qw_930⟩
theorem qw_326 : Cond.methodLink RL 18 yX5_listed ∈ qx_Wd := qx_in (List.mem_of_getElem? (l := lw_tbl) (i := 326) (by decide +kernel)) rfl
theorem qw_327 : Cond.instanceMethod yX5_listed ∈ qx_Wd := qx_in (List.mem_of_getElem? (l := lw_tbl) (i := 327) (by decide +kernel)) rfl
theorem qw_328 : Cond.selects RX5 yX5_listed yX5_listed ∈ qx_Wd := qx_in (List.mem_of_getElem? (l := lw_tbl) (i := 328) (by decide +kernel)) rfl
theorem ql_L_18 : qx_LV RL 18 yX5_listed := ⟨qw_327, qw_328, Or.inl qw_326⟩
theorem qw_952 : Cond.methodLink RL 22 yX6_listed ∈ qx_Wd := qx_in (List.mem_of_getElem? (l := lw_tbl) (i := 952) (by decide +kernel)) rfl
theorem qw_953 : Cond.instanceMethod yX6_listed ∈ qx_Wd := qx_in (List.mem_of_getElem? (l := lw_tbl) (i := 953) (by decide +kernel)) rfl
theorem qw_954 : Cond.selects RX6 yX6_listed yX6_listed ∈ qx_Wd := qx_in (List.mem_of_getElem? (l := lw_tbl) (i := 954) (by decide +kernel)) rfl
theorem ql_L_22 : qx_LV RL 22 yX6_listed := ⟨qw_953, qw_954, Or.inl qw_952⟩
theorem qw_330 : Cond.methodLink RL 23 yX5_stored ∈ qx_Wd := qx_in (List.mem_of_getElem? (l := lw_tbl) (i := 330) (by decide +kernel)) rfl
theorem qw_331 : Cond.instanceMethod yX5_stored ∈ qx_Wd := qx_in (List.mem_of_getElem? (l := lw_tbl) (i := 331) (by decide +kernel)) rfl
theorem qw_332 : Cond.selects RX5 yX5_stored yX5_stored ∈ qx_Wd := qx_in (List.mem_of_getElem? (l := lw_tbl) (i := 332) (by decide +kernel)) rfl
theorem ql_L_23 : qx_LV RL 23 yX5_stored := ⟨qw_331, qw_332, Or.inl qw_330⟩
theorem qw_956 : Cond.methodLink RL 26 yX6_stored ∈ qx_Wd := qx_in (List.mem_of_getElem? (l := lw_tbl) (i := 956) (by decide +kernel)) rfl
theorem qw_957 : Cond.instanceMethod yX6_stored ∈ qx_Wd := qx_in (List.mem_of_getElem? (l := lw_tbl) (i := 957) (by decide +kernel)) rfl
theorem qw_958 : Cond.selects RX6 yX6_stored yX6_stored ∈ qx_Wd := qx_in (List.mem_of_getElem? (l := lw_tbl) (i := 958) (by decide +kernel)) rfl
theorem ql_L_26 : qx_LV RL 26 yX6_stored := ⟨qw_957, qw_958, Or.inl qw_956⟩
theorem qw_334 : Cond.methodLink RL 27 yX5_bust ∈ qx_Wd := qx_in (List.mem_of_getElem? (l := lw_tbl) (i := 334) (by decide +kernel)) rfl
theorem qw_335 : Cond.instanceMethod yX5_bust ∈ qx_Wd := qx_in (List.mem_of_getElem? (l := lw_tbl) (i := 335) (by decide +kernel)) rfl
theorem qw_336 : Cond.selects RX5 yX5_bust yX5_bust ∈ qx_Wd := qx_in (List.mem_of_getElem? (l := lw_tbl) (i := 336) (by decide +kernel)) rfl
theorem ql_L_27 : qx_LV RL 27 yX5_bust := ⟨qw_335, qw_336, Or.inl qw_334⟩
theorem qw_963 : Cond.methodLink RL 30 yX6_bust ∈ qx_Wd := qx_in (List.mem_of_getElem? (l := lw_tbl) (i := 963) (by decide +kernel)) rfl
theorem qw_964 : Cond.instanceMethod yX6_bust ∈ qx_Wd := qx_in (List.mem_of_getElem? (l := lw_tbl) (i := 964) (by decide +kernel)) rfl
theorem qw_965 : Cond.selects RX6 yX6_bust yX6_bust ∈ qx_Wd := qx_in (List.mem_of_getElem? (l := lw_tbl) (i := 965) (by decide +kernel)) rfl
theorem ql_L_30 : qx_LV RL 30 yX6_bust := ⟨qw_964, qw_965, Or.inl qw_963⟩
theorem qw_347 : Cond.methodLink RL 31 yX5_of ∈ qx_Wd := qx_in (List.mem_of_getElem? (l := lw_tbl) (i := 347) (by decide +kernel)) rfl
theorem qw_348 : Cond.instanceMethod yX5_of ∈ qx_Wd := qx_in (List.mem_of_getElem? (l := lw_tbl) (i := 348) (by decide +kernel)) rfl
theorem qw_349 : Cond.selects RX5 yX5_of yX5_of ∈ qx_Wd := qx_in (List.mem_of_getElem? (l := lw_tbl) (i := 349) (by decide +kernel)) rfl
theorem ql_L_31 : qx_LV RL 31 yX5_of := ⟨qw_348, qw_349, Or.inl qw_347⟩
theorem qw_981 : Cond.methodLink RL 34 yX6_of ∈ qx_Wd := qx_in (List.mem_of_getElem? (l := lw_tbl) (i := 981) (by decide +kernel)) rfl
theorem qw_982 : Cond.instanceMethod yX6_of ∈ qx_Wd := qx_in (List.mem_of_getElem? (l := lw_tbl) (i := 982) (by decide +kernel)) rfl
theorem qw_983 : Cond.selects RX6 yX6_of yX6_of ∈ qx_Wd := qx_in (List.mem_of_getElem? (l := lw_tbl) (i := 983) (by decide +kernel)) rfl
theorem ql_L_34 : qx_LV RL 34 yX6_of := ⟨qw_982, qw_983, Or.inl qw_981⟩
theorem qw_392 : Cond.methodLink RL 35 yX5_change ∈ qx_Wd := qx_in (List.mem_of_getElem? (l := lw_tbl) (i := 392) (by decide +kernel)) rfl
theorem qw_393 : Cond.instanceMethod yX5_change ∈ qx_Wd := qx_in (List.mem_of_getElem? (l := lw_tbl) (i := 393) (by decide +kernel)) rfl
theorem qw_394 : Cond.selects RX5 yX5_change yX5_change ∈ qx_Wd := qx_in (List.mem_of_getElem? (l := lw_tbl) (i := 394) (by decide +kernel)) rfl
theorem ql_L_35 : qx_LV RL 35 yX5_change := ⟨qw_393, qw_394, Or.inl qw_392⟩
theorem qw_1029 : Cond.methodLink RL 39 yX6_change ∈ qx_Wd := qx_in (List.mem_of_getElem? (l := lw_tbl) (i := 1029) (by decide +kernel)) rfl
theorem qw_1030 : Cond.instanceMethod yX6_change ∈ qx_Wd := qx_in (List.mem_of_getElem? (l := lw_tbl) (i := 1030) (by decide +kernel)) rfl
theorem qw_1031 : Cond.selects RX6 yX6_change yX6_change ∈ qx_Wd := qx_in (List.mem_of_getElem? (l := lw_tbl) (i := 1031) (by decide +kernel)) rfl
theorem ql_L_39 : qx_LV RL 39 yX6_change := ⟨qw_1030, qw_1031, Or.inl qw_1029⟩
theorem qw_402 : Cond.methodLink RL 40 yX5_accepts ∈ qx_Wd := qx_in (List.mem_of_getElem? (l := lw_tbl) (i := 402) (by decide +kernel)) rfl
theorem qw_403 : Cond.instanceMethod yX5_accepts ∈ qx_Wd := qx_in (List.mem_of_getElem? (l := lw_tbl) (i := 403) (by decide +kernel)) rfl
theorem qw_404 : Cond.selects RX5 yX5_accepts yX5_accepts ∈ qx_Wd := qx_in (List.mem_of_getElem? (l := lw_tbl) (i := 404) (by decide +kernel)) rfl
theorem ql_L_40 : qx_LV RL 40 yX5_accepts := ⟨qw_403, qw_404, Or.inl qw_402⟩
theorem qw_1036 : Cond.methodLink RL 43 yX6_accepts ∈ qx_Wd := qx_in (List.mem_of_getElem? (l := lw_tbl) (i := 1036) (by decide +kernel)) rfl
theorem qw_1037 : Cond.instanceMethod yX6_accepts ∈ qx_Wd := qx_in (List.mem_of_getElem? (l := lw_tbl) (i := 1037) (by decide +kernel)) rfl
theorem qw_1038 : Cond.selects RX6 yX6_accepts yX6_accepts ∈ qx_Wd := qx_in (List.mem_of_getElem? (l := lw_tbl) (i := 1038) (by decide +kernel)) rfl
theorem ql_L_43 : qx_LV RL 43 yX6_accepts := ⟨qw_1037, qw_1038, Or.inl qw_1036⟩
theorem qw_410 : Cond.methodLink RL 44 yX5_heir ∈ qx_Wd := qx_in (List.mem_of_getElem? (l := lw_tbl) (i := 410) (by decide +kernel)) rfl
theorem qw_411 : Cond.instanceMethod yX5_heir ∈ qx_Wd := qx_in (List.mem_of_getElem? (l := lw_tbl) (i := 411) (by decide +kernel)) rfl
theorem qw_412 : Cond.selects RX5 yX5_heir yX5_heir ∈ qx_Wd := qx_in (List.mem_of_getElem? (l := lw_tbl) (i := 412) (by decide +kernel)) rfl
theorem ql_L_44 : qx_LV RL 44 yX5_heir := ⟨qw_411, qw_412, Or.inl qw_410⟩
theorem qw_1048 : Cond.methodLink RL 47 yX6_heir ∈ qx_Wd := qx_in (List.mem_of_getElem? (l := lw_tbl) (i := 1048) (by decide +kernel)) rfl
theorem qw_1049 : Cond.instanceMethod yX6_heir ∈ qx_Wd := qx_in (List.mem_of_getElem? (l := lw_tbl) (i := 1049) (by decide +kernel)) rfl
theorem qw_1050 : Cond.selects RX6 yX6_heir yX6_heir ∈ qx_Wd := qx_in (List.mem_of_getElem? (l := lw_tbl) (i := 1050) (by decide +kernel)) rfl
theorem ql_L_47 : qx_LV RL 47 yX6_heir := ⟨qw_1049, qw_1050, Or.inl qw_1048⟩
theorem qw_420 : Cond.methodLink RL 48 yX5_give ∈ qx_Wd := qx_in (List.mem_of_getElem? (l := lw_tbl) (i := 420) (by decide +kernel)) rfl
theorem qw_421 : Cond.instanceMethod yX5_give ∈ qx_Wd := qx_in (List.mem_of_getElem? (l := lw_tbl) (i := 421) (by decide +kernel)) rfl
theorem qw_422 : Cond.selects RX5 yX5_give yX5_give ∈ qx_Wd := qx_in (List.mem_of_getElem? (l := lw_tbl) (i := 422) (by decide +kernel)) rfl
theorem ql_L_48 : qx_LV RL 48 yX5_give := ⟨qw_421, qw_422, Or.inl qw_420⟩
theorem qw_1065 : Cond.methodLink RL 51 yX6_give ∈ qx_Wd := qx_in (List.mem_of_getElem? (l := lw_tbl) (i := 1065) (by decide +kernel)) rfl
theorem qw_1066 : Cond.instanceMethod yX6_give ∈ qx_Wd := qx_in (List.mem_of_getElem? (l := lw_tbl) (i := 1066) (by decide +kernel)) rfl
theorem qw_1067 : Cond.selects RX6 yX6_give yX6_give ∈ qx_Wd := qx_in (List.mem_of_getElem? (l := lw_tbl) (i := 1067) (by decide +kernel)) rfl
theorem ql_L_51 : qx_LV RL 51 yX6_give := ⟨qw_1066, qw_1067, Or.inl qw_1065⟩
theorem qw_430 : Cond.methodLink RL 52 yX5_go ∈ qx_Wd := qx_in (List.mem_of_getElem? (l := lw_tbl) (i := 430) (by decide +kernel)) rfl
theorem qw_431 : Cond.instanceMethod yX5_go ∈ qx_Wd := qx_in (List.mem_of_getElem? (l := lw_tbl) (i := 431) (by decide +kernel)) rfl
theorem qw_432 : Cond.selects RX5 yX5_go yX5_go ∈ qx_Wd := qx_in (List.mem_of_getElem? (l := lw_tbl) (i := 432) (by decide +kernel)) rfl
theorem ql_L_52 : qx_LV RL 52 yX5_go := ⟨qw_431, qw_432, Or.inl qw_430⟩
theorem qw_1074 : Cond.methodLink RL 55 yX6_go ∈ qx_Wd := qx_in (List.mem_of_getElem? (l := lw_tbl) (i := 1074) (by decide +kernel)) rfl
theorem qw_1075 : Cond.instanceMethod yX6_go ∈ qx_Wd := qx_in (List.mem_of_getElem? (l := lw_tbl) (i := 1075) (by decide +kernel)) rfl
theorem qw_1076 : Cond.selects RX6 yX6_go yX6_go ∈ qx_Wd := qx_in (List.mem_of_getElem? (l := lw_tbl) (i := 1076) (by decide +kernel)) rfl
theorem ql_L_55 : qx_LV RL 55 yX6_go := ⟨qw_1075, qw_1076, Or.inl qw_1074⟩
theorem qw_472 : Cond.methodLink RL 56 yX5_now ∈ qx_Wd := qx_in (List.mem_of_getElem? (l := lw_tbl) (i := 472) (by decide +kernel)) rfl
theorem qw_473 : Cond.instanceMethod yX5_now ∈ qx_Wd := qx_in (List.mem_of_getElem? (l := lw_tbl) (i := 473) (by decide +kernel)) rfl
theorem qw_474 : Cond.selects RX5 yX5_now yX5_now ∈ qx_Wd := qx_in (List.mem_of_getElem? (l := lw_tbl) (i := 474) (by decide +kernel)) rfl
theorem ql_L_56 : qx_LV RL 56 yX5_now := ⟨qw_473, qw_474, Or.inl qw_472⟩
theorem qw_1104 : Cond.methodLink RL 59 yX6_now ∈ qx_Wd := qx_in (List.mem_of_getElem? (l := lw_tbl) (i := 1104) (by decide +kernel)) rfl
theorem qw_1105 : Cond.instanceMethod yX6_now ∈ qx_Wd := qx_in (List.mem_of_getElem? (l := lw_tbl) (i := 1105) (by decide +kernel)) rfl
theorem qw_1106 : Cond.selects RX6 yX6_now yX6_now ∈ qx_Wd := qx_in (List.mem_of_getElem? (l := lw_tbl) (i := 1106) (by decide +kernel)) rfl
theorem ql_L_59 : qx_LV RL 59 yX6_now := ⟨qw_1105, qw_1106, Or.inl qw_1104⟩
theorem qw_501 : Cond.methodLink RL 60 yX5_ahead ∈ qx_Wd := qx_in (List.mem_of_getElem? (l := lw_tbl) (i := 501) (by decide +kernel)) rfl
theorem qw_502 : Cond.instanceMethod yX5_ahead ∈ qx_Wd := qx_in (List.mem_of_getElem? (l := lw_tbl) (i := 502) (by decide +kernel)) rfl
theorem qw_503 : Cond.selects RX5 yX5_ahead yX5_ahead ∈ qx_Wd := qx_in (List.mem_of_getElem? (l := lw_tbl) (i := 503) (by decide +kernel)) rfl
theorem ql_L_60 : qx_LV RL 60 yX5_ahead := ⟨qw_502, qw_503, Or.inl qw_501⟩
theorem qw_1132 : Cond.methodLink RL 63 yX6_ahead ∈ qx_Wd := qx_in (List.mem_of_getElem? (l := lw_tbl) (i := 1132) (by decide +kernel)) rfl
theorem qw_1133 : Cond.instanceMethod yX6_ahead ∈ qx_Wd := qx_in (List.mem_of_getElem? (l := lw_tbl) (i := 1133) (by decide +kernel)) rfl
theorem qw_1134 : Cond.selects RX6 yX6_ahead yX6_ahead ∈ qx_Wd := qx_in (List.mem_of_getElem? (l := lw_tbl) (i := 1134) (by decide +kernel)) rfl
theorem ql_L_63 : qx_LV RL 63 yX6_ahead := ⟨qw_1133, qw_1134, Or.inl qw_1132⟩
theorem qw_520 : Cond.methodLink RL 64 yX5_left ∈ qx_Wd := qx_in (List.mem_of_getElem? (l := lw_tbl) (i := 520) (by decide +kernel)) rfl
theorem qw_521 : Cond.instanceMethod yX5_left ∈ qx_Wd := qx_in (List.mem_of_getElem? (l := lw_tbl) (i := 521) (by decide +kernel)) rfl
theorem qw_522 : Cond.selects RX5 yX5_left yX5_left ∈ qx_Wd := qx_in (List.mem_of_getElem? (l := lw_tbl) (i := 522) (by decide +kernel)) rfl
theorem ql_L_64 : qx_LV RL 64 yX5_left := ⟨qw_521, qw_522, Or.inl qw_520⟩
theorem qw_1147 : Cond.methodLink RL 67 yX6_left ∈ qx_Wd := qx_in (List.mem_of_getElem? (l := lw_tbl) (i := 1147) (by decide +kernel)) rfl
theorem qw_1148 : Cond.instanceMethod yX6_left ∈ qx_Wd := qx_in (List.mem_of_getElem? (l := lw_tbl) (i := 1148) (by decide +kernel)) rfl
theorem qw_1149 : Cond.selects RX6 yX6_left yX6_left ∈ qx_Wd := qx_in (List.mem_of_getElem? (l := lw_tbl) (i := 1149) (by decide +kernel)) rfl
theorem ql_L_67 : qx_LV RL 67 yX6_left := ⟨qw_1148, qw_1149, Or.inl qw_1147⟩
theorem qw_524 : Cond.methodLink RL 68 yX5_when ∈ qx_Wd := qx_in (List.mem_of_getElem? (l := lw_tbl) (i := 524) (by decide +kernel)) rfl
theorem qw_525 : Cond.instanceMethod yX5_when ∈ qx_Wd := qx_in (List.mem_of_getElem? (l := lw_tbl) (i := 525) (by decide +kernel)) rfl
theorem qw_526 : Cond.selects RX5 yX5_when yX5_when ∈ qx_Wd := qx_in (List.mem_of_getElem? (l := lw_tbl) (i := 526) (by decide +kernel)) rfl
theorem ql_L_68 : qx_LV RL 68 yX5_when := ⟨qw_525, qw_526, Or.inl qw_524⟩
theorem qw_1155 : Cond.methodLink RL 71 yX6_when ∈ qx_Wd := qx_in (List.mem_of_getElem? (l := lw_tbl) (i := 1155) (by decide +kernel)) rfl
theorem qw_1156 : Cond.instanceMethod yX6_when ∈ qx_Wd := qx_in (List.mem_of_getElem? (l := lw_tbl) (i := 1156) (by decide +kernel)) rfl
theorem qw_1157 : Cond.selects RX6 yX6_when yX6_when ∈ qx_Wd := qx_in (List.mem_of_getElem? (l := lw_tbl) (i := 1157) (by decide +kernel)) rfl
theorem ql_L_71 : qx_LV RL 71 yX6_when := ⟨qw_1156, qw_1157, Or.inl qw_1155⟩
theorem qw_529 : Cond.methodLink RL 72 yX5_leaves ∈ qx_Wd := qx_in (List.mem_of_getElem? (l := lw_tbl) (i := 529) (by decide +kernel)) rfl
theorem qw_530 : Cond.instanceMethod yX5_leaves ∈ qx_Wd := qx_in (List.mem_of_getElem? (l := lw_tbl) (i := 530) (by decide +kernel)) rfl
theorem qw_531 : Cond.selects RX5 yX5_leaves yX5_leaves ∈ qx_Wd := qx_in (List.mem_of_getElem? (l := lw_tbl) (i := 531) (by decide +kernel)) rfl
theorem ql_L_72 : qx_LV RL 72 yX5_leaves := ⟨qw_530, qw_531, Or.inl qw_529⟩
theorem qw_1159 : Cond.methodLink RL 75 yX6_leaves ∈ qx_Wd := qx_in (List.mem_of_getElem? (l := lw_tbl) (i := 1159) (by decide +kernel)) rfl
theorem qw_1160 : Cond.instanceMethod yX6_leaves ∈ qx_Wd := qx_in (List.mem_of_getElem? (l := lw_tbl) (i := 1160) (by decide +kernel)) rfl
theorem qw_1161 : Cond.selects RX6 yX6_leaves yX6_leaves ∈ qx_Wd := qx_in (List.mem_of_getElem? (l := lw_tbl) (i := 1161) (by decide +kernel)) rfl
theorem ql_L_75 : qx_LV RL 75 yX6_leaves := ⟨qw_1160, qw_1161, Or.inl qw_1159⟩
theorem qw_537 : Cond.methodLink RL 76 yX5_voice ∈ qx_Wd := qx_in (List.mem_of_getElem? (l := lw_tbl) (i := 537) (by decide +kernel)) rfl
theorem qw_538 : Cond.instanceMethod yX5_voice ∈ qx_Wd := qx_in (List.mem_of_getElem? (l := lw_tbl) (i := 538) (by decide +kernel)) rfl
theorem qw_539 : Cond.selects RX5 yX5_voice yX5_voice ∈ qx_Wd := qx_in (List.mem_of_getElem? (l := lw_tbl) (i := 539) (by decide +kernel)) rfl
theorem ql_L_76 : qx_LV RL 76 yX5_voice := ⟨qw_538, qw_539, Or.inl qw_537⟩
theorem qw_1163 : Cond.methodLink RL 79 yX6_voice ∈ qx_Wd := qx_in (List.mem_of_getElem? (l := lw_tbl) (i := 1163) (by decide +kernel)) rfl
theorem qw_1164 : Cond.instanceMethod yX6_voice ∈ qx_Wd := qx_in (List.mem_of_getElem? (l := lw_tbl) (i := 1164) (by decide +kernel)) rfl
theorem qw_1165 : Cond.selects RX6 yX6_voice yX6_voice ∈ qx_Wd := qx_in (List.mem_of_getElem? (l := lw_tbl) (i := 1165) (by decide +kernel)) rfl
theorem ql_L_79 : qx_LV RL 79 yX6_voice := ⟨qw_1164, qw_1165, Or.inl qw_1163⟩
theorem qw_541 : Cond.methodLink RL 80 yX5_orderFor ∈ qx_Wd := qx_in (List.mem_of_getElem? (l := lw_tbl) (i := 541) (by decide +kernel)) rfl
theorem qw_542 : Cond.instanceMethod yX5_orderFor ∈ qx_Wd := qx_in (List.mem_of_getElem? (l := lw_tbl) (i := 542) (by decide +kernel)) rfl
theorem qw_543 : Cond.selects RX5 yX5_orderFor yX5_orderFor ∈ qx_Wd := qx_in (List.mem_of_getElem? (l := lw_tbl) (i := 543) (by decide +kernel)) rfl
theorem ql_L_80 : qx_LV RL 80 yX5_orderFor := ⟨qw_542, qw_543, Or.inl qw_541⟩
theorem qw_1167 : Cond.methodLink RL 83 yX6_orderFor ∈ qx_Wd := qx_in (List.mem_of_getElem? (l := lw_tbl) (i := 1167) (by decide +kernel)) rfl
theorem qw_1168 : Cond.instanceMethod yX6_orderFor ∈ qx_Wd := qx_in (List.mem_of_getElem? (l := lw_tbl) (i := 1168) (by decide +kernel)) rfl
theorem qw_1169 : Cond.selects RX6 yX6_orderFor yX6_orderFor ∈ qx_Wd := qx_in (List.mem_of_getElem? (l := lw_tbl) (i := 1169) (by decide +kernel)) rfl
theorem ql_L_83 : qx_LV RL 83 yX6_orderFor := ⟨qw_1168, qw_1169, Or.inl qw_1167⟩
theorem qw_546 : Cond.methodLink RL 84 yX5_dateFor ∈ qx_Wd := qx_in (List.mem_of_getElem? (l := lw_tbl) (i := 546) (by decide +kernel)) rfl
theorem qw_547 : Cond.instanceMethod yX5_dateFor ∈ qx_Wd := qx_in (List.mem_of_getElem? (l := lw_tbl) (i := 547) (by decide +kernel)) rfl
theorem qw_548 : Cond.selects RX5 yX5_dateFor yX5_dateFor ∈ qx_Wd := qx_in (List.mem_of_getElem? (l := lw_tbl) (i := 548) (by decide +kernel)) rfl
theorem ql_L_84 : qx_LV RL 84 yX5_dateFor := ⟨qw_547, qw_548, Or.inl qw_546⟩
theorem qw_1174 : Cond.methodLink RL 87 yX6_dateFor ∈ qx_Wd := qx_in (List.mem_of_getElem? (l := lw_tbl) (i := 1174) (by decide +kernel)) rfl
theorem qw_1175 : Cond.instanceMethod yX6_dateFor ∈ qx_Wd := qx_in (List.mem_of_getElem? (l := lw_tbl) (i := 1175) (by decide +kernel)) rfl
theorem qw_1176 : Cond.selects RX6 yX6_dateFor yX6_dateFor ∈ qx_Wd := qx_in (List.mem_of_getElem? (l := lw_tbl) (i := 1176) (by decide +kernel)) rfl
theorem ql_L_87 : qx_LV RL 87 yX6_dateFor := ⟨qw_1175, qw_1176, Or.inl qw_1174⟩
theorem qw_558 : Cond.methodLink RL 88 yX5_kindFor ∈ qx_Wd := qx_in (List.mem_of_getElem? (l := lw_tbl) (i := 558) (by decide +kernel)) rfl
theorem qw_559 : Cond.instanceMethod yX5_kindFor ∈ qx_Wd := qx_in (List.mem_of_getElem? (l := lw_tbl) (i := 559) (by decide +kernel)) rfl
theorem qw_560 : Cond.selects RX5 yX5_kindFor yX5_kindFor ∈ qx_Wd := qx_in (List.mem_of_getElem? (l := lw_tbl) (i := 560) (by decide +kernel)) rfl
theorem ql_L_88 : qx_LV RL 88 yX5_kindFor := ⟨qw_559, qw_560, Or.inl qw_558⟩
theorem qw_1178 : Cond.methodLink RL 91 yX6_kindFor ∈ qx_Wd := qx_in (List.mem_of_getElem? (l := lw_tbl) (i := 1178) (by decide +kernel)) rfl
theorem qw_1179 : Cond.instanceMethod yX6_kindFor ∈ qx_Wd := qx_in (List.mem_of_getElem? (l := lw_tbl) (i := 1179) (by decide +kernel)) rfl
theorem qw_1180 : Cond.selects RX6 yX6_kindFor yX6_kindFor ∈ qx_Wd := qx_in (List.mem_of_getElem? (l := lw_tbl) (i := 1180) (by decide +kernel)) rfl
theorem ql_L_91 : qx_LV RL 91 yX6_kindFor := ⟨qw_1179, qw_1180, Or.inl qw_1178⟩
theorem qw_563 : Cond.methodLink RL 92 yX5_pathTo ∈ qx_Wd := qx_in (List.mem_of_getElem? (l := lw_tbl) (i := 563) (by decide +kernel)) rfl
theorem qw_564 : Cond.instanceMethod yX5_pathTo ∈ qx_Wd := qx_in (List.mem_of_getElem? (l := lw_tbl) (i := 564) (by decide +kernel)) rfl
theorem qw_565 : Cond.selects RX5 yX5_pathTo yX5_pathTo ∈ qx_Wd := qx_in (List.mem_of_getElem? (l := lw_tbl) (i := 565) (by decide +kernel)) rfl
theorem ql_L_92 : qx_LV RL 92 yX5_pathTo := ⟨qw_564, qw_565, Or.inl qw_563⟩
theorem qw_1182 : Cond.methodLink RL 95 yX6_pathTo ∈ qx_Wd := qx_in (List.mem_of_getElem? (l := lw_tbl) (i := 1182) (by decide +kernel)) rfl
theorem qw_1183 : Cond.instanceMethod yX6_pathTo ∈ qx_Wd := qx_in (List.mem_of_getElem? (l := lw_tbl) (i := 1183) (by decide +kernel)) rfl
theorem qw_1184 : Cond.selects RX6 yX6_pathTo yX6_pathTo ∈ qx_Wd := qx_in (List.mem_of_getElem? (l := lw_tbl) (i := 1184) (by decide +kernel)) rfl
theorem ql_L_95 : qx_LV RL 95 yX6_pathTo := ⟨qw_1183, qw_1184, Or.inl qw_1182⟩
theorem qw_577 : Cond.methodLink RL 96 yX5_seal ∈ qx_Wd := qx_in (List.mem_of_getElem? (l := lw_tbl) (i := 577) (by decide +kernel)) rfl
theorem qw_578 : Cond.instanceMethod yX5_seal ∈ qx_Wd := qx_in (List.mem_of_getElem? (l := lw_tbl) (i := 578) (by decide +kernel)) rfl
theorem qw_579 : Cond.selects RX5 yX5_seal yX5_seal ∈ qx_Wd := qx_in (List.mem_of_getElem? (l := lw_tbl) (i := 579) (by decide +kernel)) rfl
theorem ql_L_96 : qx_LV RL 96 yX5_seal := ⟨qw_578, qw_579, Or.inl qw_577⟩
theorem qw_1190 : Cond.methodLink RL 99 yX6_seal ∈ qx_Wd := qx_in (List.mem_of_getElem? (l := lw_tbl) (i := 1190) (by decide +kernel)) rfl
theorem qw_1191 : Cond.instanceMethod yX6_seal ∈ qx_Wd := qx_in (List.mem_of_getElem? (l := lw_tbl) (i := 1191) (by decide +kernel)) rfl
theorem qw_1192 : Cond.selects RX6 yX6_seal yX6_seal ∈ qx_Wd := qx_in (List.mem_of_getElem? (l := lw_tbl) (i := 1192) (by decide +kernel)) rfl
theorem ql_L_99 : qx_LV RL 99 yX6_seal := ⟨qw_1191, qw_1192, Or.inl qw_1190⟩
theorem qw_585 : Cond.methodLink RL 100 yX5_fits ∈ qx_Wd := qx_in (List.mem_of_getElem? (l := lw_tbl) (i := 585) (by decide +kernel)) rfl
theorem qw_586 : Cond.instanceMethod yX5_fits ∈ qx_Wd := qx_in (List.mem_of_getElem? (l := lw_tbl) (i := 586) (by decide +kernel)) rfl
theorem qw_587 : Cond.selects RX5 yX5_fits yX5_fits ∈ qx_Wd := qx_in (List.mem_of_getElem? (l := lw_tbl) (i := 587) (by decide +kernel)) rfl
theorem ql_L_100 : qx_LV RL 100 yX5_fits := ⟨qw_586, qw_587, Or.inl qw_585⟩
theorem qw_1198 : Cond.methodLink RL 103 yX6_fits ∈ qx_Wd := qx_in (List.mem_of_getElem? (l := lw_tbl) (i := 1198) (by decide +kernel)) rfl
theorem qw_1199 : Cond.instanceMethod yX6_fits ∈ qx_Wd := qx_in (List.mem_of_getElem? (l := lw_tbl) (i := 1199) (by decide +kernel)) rfl
theorem qw_1200 : Cond.selects RX6 yX6_fits yX6_fits ∈ qx_Wd := qx_in (List.mem_of_getElem? (l := lw_tbl) (i := 1200) (by decide +kernel)) rfl
theorem ql_L_103 : qx_LV RL 103 yX6_fits := ⟨qw_1199, qw_1200, Or.inl qw_1198⟩
theorem qw_611 : Cond.methodLink RL 104 yX5_kinds ∈ qx_Wd := qx_in (List.mem_of_getElem? (l := lw_tbl) (i := 611) (by decide +kernel)) rfl
theorem qw_612 : Cond.instanceMethod yX5_kinds ∈ qx_Wd := qx_in (List.mem_of_getElem? (l := lw_tbl) (i := 612) (by decide +kernel)) rfl
theorem qw_613 : Cond.selects RX5 yX5_kinds yX5_kinds ∈ qx_Wd := qx_in (List.mem_of_getElem? (l := lw_tbl) (i := 613) (by decide +kernel)) rfl
theorem ql_L_104 : qx_LV RL 104 yX5_kinds := ⟨qw_612, qw_613, Or.inl qw_611⟩
theorem qw_1218 : Cond.methodLink RL 107 yX6_kinds ∈ qx_Wd := qx_in (List.mem_of_getElem? (l := lw_tbl) (i := 1218) (by decide +kernel)) rfl
theorem qw_1219 : Cond.instanceMethod yX6_kinds ∈ qx_Wd := qx_in (List.mem_of_getElem? (l := lw_tbl) (i := 1219) (by decide +kernel)) rfl
theorem qw_1220 : Cond.selects RX6 yX6_kinds yX6_kinds ∈ qx_Wd := qx_in (List.mem_of_getElem? (l := lw_tbl) (i := 1220) (by decide +kernel)) rfl
theorem ql_L_107 : qx_LV RL 107 yX6_kinds := ⟨qw_1219, qw_1220, Or.inl qw_1218⟩
theorem qw_615 : Cond.methodLink RL 108 yX5_chance ∈ qx_Wd := qx_in (List.mem_of_getElem? (l := lw_tbl) (i := 615) (by decide +kernel)) rfl
theorem qw_616 : Cond.instanceMethod yX5_chance ∈ qx_Wd := qx_in (List.mem_of_getElem? (l := lw_tbl) (i := 616) (by decide +kernel)) rfl
theorem qw_617 : Cond.selects RX5 yX5_chance yX5_chance ∈ qx_Wd := qx_in (List.mem_of_getElem? (l := lw_tbl) (i := 617) (by decide +kernel)) rfl
theorem ql_L_108 : qx_LV RL 108 yX5_chance := ⟨qw_616, qw_617, Or.inl qw_615⟩
theorem qw_1222 : Cond.methodLink RL 111 yX6_chance ∈ qx_Wd := qx_in (List.mem_of_getElem? (l := lw_tbl) (i := 1222) (by decide +kernel)) rfl
theorem qw_1223 : Cond.instanceMethod yX6_chance ∈ qx_Wd := qx_in (List.mem_of_getElem? (l := lw_tbl) (i := 1223) (by decide +kernel)) rfl
theorem qw_1224 : Cond.selects RX6 yX6_chance yX6_chance ∈ qx_Wd := qx_in (List.mem_of_getElem? (l := lw_tbl) (i := 1224) (by decide +kernel)) rfl
theorem ql_L_111 : qx_LV RL 111 yX6_chance := ⟨qw_1223, qw_1224, Or.inl qw_1222⟩
theorem qw_628 : Cond.methodLink RL 112 yX5_odds ∈ qx_Wd := qx_in (List.mem_of_getElem? (l := lw_tbl) (i := 628) (by decide +kernel)) rfl
theorem qw_629 : Cond.instanceMethod yX5_odds ∈ qx_Wd := qx_in (List.mem_of_getElem? (l := lw_tbl) (i := 629) (by decide +kernel)) rfl
theorem qw_630 : Cond.selects RX5 yX5_odds yX5_odds ∈ qx_Wd := qx_in (List.mem_of_getElem? (l := lw_tbl) (i := 630) (by decide +kernel)) rfl
theorem ql_L_112 : qx_LV RL 112 yX5_odds := ⟨qw_629, qw_630, Or.inl qw_628⟩
theorem qw_1231 : Cond.methodLink RL 116 yX6_odds ∈ qx_Wd := qx_in (List.mem_of_getElem? (l := lw_tbl) (i := 1231) (by decide +kernel)) rfl
theorem qw_1232 : Cond.instanceMethod yX6_odds ∈ qx_Wd := qx_in (List.mem_of_getElem? (l := lw_tbl) (i := 1232) (by decide +kernel)) rfl
theorem qw_1233 : Cond.selects RX6 yX6_odds yX6_odds ∈ qx_Wd := qx_in (List.mem_of_getElem? (l := lw_tbl) (i := 1233) (by decide +kernel)) rfl
theorem ql_L_116 : qx_LV RL 116 yX6_odds := ⟨qw_1232, qw_1233, Or.inl qw_1231⟩
theorem qw_635 : Cond.methodLink RL 117 yX5_seed ∈ qx_Wd := qx_in (List.mem_of_getElem? (l := lw_tbl) (i := 635) (by decide +kernel)) rfl
theorem qw_636 : Cond.instanceMethod yX5_seed ∈ qx_Wd := qx_in (List.mem_of_getElem? (l := lw_tbl) (i := 636) (by decide +kernel)) rfl
theorem qw_637 : Cond.selects RX5 yX5_seed yX5_seed ∈ qx_Wd := qx_in (List.mem_of_getElem? (l := lw_tbl) (i := 637) (by decide +kernel)) rfl
theorem ql_L_117 : qx_LV RL 117 yX5_seed := ⟨qw_636, qw_637, Or.inl qw_635⟩
theorem qw_1235 : Cond.methodLink RL 120 yX6_seed ∈ qx_Wd := qx_in (List.mem_of_getElem? (l := lw_tbl) (i := 1235) (by decide +kernel)) rfl
theorem qw_1236 : Cond.instanceMethod yX6_seed ∈ qx_Wd := qx_in (List.mem_of_getElem? (l := lw_tbl) (i := 1236) (by decide +kernel)) rfl
theorem qw_1237 : Cond.selects RX6 yX6_seed yX6_seed ∈ qx_Wd := qx_in (List.mem_of_getElem? (l := lw_tbl) (i := 1237) (by decide +kernel)) rfl
theorem ql_L_120 : qx_LV RL 120 yX6_seed := ⟨qw_1236, qw_1237, Or.inl qw_1235⟩
theorem qw_639 : Cond.methodLink RL 121 yX5_feed ∈ qx_Wd := qx_in (List.mem_of_getElem? (l := lw_tbl) (i := 639) (by decide +kernel)) rfl
theorem qw_640 : Cond.instanceMethod yX5_feed ∈ qx_Wd := qx_in (List.mem_of_getElem? (l := lw_tbl) (i := 640) (by decide +kernel)) rfl
theorem qw_641 : Cond.selects RX5 yX5_feed yX5_feed ∈ qx_Wd := qx_in (List.mem_of_getElem? (l := lw_tbl) (i := 641) (by decide +kernel)) rfl
theorem ql_L_121 : qx_LV RL 121 yX5_feed := ⟨qw_640, qw_641, Or.inl qw_639⟩
theorem qw_1239 : Cond.methodLink RL 124 yX6_feed ∈ qx_Wd := qx_in (List.mem_of_getElem? (l := lw_tbl) (i := 1239) (by decide +kernel)) rfl
theorem qw_1240 : Cond.instanceMethod yX6_feed ∈ qx_Wd := qx_in (List.mem_of_getElem? (l := lw_tbl) (i := 1240) (by decide +kernel)) rfl
theorem qw_1241 : Cond.selects RX6 yX6_feed yX6_feed ∈ qx_Wd := qx_in (List.mem_of_getElem? (l := lw_tbl) (i := 1241) (by decide +kernel)) rfl
theorem ql_L_124 : qx_LV RL 124 yX6_feed := ⟨qw_1240, qw_1241, Or.inl qw_1239⟩
theorem qw_647 : Cond.methodLink RL 125 yX5_wipe ∈ qx_Wd := qx_in (List.mem_of_getElem? (l := lw_tbl) (i := 647) (by decide +kernel)) rfl
theorem qw_648 : Cond.instanceMethod yX5_wipe ∈ qx_Wd := qx_in (List.mem_of_getElem? (l := lw_tbl) (i := 648) (by decide +kernel)) rfl
theorem qw_649 : Cond.selects RX5 yX5_wipe yX5_wipe ∈ qx_Wd := qx_in (List.mem_of_getElem? (l := lw_tbl) (i := 649) (by decide +kernel)) rfl
theorem ql_L_125 : qx_LV RL 125 yX5_wipe := ⟨qw_648, qw_649, Or.inl qw_647⟩
theorem qw_1243 : Cond.methodLink RL 129 yX6_wipe ∈ qx_Wd := qx_in (List.mem_of_getElem? (l := lw_tbl) (i := 1243) (by decide +kernel)) rfl
theorem qw_1244 : Cond.instanceMethod yX6_wipe ∈ qx_Wd := qx_in (List.mem_of_getElem? (l := lw_tbl) (i := 1244) (by decide +kernel)) rfl
theorem qw_1245 : Cond.selects RX6 yX6_wipe yX6_wipe ∈ qx_Wd := qx_in (List.mem_of_getElem? (l := lw_tbl) (i := 1245) (by decide +kernel)) rfl
theorem ql_L_129 : qx_LV RL 129 yX6_wipe := ⟨qw_1244, qw_1245, Or.inl qw_1243⟩
theorem qw_651 : Cond.methodLink RL 130 yX5_text ∈ qx_Wd := qx_in (List.mem_of_getElem? (l := lw_tbl) (i := 651) (by decide +kernel)) rfl
theorem qw_652 : Cond.instanceMethod yX5_text ∈ qx_Wd := qx_in (List.mem_of_getElem? (l := lw_tbl) (i := 652) (by decide +kernel)) rfl
theorem qw_653 : Cond.selects RX5 yX5_text yX5_text ∈ qx_Wd := qx_in (List.mem_of_getElem? (l := lw_tbl) (i := 653) (by decide +kernel)) rfl
theorem ql_L_130 : qx_LV RL 130 yX5_text := ⟨qw_652, qw_653, Or.inl qw_651⟩
theorem qw_1247 : Cond.methodLink RL 133 yX6_text ∈ qx_Wd := qx_in (List.mem_of_getElem? (l := lw_tbl) (i := 1247) (by decide +kernel)) rfl
theorem qw_1248 : Cond.instanceMethod yX6_text ∈ qx_Wd := qx_in (List.mem_of_getElem? (l := lw_tbl) (i := 1248) (by decide +kernel)) rfl
theorem qw_1249 : Cond.selects RX6 yX6_text yX6_text ∈ qx_Wd := qx_in (List.mem_of_getElem? (l := lw_tbl) (i := 1249) (by decide +kernel)) rfl
theorem ql_L_133 : qx_LV RL 133 yX6_text := ⟨qw_1248, qw_1249, Or.inl qw_1247⟩
theorem qw_780 : Cond.methodLink RL 134 yX5_hold ∈ qx_Wd := qx_in (List.mem_of_getElem? (l := lw_tbl) (i := 780) (by decide +kernel)) rfl
theorem qw_781 : Cond.instanceMethod yX5_hold ∈ qx_Wd := qx_in (List.mem_of_getElem? (l := lw_tbl) (i := 781) (by decide +kernel)) rfl
theorem qw_782 : Cond.selects RX5 yX5_hold yX5_hold ∈ qx_Wd := qx_in (List.mem_of_getElem? (l := lw_tbl) (i := 782) (by decide +kernel)) rfl
theorem ql_L_134 : qx_LV RL 134 yX5_hold := ⟨qw_781, qw_782, Or.inl qw_780⟩
theorem qw_1298 : Cond.methodLink RL 137 yX6_hold ∈ qx_Wd := qx_in (List.mem_of_getElem? (l := lw_tbl) (i := 1298) (by decide +kernel)) rfl
theorem qw_1299 : Cond.instanceMethod yX6_hold ∈ qx_Wd := qx_in (List.mem_of_getElem? (l := lw_tbl) (i := 1299) (by decide +kernel)) rfl
theorem qw_1300 : Cond.selects RX6 yX6_hold yX6_hold ∈ qx_Wd := qx_in (List.mem_of_getElem? (l := lw_tbl) (i := 1300) (by decide +kernel)) rfl
theorem ql_L_137 : qx_LV RL 137 yX6_hold := ⟨qw_1299, qw_1300, Or.inl qw_1298⟩
theorem qw_784 : Cond.methodLink RL 138 yX5_as ∈ qx_Wd := qx_in (List.mem_of_getElem? (l := lw_tbl) (i := 784) (by decide +kernel)) rfl
theorem qw_785 : Cond.instanceMethod yX5_as ∈ qx_Wd := qx_in (List.mem_of_getElem? (l := lw_tbl) (i := 785) (by decide +kernel)) rfl
theorem qw_786 : Cond.selects RX5 yX5_as yX5_as ∈ qx_Wd := qx_in (List.mem_of_getElem? (l := lw_tbl) (i := 786) (by decide +kernel)) rfl
theorem ql_L_138 : qx_LV RL 138 yX5_as := ⟨qw_785, qw_786, Or.inl qw_784⟩
theorem qw_1305 : Cond.methodLink RL 141 yX6_as ∈ qx_Wd := qx_in (List.mem_of_getElem? (l := lw_tbl) (i := 1305) (by decide +kernel)) rfl
theorem qw_1306 : Cond.instanceMethod yX6_as ∈ qx_Wd := qx_in (List.mem_of_getElem? (l := lw_tbl) (i := 1306) (by decide +kernel)) rfl
theorem qw_1307 : Cond.selects RX6 yX6_as yX6_as ∈ qx_Wd := qx_in (List.mem_of_getElem? (l := lw_tbl) (i := 1307) (by decide +kernel)) rfl
theorem ql_L_141 : qx_LV RL 141 yX6_as := ⟨qw_1306, qw_1307, Or.inl qw_1305⟩
theorem qw_795 : Cond.methodLink RL 142 yX5_sheet ∈ qx_Wd := qx_in (List.mem_of_getElem? (l := lw_tbl) (i := 795) (by decide +kernel)) rfl
theorem qw_796 : Cond.instanceMethod yX5_sheet ∈ qx_Wd := qx_in (List.mem_of_getElem? (l := lw_tbl) (i := 796) (by decide +kernel)) rfl
theorem qw_797 : Cond.selects RX5 yX5_sheet yX5_sheet ∈ qx_Wd := qx_in (List.mem_of_getElem? (l := lw_tbl) (i := 797) (by decide +kernel)) rfl
theorem ql_L_142 : qx_LV RL 142 yX5_sheet := ⟨qw_796, qw_797, Or.inl qw_795⟩
theorem qw_1316 : Cond.methodLink RL 145 yX6_sheet ∈ qx_Wd := qx_in (List.mem_of_getElem? (l := lw_tbl) (i := 1316) (by decide +kernel)) rfl
theorem qw_1317 : Cond.instanceMethod yX6_sheet ∈ qx_Wd := qx_in (List.mem_of_getElem? (l := lw_tbl) (i := 1317) (by decide +kernel)) rfl
theorem qw_1318 : Cond.selects RX6 yX6_sheet yX6_sheet ∈ qx_Wd := qx_in (List.mem_of_getElem? (l := lw_tbl) (i := 1318) (by decide +kernel)) rfl
theorem ql_L_145 : qx_LV RL 145 yX6_sheet := ⟨qw_1317, qw_1318, Or.inl qw_1316⟩
theorem qw_804 : Cond.methodLink RL 146 yX5_write ∈ qx_Wd := qx_in (List.mem_of_getElem? (l := lw_tbl) (i := 804) (by decide +kernel)) rfl
theorem qw_805 : Cond.instanceMethod yX5_write ∈ qx_Wd := qx_in (List.mem_of_getElem? (l := lw_tbl) (i := 805) (by decide +kernel)) rfl
theorem qw_806 : Cond.selects RX5 yX5_write yX5_write ∈ qx_Wd := qx_in (List.mem_of_getElem? (l := lw_tbl) (i := 806) (by decide +kernel)) rfl
theorem ql_L_146 : qx_LV RL 146 yX5_write := ⟨qw_805, qw_806, Or.inl qw_804⟩
theorem qw_1321 : Cond.methodLink RL 149 yX6_write ∈ qx_Wd := qx_in (List.mem_of_getElem? (l := lw_tbl) (i := 1321) (by decide +kernel)) rfl
theorem qw_1322 : Cond.instanceMethod yX6_write ∈ qx_Wd := qx_in (List.mem_of_getElem? (l := lw_tbl) (i := 1322) (by decide +kernel)) rfl
theorem qw_1323 : Cond.selects RX6 yX6_write yX6_write ∈ qx_Wd := qx_in (List.mem_of_getElem? (l := lw_tbl) (i := 1323) (by decide +kernel)) rfl
theorem ql_L_149 : qx_LV RL 149 yX6_write := ⟨qw_1322, qw_1323, Or.inl qw_1321⟩
theorem qw_812 : Cond.methodLink RL 150 yX5_copy ∈ qx_Wd := qx_in (List.mem_of_getElem? (l := lw_tbl) (i := 812) (by decide +kernel)) rfl
theorem qw_813 : Cond.instanceMethod yX5_copy ∈ qx_Wd := qx_in (List.mem_of_getElem? (l := lw_tbl) (i := 813) (by decide +kernel)) rfl
theorem qw_814 : Cond.selects RX5 yX5_copy yX5_copy ∈ qx_Wd := qx_in (List.mem_of_getElem? (l := lw_tbl) (i := 814) (by decide +kernel)) rfl
theorem ql_L_150 : qx_LV RL 150 yX5_copy := ⟨qw_813, qw_814, Or.inl qw_812⟩
theorem qw_1328 : Cond.methodLink RL 154 yX6_copy ∈ qx_Wd := qx_in (List.mem_of_getElem? (l := lw_tbl) (i := 1328) (by decide +kernel)) rfl
theorem qw_1329 : Cond.instanceMethod yX6_copy ∈ qx_Wd := qx_in (List.mem_of_getElem? (l := lw_tbl) (i := 1329) (by decide +kernel)) rfl
theorem qw_1330 : Cond.selects RX6 yX6_copy yX6_copy ∈ qx_Wd := qx_in (List.mem_of_getElem? (l := lw_tbl) (i := 1330) (by decide +kernel)) rfl
theorem ql_L_154 : qx_LV RL 154 yX6_copy := ⟨qw_1329, qw_1330, Or.inl qw_1328⟩
theorem qw_821 : Cond.methodLink RL 155 yX5_load ∈ qx_Wd := qx_in (List.mem_of_getElem? (l := lw_tbl) (i := 821) (by decide +kernel)) rfl
theorem qw_822 : Cond.instanceMethod yX5_load ∈ qx_Wd := qx_in (List.mem_of_getElem? (l := lw_tbl) (i := 822) (by decide +kernel)) rfl
theorem qw_823 : Cond.selects RX5 yX5_load yX5_load ∈ qx_Wd := qx_in (List.mem_of_getElem? (l := lw_tbl) (i := 823) (by decide +kernel)) rfl
theorem ql_L_155 : qx_LV RL 155 yX5_load := ⟨qw_822, qw_823, Or.inl qw_821⟩
theorem qw_1332 : Cond.methodLink RL 158 yX6_load ∈ qx_Wd := qx_in (List.mem_of_getElem? (l := lw_tbl) (i := 1332) (by decide +kernel)) rfl
theorem qw_1333 : Cond.instanceMethod yX6_load ∈ qx_Wd := qx_in (List.mem_of_getElem? (l := lw_tbl) (i := 1333) (by decide +kernel)) rfl
theorem qw_1334 : Cond.selects RX6 yX6_load yX6_load ∈ qx_Wd := qx_in (List.mem_of_getElem? (l := lw_tbl) (i := 1334) (by decide +kernel)) rfl
theorem ql_L_158 : qx_LV RL 158 yX6_load := ⟨qw_1333, qw_1334, Or.inl qw_1332⟩
theorem qw_826 : Cond.methodLink RL 159 yX5_judge ∈ qx_Wd := qx_in (List.mem_of_getElem? (l := lw_tbl) (i := 826) (by decide +kernel)) rfl
theorem qw_827 : Cond.instanceMethod yX5_judge ∈ qx_Wd := qx_in (List.mem_of_getElem? (l := lw_tbl) (i := 827) (by decide +kernel)) rfl
theorem qw_828 : Cond.selects RX5 yX5_judge yX5_judge ∈ qx_Wd := qx_in (List.mem_of_getElem? (l := lw_tbl) (i := 828) (by decide +kernel)) rfl
theorem ql_L_159 : qx_LV RL 159 yX5_judge := ⟨qw_827, qw_828, Or.inl qw_826⟩
theorem qw_1336 : Cond.methodLink RL 162 yX6_judge ∈ qx_Wd := qx_in (List.mem_of_getElem? (l := lw_tbl) (i := 1336) (by decide +kernel)) rfl
theorem qw_1337 : Cond.instanceMethod yX6_judge ∈ qx_Wd := qx_in (List.mem_of_getElem? (l := lw_tbl) (i := 1337) (by decide +kernel)) rfl
theorem qw_1338 : Cond.selects RX6 yX6_judge yX6_judge ∈ qx_Wd := qx_in (List.mem_of_getElem? (l := lw_tbl) (i := 1338) (by decide +kernel)) rfl
theorem ql_L_162 : qx_LV RL 162 yX6_judge := ⟨qw_1337, qw_1338, Or.inl qw_1336⟩
theorem qw_830 : Cond.methodLink RL 163 yX5_image ∈ qx_Wd := qx_in (List.mem_of_getElem? (l := lw_tbl) (i := 830) (by decide +kernel)) rfl
theorem qw_831 : Cond.instanceMethod yX5_image ∈ qx_Wd := qx_in (List.mem_of_getElem? (l := lw_tbl) (i := 831) (by decide +kernel)) rfl
theorem qw_832 : Cond.selects RX5 yX5_image yX5_image ∈ qx_Wd := qx_in (List.mem_of_getElem? (l := lw_tbl) (i := 832) (by decide +kernel)) rfl
theorem ql_L_163 : qx_LV RL 163 yX5_image := ⟨qw_831, qw_832, Or.inl qw_830⟩
theorem qw_1340 : Cond.methodLink RL 166 yX6_image ∈ qx_Wd := qx_in (List.mem_of_getElem? (l := lw_tbl) (i := 1340) (by decide +kernel)) rfl
theorem qw_1341 : Cond.instanceMethod yX6_image ∈ qx_Wd := qx_in (List.mem_of_getElem? (l := lw_tbl) (i := 1341) (by decide +kernel)) rfl
theorem qw_1342 : Cond.selects RX6 yX6_image yX6_image ∈ qx_Wd := qx_in (List.mem_of_getElem? (l := lw_tbl) (i := 1342) (by decide +kernel)) rfl
theorem ql_L_166 : qx_LV RL 166 yX6_image := ⟨qw_1341, qw_1342, Or.inl qw_1340⟩
theorem qw_834 : Cond.methodLink RL 167 yX5_undo ∈ qx_Wd := qx_in (List.mem_of_getElem? (l := lw_tbl) (i := 834) (by decide +kernel)) rfl
theorem qw_835 : Cond.instanceMethod yX5_undo ∈ qx_Wd := qx_in (List.mem_of_getElem? (l := lw_tbl) (i := 835) (by decide +kernel)) rfl
theorem qw_836 : Cond.selects RX5 yX5_undo yX5_undo ∈ qx_Wd := qx_in (List.mem_of_getElem? (l := lw_tbl) (i := 836) (by decide +kernel)) rfl
theorem ql_L_167 : qx_LV RL 167 yX5_undo := ⟨qw_835, qw_836, Or.inl qw_834⟩
theorem qw_1344 : Cond.methodLink RL 170 yX6_undo ∈ qx_Wd := qx_in (List.mem_of_getElem? (l := lw_tbl) (i := 1344) (by decide +kernel)) rfl
theorem qw_1345 : Cond.instanceMethod yX6_undo ∈ qx_Wd := qx_in (List.mem_of_getElem? (l := lw_tbl) (i := 1345) (by decide +kernel)) rfl
theorem qw_1346 : Cond.selects RX6 yX6_undo yX6_undo ∈ qx_Wd := qx_in (List.mem_of_getElem? (l := lw_tbl) (i := 1346) (by decide +kernel)) rfl
theorem ql_L_170 : qx_LV RL 170 yX6_undo := ⟨qw_1345, qw_1346, Or.inl qw_1344⟩
theorem qw_838 : Cond.methodLink RL 171 yX5_tear ∈ qx_Wd := qx_in (List.mem_of_getElem? (l := lw_tbl) (i := 838) (by decide +kernel)) rfl
theorem qw_839 : Cond.instanceMethod yX5_tear ∈ qx_Wd := qx_in (List.mem_of_getElem? (l := lw_tbl) (i := 839) (by decide +kernel)) rfl
theorem qw_840 : Cond.selects RX5 yX5_tear yX5_tear ∈ qx_Wd := qx_in (List.mem_of_getElem? (l := lw_tbl) (i := 840) (by decide +kernel)) rfl
theorem ql_L_171 : qx_LV RL 171 yX5_tear := ⟨qw_839, qw_840, Or.inl qw_838⟩
theorem qw_1348 : Cond.methodLink RL 174 yX6_tear ∈ qx_Wd := qx_in (List.mem_of_getElem? (l := lw_tbl) (i := 1348) (by decide +kernel)) rfl
theorem qw_1349 : Cond.instanceMethod yX6_tear ∈ qx_Wd := qx_in (List.mem_of_getElem? (l := lw_tbl) (i := 1349) (by decide +kernel)) rfl
theorem qw_1350 : Cond.selects RX6 yX6_tear yX6_tear ∈ qx_Wd := qx_in (List.mem_of_getElem? (l := lw_tbl) (i := 1350) (by decide +kernel)) rfl
theorem ql_L_174 : qx_LV RL 174 yX6_tear := ⟨qw_1349, qw_1350, Or.inl qw_1348⟩
theorem qw_842 : Cond.methodLink RL 175 yX5_count ∈ qx_Wd := qx_in (List.mem_of_getElem? (l := lw_tbl) (i := 842) (by decide +kernel)) rfl
theorem qw_843 : Cond.instanceMethod yX5_count ∈ qx_Wd := qx_in (List.mem_of_getElem? (l := lw_tbl) (i := 843) (by decide +kernel)) rfl
theorem qw_844 : Cond.selects RX5 yX5_count yX5_count ∈ qx_Wd := qx_in (List.mem_of_getElem? (l := lw_tbl) (i := 844) (by decide +kernel)) rfl
theorem ql_L_175 : qx_LV RL 175 yX5_count := ⟨qw_843, qw_844, Or.inl qw_842⟩
theorem qw_1352 : Cond.methodLink RL 178 yX6_count ∈ qx_Wd := qx_in (List.mem_of_getElem? (l := lw_tbl) (i := 1352) (by decide +kernel)) rfl
theorem qw_1353 : Cond.instanceMethod yX6_count ∈ qx_Wd := qx_in (List.mem_of_getElem? (l := lw_tbl) (i := 1353) (by decide +kernel)) rfl
theorem qw_1354 : Cond.selects RX6 yX6_count yX6_count ∈ qx_Wd := qx_in (List.mem_of_getElem? (l := lw_tbl) (i := 1354) (by decide +kernel)) rfl
theorem ql_L_178 : qx_LV RL 178 yX6_count := ⟨qw_1353, qw_1354, Or.inl qw_1352⟩
theorem qw_850 : Cond.methodLink RL 179 yX5_status ∈ qx_Wd := qx_in (List.mem_of_getElem? (l := lw_tbl) (i := 850) (by decide +kernel)) rfl
theorem qw_851 : Cond.instanceMethod yX5_status ∈ qx_Wd := qx_in (List.mem_of_getElem? (l := lw_tbl) (i := 851) (by decide +kernel)) rfl
theorem qw_852 : Cond.selects RX5 yX5_status yX5_status ∈ qx_Wd := qx_in (List.mem_of_getElem? (l := lw_tbl) (i := 852) (by decide +kernel)) rfl
theorem ql_L_179 : qx_LV RL 179 yX5_status := ⟨qw_851, qw_852, Or.inl qw_850⟩
theorem qw_1356 : Cond.methodLink RL 182 yX6_status ∈ qx_Wd := qx_in (List.mem_of_getElem? (l := lw_tbl) (i := 1356) (by decide +kernel)) rfl
theorem qw_1357 : Cond.instanceMethod yX6_status ∈ qx_Wd := qx_in (List.mem_of_getElem? (l := lw_tbl) (i := 1357) (by decide +kernel)) rfl
theorem qw_1358 : Cond.selects RX6 yX6_status yX6_status ∈ qx_Wd := qx_in (List.mem_of_getElem? (l := lw_tbl) (i := 1358) (by decide +kernel)) rfl
theorem ql_L_182 : qx_LV RL 182 yX6_status := ⟨qw_1357, qw_1358, Or.inl qw_1356⟩
theorem qw_859 : Cond.methodLink RX6 1 objectInit ∈ qx_Wd := qx_in (List.mem_of_getElem? (l := lw_tbl) (i := 859) (by decide +kernel)) rfl
theorem qw_1140 : Cond.methodLink RX6 61 yX6_copyRow ∈ qx_Wd := qx_in (List.mem_of_getElem? (l := lw_tbl) (i := 1140) (by decide +kernel)) rfl
theorem qw_1141 : Cond.static yX6_copyRow ∈ qx_Wd := qx_in (List.mem_of_getElem? (l := lw_tbl) (i := 1141) (by decide +kernel)) rfl
theorem ql_X6_61 : qx_LS RX6 61 yX6_copyRow := ⟨qw_1141, qw_1140⟩
theorem qw_948 : Cond.methodLink RX6 66 yX6_finding ∈ qx_Wd := qx_in (List.mem_of_getElem? (l := lw_tbl) (i := 948) (by decide +kernel)) rfl
theorem qw_950 : Cond.instanceMethod yX6_finding ∈ qx_Wd := qx_in (List.mem_of_getElem? (l := lw_tbl) (i := 950) (by decide +kernel)) rfl
theorem qw_65 : Cond.selects RX6 yX6_finding yX6_finding ∈ qx_Wd := qx_in (List.mem_of_getElem? (l := lw_tbl) (i := 65) (by decide +kernel)) rfl
theorem ql_X6_66 : qx_LV RX6 66 yX6_finding := ⟨qw_950, qw_65, Or.inl qw_948⟩
theorem qw_937 : Cond.methodLink RX6 70 yX6_within ∈ qx_Wd := qx_in (List.mem_of_getElem? (l := lw_tbl) (i := 937) (by decide +kernel)) rfl
theorem qw_938 : Cond.static yX6_within ∈ qx_Wd := qx_in (List.mem_of_getElem? (l := lw_tbl) (i := 938) (by decide +kernel)) rfl
theorem ql_X6_70 : qx_LS RX6 70 yX6_within := ⟨qw_938, qw_937⟩
theorem qw_934 : Cond.methodLink RX6 74 yX6_isPlace ∈ qx_Wd := qx_in (List.mem_of_getElem? (l := lw_tbl) (i := 934) (by decide +kernel)) rfl
theorem qw_935 : Cond.static yX6_isPlace ∈ qx_Wd := qx_in (List.mem_of_getElem? (l := lw_tbl) (i := 935) (by decide +kernel)) rfl
theorem ql_X6_74 : qx_LS RX6 74 yX6_isPlace := ⟨qw_935, qw_934⟩
theorem qw_940 : Cond.methodLink RX6 78 yX6_isBequest ∈ qx_Wd := qx_in (List.mem_of_getElem? (l := lw_tbl) (i := 940) (by decide +kernel)) rfl
theorem qw_941 : Cond.static yX6_isBequest ∈ qx_Wd := qx_in (List.mem_of_getElem? (l := lw_tbl) (i := 941) (by decide +kernel)) rfl
theorem ql_X6_78 : qx_LS RX6 78 yX6_isBequest := ⟨qw_941, qw_940⟩
theorem qw_943 : Cond.methodLink RX6 81 yX6_become ∈ qx_Wd := qx_in (List.mem_of_getElem? (l := lw_tbl) (i := 943) (by decide +kernel)) rfl
theorem qw_945 : Cond.instanceMethod yX6_become ∈ qx_Wd := qx_in (List.mem_of_getElem? (l := lw_tbl) (i := 945) (by decide +kernel)) rfl
theorem qw_64 : Cond.selects RX6 yX6_become yX6_become ∈ qx_Wd := qx_in (List.mem_of_getElem? (l := lw_tbl) (i := 64) (by decide +kernel)) rfl
theorem ql_X6_81 : qx_LV RX6 81 yX6_become := ⟨qw_945, qw_64, Or.inl qw_943⟩
theorem qw_960 : Cond.methodLink RX6 85 yX6_isPart ∈ qx_Wd := qx_in (List.mem_of_getElem? (l := lw_tbl) (i := 960) (by decide +kernel)) rfl
theorem qw_961 : Cond.static yX6_isPart ∈ qx_Wd := qx_in (List.mem_of_getElem? (l := lw_tbl) (i := 961) (by decide +kernel)) rfl
theorem ql_X6_85 : qx_LS RX6 85 yX6_isPart := ⟨qw_961, qw_960⟩
theorem qw_978 : Cond.methodLink RX6 88 yX6_bustAt ∈ qx_Wd := qx_in (List.mem_of_getElem? (l := lw_tbl) (i := 978) (by decide +kernel)) rfl
theorem qw_979 : Cond.static yX6_bustAt ∈ qx_Wd := qx_in (List.mem_of_getElem? (l := lw_tbl) (i := 979) (by decide +kernel)) rfl
theorem ql_X6_88 : qx_LS RX6 88 yX6_bustAt := ⟨qw_979, qw_978⟩
theorem qw_967 : Cond.methodLink RX6 91 yX6_isKind ∈ qx_Wd := qx_in (List.mem_of_getElem? (l := lw_tbl) (i := 967) (by decide +kernel)) rfl
theorem qw_968 : Cond.static yX6_isKind ∈ qx_Wd := qx_in (List.mem_of_getElem? (l := lw_tbl) (i := 968) (by decide +kernel)) rfl
theorem ql_X6_91 : qx_LS RX6 91 yX6_isKind := ⟨qw_968, qw_967⟩
theorem qw_970 : Cond.methodLink RX6 94 yX6_isDate ∈ qx_Wd := qx_in (List.mem_of_getElem? (l := lw_tbl) (i := 970) (by decide +kernel)) rfl
theorem qw_971 : Cond.static yX6_isDate ∈ qx_Wd := qx_in (List.mem_of_getElem? (l := lw_tbl) (i := 971) (by decide +kernel)) rfl
theorem ql_X6_94 : qx_LS RX6 94 yX6_isDate := ⟨qw_971, qw_970⟩
theorem qw_974 : Cond.methodLink RX6 98 yX6_comes ∈ qx_Wd := qx_in (List.mem_of_getElem? (l := lw_tbl) (i := 974) (by decide +kernel)) rfl
theorem qw_976 : Cond.instanceMethod yX6_comes ∈ qx_Wd := qx_in (List.mem_of_getElem? (l := lw_tbl) (i := 976) (by decide +kernel)) rfl
theorem qw_66 : Cond.selects RX6 yX6_comes yX6_comes ∈ qx_Wd := qx_in (List.mem_of_getElem? (l := lw_tbl) (i := 66) (by decide +kernel)) rfl
theorem ql_X6_98 : qx_LV RX6 98 yX6_comes := ⟨qw_976, qw_66, Or.inl qw_974⟩
theorem qw_997 : Cond.methodLink RX6 101 yX6_bustIs ∈ qx_Wd := qx_in (List.mem_of_getElem? (l := lw_tbl) (i := 997) (by decide +kernel)) rfl
theorem qw_999 : Cond.instanceMethod yX6_bustIs ∈ qx_Wd := qx_in (List.mem_of_getElem? (l := lw_tbl) (i := 999) (by decide +kernel)) rfl
theorem qw_70 : Cond.selects RX6 yX6_bustIs yX6_bustIs ∈ qx_Wd := qx_in (List.mem_of_getElem? (l := lw_tbl) (i := 70) (by decide +kernel)) rfl
theorem ql_X6_101 : qx_LV RX6 101 yX6_bustIs := ⟨qw_999, qw_70, Or.inl qw_997⟩
theorem qw_1004 : Cond.methodLink RX6 104 yX6_has ∈ qx_Wd := qx_in (List.mem_of_getElem? (l := lw_tbl) (i := 1004) (by decide +kernel)) rfl
theorem qw_1006 : Cond.instanceMethod yX6_has ∈ qx_Wd := qx_in (List.mem_of_getElem? (l := lw_tbl) (i := 1006) (by decide +kernel)) rfl
theorem qw_71 : Cond.selects RX6 yX6_has yX6_has ∈ qx_Wd := qx_in (List.mem_of_getElem? (l := lw_tbl) (i := 71) (by decide +kernel)) rfl
theorem ql_X6_104 : qx_LV RX6 104 yX6_has := ⟨qw_1006, qw_71, Or.inl qw_1004⟩
theorem qw_1044 : Cond.methodLink RX6 108 yX6_likes ∈ qx_Wd := qx_in (List.mem_of_getElem? (l := lw_tbl) (i := 1044) (by decide +kernel)) rfl
theorem qw_1046 : Cond.instanceMethod yX6_likes ∈ qx_Wd := qx_in (List.mem_of_getElem? (l := lw_tbl) (i := 1046) (by decide +kernel)) rfl
theorem qw_78 : Cond.selects RX6 yX6_likes yX6_likes ∈ qx_Wd := qx_in (List.mem_of_getElem? (l := lw_tbl) (i := 78) (by decide +kernel)) rfl
theorem ql_X6_108 : qx_LV RX6 108 yX6_likes := ⟨qw_1046, qw_78, Or.inl qw_1044⟩
theorem qw_1001 : Cond.methodLink RX6 111 yX6_bits ∈ qx_Wd := qx_in (List.mem_of_getElem? (l := lw_tbl) (i := 1001) (by decide +kernel)) rfl
theorem qw_1002 : Cond.static yX6_bits ∈ qx_Wd := qx_in (List.mem_of_getElem? (l := lw_tbl) (i := 1002) (by decide +kernel)) rfl
theorem ql_X6_111 : qx_LS RX6 111 yX6_bits := ⟨qw_1002, qw_1001⟩
theorem qw_1008 : Cond.methodLink RX6 114 yX6_arms ∈ qx_Wd := qx_in (List.mem_of_getElem? (l := lw_tbl) (i := 1008) (by decide +kernel)) rfl
theorem qw_1010 : Cond.instanceMethod yX6_arms ∈ qx_Wd := qx_in (List.mem_of_getElem? (l := lw_tbl) (i := 1010) (by decide +kernel)) rfl
theorem qw_72 : Cond.selects RX6 yX6_arms yX6_arms ∈ qx_Wd := qx_in (List.mem_of_getElem? (l := lw_tbl) (i := 72) (by decide +kernel)) rfl
theorem ql_X6_114 : qx_LV RX6 114 yX6_arms := ⟨qw_1010, qw_72, Or.inl qw_1008⟩
theorem qw_1012 : Cond.methodLink RX6 117 Lib.Math.max.name ∈ qx_Wd := qx_in (List.mem_of_getElem? (l := lw_tbl) (i := 1012) (by decide +kernel)) rfl
theorem ql_X6_117 : qx_LM RX6 117 Lib.Math.max.name Lib.Math.max.code := ⟨qw_1012, qw_374, qw_123, qw_375⟩
theorem qw_1025 : Cond.methodLink RX6 122 yX6_greatest ∈ qx_Wd := qx_in (List.mem_of_getElem? (l := lw_tbl) (i := 1025) (by decide +kernel)) rfl
theorem qw_1027 : Cond.instanceMethod yX6_greatest ∈ qx_Wd := qx_in (List.mem_of_getElem? (l := lw_tbl) (i := 1027) (by decide +kernel)) rfl
theorem qw_76 : Cond.selects RX6 yX6_greatest yX6_greatest ∈ qx_Wd := qx_in (List.mem_of_getElem? (l := lw_tbl) (i := 76) (by decide +kernel)) rfl
theorem ql_X6_122 : qx_LV RX6 122 yX6_greatest := ⟨qw_1027, qw_76, Or.inl qw_1025⟩
theorem qw_993 : Cond.methodLink RX6 125 yX6_yearns ∈ qx_Wd := qx_in (List.mem_of_getElem? (l := lw_tbl) (i := 993) (by decide +kernel)) rfl
theorem qw_995 : Cond.instanceMethod yX6_yearns ∈ qx_Wd := qx_in (List.mem_of_getElem? (l := lw_tbl) (i := 995) (by decide +kernel)) rfl
theorem qw_69 : Cond.selects RX6 yX6_yearns yX6_yearns ∈ qx_Wd := qx_in (List.mem_of_getElem? (l := lw_tbl) (i := 69) (by decide +kernel)) rfl
theorem ql_X6_125 : qx_LV RX6 125 yX6_yearns := ⟨qw_995, qw_69, Or.inl qw_993⟩
theorem qw_1013 : Cond.methodLink RX6 128 yX6_leavesWith ∈ qx_Wd := qx_in (List.mem_of_getElem? (l := lw_tbl) (i := 1013) (by decide +kernel)) rfl
theorem qw_1015 : Cond.instanceMethod yX6_leavesWith ∈ qx_Wd := qx_in (List.mem_of_getElem? (l := lw_tbl) (i := 1015) (by decide +kernel)) rfl
theorem qw_73 : Cond.selects RX6 yX6_leavesWith yX6_leavesWith ∈ qx_Wd := qx_in (List.mem_of_getElem? (l := lw_tbl) (i := 73) (by decide +kernel)) rfl
theorem ql_X6_128 : qx_LV RX6 128 yX6_leavesWith := ⟨qw_1015, qw_73, Or.inl qw_1013⟩
theorem qw_1017 : Cond.methodLink RX6 131 yX6_steps ∈ qx_Wd := qx_in (List.mem_of_getElem? (l := lw_tbl) (i := 1017) (by decide +kernel)) rfl
theorem qw_1019 : Cond.instanceMethod yX6_steps ∈ qx_Wd := qx_in (List.mem_of_getElem? (l := lw_tbl) (i := 1019) (by decide +kernel)) rfl
theorem qw_74 : Cond.selects RX6 yX6_steps yX6_steps ∈ qx_Wd := qx_in (List.mem_of_getElem? (l := lw_tbl) (i := 74) (by decide +kernel)) rfl
theorem ql_X6_131 : qx_LV RX6 131 yX6_steps := ⟨qw_1019, qw_74, Or.inl qw_1017⟩
theorem qw_1021 : Cond.methodLink RX6 134 yX6_says ∈ qx_Wd := qx_in (List.mem_of_getElem? (l := lw_tbl) (i := 1021) (by decide +kernel)) rfl
theorem qw_1023 : Cond.instanceMethod yX6_says ∈ qx_Wd := qx_in (List.mem_of_getElem? (l := lw_tbl) (i := 1023) (by decide +kernel)) rfl
theorem qw_75 : Cond.selects RX6 yX6_says yX6_says ∈ qx_Wd := qx_in (List.mem_of_getElem? (l := lw_tbl) (i := 75) (by decide +kernel)) rfl
theorem ql_X6_134 : qx_LV RX6 134 yX6_says := ⟨qw_1023, qw_75, Or.inl qw_1021⟩
theorem qw_985 : Cond.methodLink RX6 137 yX6_isBust ∈ qx_Wd := qx_in (List.mem_of_getElem? (l := lw_tbl) (i := 985) (by decide +kernel)) rfl
theorem qw_987 : Cond.instanceMethod yX6_isBust ∈ qx_Wd := qx_in (List.mem_of_getElem? (l := lw_tbl) (i := 987) (by decide +kernel)) rfl
theorem qw_67 : Cond.selects RX6 yX6_isBust yX6_isBust ∈ qx_Wd := qx_in (List.mem_of_getElem? (l := lw_tbl) (i := 67) (by decide +kernel)) rfl
theorem ql_X6_137 : qx_LV RX6 137 yX6_isBust := ⟨qw_987, qw_67, Or.inl qw_985⟩
theorem qw_989 : Cond.methodLink RX6 140 yX6_told ∈ qx_Wd := qx_in (List.mem_of_getElem? (l := lw_tbl) (i := 989) (by decide +kernel)) rfl
theorem qw_991 : Cond.instanceMethod yX6_told ∈ qx_Wd := qx_in (List.mem_of_getElem? (l := lw_tbl) (i := 991) (by decide +kernel)) rfl
theorem qw_68 : Cond.selects RX6 yX6_told yX6_told ∈ qx_Wd := qx_in (List.mem_of_getElem? (l := lw_tbl) (i := 68) (by decide +kernel)) rfl
theorem ql_X6_140 : qx_LV RX6 140 yX6_told := ⟨qw_991, qw_68, Or.inl qw_989⟩
theorem qw_1033 : Cond.methodLink RX6 143 yX6_isField ∈ qx_Wd := qx_in (List.mem_of_getElem? (l := lw_tbl) (i := 1033) (by decide +kernel)) rfl
theorem qw_1034 : Cond.static yX6_isField ∈ qx_Wd := qx_in (List.mem_of_getElem? (l := lw_tbl) (i := 1034) (by decide +kernel)) rfl
theorem ql_X6_143 : qx_LS RX6 143 yX6_isField := ⟨qw_1034, qw_1033⟩
theorem qw_1040 : Cond.methodLink RX6 146 yX6_takes ∈ qx_Wd := qx_in (List.mem_of_getElem? (l := lw_tbl) (i := 1040) (by decide +kernel)) rfl
theorem qw_1042 : Cond.instanceMethod yX6_takes ∈ qx_Wd := qx_in (List.mem_of_getElem? (l := lw_tbl) (i := 1042) (by decide +kernel)) rfl
theorem qw_77 : Cond.selects RX6 yX6_takes yX6_takes ∈ qx_Wd := qx_in (List.mem_of_getElem? (l := lw_tbl) (i := 77) (by decide +kernel)) rfl
theorem ql_X6_146 : qx_LV RX6 146 yX6_takes := ⟨qw_1042, qw_77, Or.inl qw_1040⟩
theorem qw_1056 : Cond.methodLink RX6 149 yX6_isGone ∈ qx_Wd := qx_in (List.mem_of_getElem? (l := lw_tbl) (i := 1056) (by decide +kernel)) rfl
theorem qw_1058 : Cond.instanceMethod yX6_isGone ∈ qx_Wd := qx_in (List.mem_of_getElem? (l := lw_tbl) (i := 1058) (by decide +kernel)) rfl
theorem qw_80 : Cond.selects RX6 yX6_isGone yX6_isGone ∈ qx_Wd := qx_in (List.mem_of_getElem? (l := lw_tbl) (i := 80) (by decide +kernel)) rfl
theorem ql_X6_149 : qx_LV RX6 149 yX6_isGone := ⟨qw_1058, qw_80, Or.inl qw_1056⟩
theorem qw_1052 : Cond.methodLink RX6 152 yX6_heirOf ∈ qx_Wd := qx_in (List.mem_of_getElem? (l := lw_tbl) (i := 1052) (by decide +kernel)) rfl
theorem qw_1054 : Cond.instanceMethod yX6_heirOf ∈ qx_Wd := qx_in (List.mem_of_getElem? (l := lw_tbl) (i := 1054) (by decide +kernel)) rfl
theorem qw_79 : Cond.selects RX6 yX6_heirOf yX6_heirOf ∈ qx_Wd := qx_in (List.mem_of_getElem? (l := lw_tbl) (i := 79) (by decide +kernel)) rfl
theorem ql_X6_152 : qx_LV RX6 152 yX6_heirOf := ⟨qw_1054, qw_79, Or.inl qw_1052⟩
theorem qw_1060 : Cond.methodLink RX6 155 yX6_orNone ∈ qx_Wd := qx_in (List.mem_of_getElem? (l := lw_tbl) (i := 1060) (by decide +kernel)) rfl
theorem qw_1062 : Cond.instanceMethod yX6_orNone ∈ qx_Wd := qx_in (List.mem_of_getElem? (l := lw_tbl) (i := 1062) (by decide +kernel)) rfl
theorem qw_81 : Cond.selects RX6 yX6_orNone yX6_orNone ∈ qx_Wd := qx_in (List.mem_of_getElem? (l := lw_tbl) (i := 81) (by decide +kernel)) rfl
theorem ql_X6_155 : qx_LV RX6 155 yX6_orNone := ⟨qw_1062, qw_81, Or.inl qw_1060⟩
theorem qw_1070 : Cond.methodLink RX6 159 yX6_gets ∈ qx_Wd := qx_in (List.mem_of_getElem? (l := lw_tbl) (i := 1070) (by decide +kernel)) rfl
theorem qw_1072 : Cond.instanceMethod yX6_gets ∈ qx_Wd := qx_in (List.mem_of_getElem? (l := lw_tbl) (i := 1072) (by decide +kernel)) rfl
theorem qw_82 : Cond.selects RX6 yX6_gets yX6_gets ∈ qx_Wd := qx_in (List.mem_of_getElem? (l := lw_tbl) (i := 82) (by decide +kernel)) rfl
theorem ql_X6_159 : qx_LV RX6 159 yX6_gets := ⟨qw_1072, qw_82, Or.inl qw_1070⟩
theorem qw_1095 : Cond.methodLink RX6 162 Lib.Math.min.name ∈ qx_Wd := qx_in (List.mem_of_getElem? (l := lw_tbl) (i := 1095) (by decide +kernel)) rfl
theorem ql_X6_162 : qx_LM RX6 162 Lib.Math.min.name Lib.Math.min.code := ⟨qw_1095, qw_454, qw_123, qw_455⟩
theorem qw_1091 : Cond.methodLink RX6 165 yX6_more ∈ qx_Wd := qx_in (List.mem_of_getElem? (l := lw_tbl) (i := 1091) (by decide +kernel)) rfl
theorem qw_1093 : Cond.instanceMethod yX6_more ∈ qx_Wd := qx_in (List.mem_of_getElem? (l := lw_tbl) (i := 1093) (by decide +kernel)) rfl
theorem qw_86 : Cond.selects RX6 yX6_more yX6_more ∈ qx_Wd := qx_in (List.mem_of_getElem? (l := lw_tbl) (i := 86) (by decide +kernel)) rfl
theorem ql_X6_165 : qx_LV RX6 165 yX6_more := ⟨qw_1093, qw_86, Or.inl qw_1091⟩
theorem qw_1100 : Cond.methodLink RX6 169 yX6_wouldWalk ∈ qx_Wd := qx_in (List.mem_of_getElem? (l := lw_tbl) (i := 1100) (by decide +kernel)) rfl
theorem qw_1102 : Cond.instanceMethod yX6_wouldWalk ∈ qx_Wd := qx_in (List.mem_of_getElem? (l := lw_tbl) (i := 1102) (by decide +kernel)) rfl
theorem qw_88 : Cond.selects RX6 yX6_wouldWalk yX6_wouldWalk ∈ qx_Wd := qx_in (List.mem_of_getElem? (l := lw_tbl) (i := 88) (by decide +kernel)) rfl
theorem ql_X6_169 : qx_LV RX6 169 yX6_wouldWalk := ⟨qw_1102, qw_88, Or.inl qw_1100⟩
theorem qw_1087 : Cond.methodLink RX6 172 yX6_placeNow ∈ qx_Wd := qx_in (List.mem_of_getElem? (l := lw_tbl) (i := 1087) (by decide +kernel)) rfl
theorem qw_1089 : Cond.instanceMethod yX6_placeNow ∈ qx_Wd := qx_in (List.mem_of_getElem? (l := lw_tbl) (i := 1089) (by decide +kernel)) rfl
theorem qw_85 : Cond.selects RX6 yX6_placeNow yX6_placeNow ∈ qx_Wd := qx_in (List.mem_of_getElem? (l := lw_tbl) (i := 85) (by decide +kernel)) rfl
theorem ql_X6_172 : qx_LV RX6 172 yX6_placeNow := ⟨qw_1089, qw_85, Or.inl qw_1087⟩
theorem qw_1096 : Cond.methodLink RX6 176 yX6_yearnsOn ∈ qx_Wd := qx_in (List.mem_of_getElem? (l := lw_tbl) (i := 1096) (by decide +kernel)) rfl
theorem qw_1098 : Cond.instanceMethod yX6_yearnsOn ∈ qx_Wd := qx_in (List.mem_of_getElem? (l := lw_tbl) (i := 1098) (by decide +kernel)) rfl
theorem qw_87 : Cond.selects RX6 yX6_yearnsOn yX6_yearnsOn ∈ qx_Wd := qx_in (List.mem_of_getElem? (l := lw_tbl) (i := 87) (by decide +kernel)) rfl
theorem ql_X6_176 : qx_LV RX6 176 yX6_yearnsOn := ⟨qw_1098, qw_87, Or.inl qw_1096⟩
theorem qw_1083 : Cond.methodLink RX6 181 yX6_day ∈ qx_Wd := qx_in (List.mem_of_getElem? (l := lw_tbl) (i := 1083) (by decide +kernel)) rfl
theorem qw_1085 : Cond.instanceMethod yX6_day ∈ qx_Wd := qx_in (List.mem_of_getElem? (l := lw_tbl) (i := 1085) (by decide +kernel)) rfl
theorem qw_84 : Cond.selects RX6 yX6_day yX6_day ∈ qx_Wd := qx_in (List.mem_of_getElem? (l := lw_tbl) (i := 84) (by decide +kernel)) rfl
theorem ql_X6_181 : qx_LV RX6 181 yX6_day := ⟨qw_1085, qw_84, Or.inl qw_1083⟩
theorem qw_1079 : Cond.methodLink RX6 184 yX6_daysGo ∈ qx_Wd := qx_in (List.mem_of_getElem? (l := lw_tbl) (i := 1079) (by decide +kernel)) rfl
theorem qw_1081 : Cond.instanceMethod yX6_daysGo ∈ qx_Wd := qx_in (List.mem_of_getElem? (l := lw_tbl) (i := 1081) (by decide +kernel)) rfl
theorem qw_83 : Cond.selects RX6 yX6_daysGo yX6_daysGo ∈ qx_Wd := qx_in (List.mem_of_getElem? (l := lw_tbl) (i := 83) (by decide +kernel)) rfl
theorem ql_X6_184 : qx_LV RX6 184 yX6_daysGo := ⟨qw_1081, qw_83, Or.inl qw_1079⟩
theorem qw_1108 : Cond.methodLink RX6 187 yX6_inStore ∈ qx_Wd := qx_in (List.mem_of_getElem? (l := lw_tbl) (i := 1108) (by decide +kernel)) rfl
theorem qw_1110 : Cond.instanceMethod yX6_inStore ∈ qx_Wd := qx_in (List.mem_of_getElem? (l := lw_tbl) (i := 1110) (by decide +kernel)) rfl
theorem qw_89 : Cond.selects RX6 yX6_inStore yX6_inStore ∈ qx_Wd := qx_in (List.mem_of_getElem? (l := lw_tbl) (i := 89) (by decide +kernel)) rfl
theorem ql_X6_187 : qx_LV RX6 187 yX6_inStore := ⟨qw_1110, qw_89, Or.inl qw_1108⟩
theorem qw_1112 : Cond.methodLink RX6 190 yX6_wholeOnes ∈ qx_Wd := qx_in (List.mem_of_getElem? (l := lw_tbl) (i := 1112) (by decide +kernel)) rfl
theorem qw_1114 : Cond.instanceMethod yX6_wholeOnes ∈ qx_Wd := qx_in (List.mem_of_getElem? (l := lw_tbl) (i := 1114) (by decide +kernel)) rfl
theorem qw_90 : Cond.selects RX6 yX6_wholeOnes yX6_wholeOnes ∈ qx_Wd := qx_in (List.mem_of_getElem? (l := lw_tbl) (i := 90) (by decide +kernel)) rfl
theorem ql_X6_190 : qx_LV RX6 190 yX6_wholeOnes := ⟨qw_1114, qw_90, Or.inl qw_1112⟩
theorem qw_1116 : Cond.methodLink RX6 193 yX6_walkers ∈ qx_Wd := qx_in (List.mem_of_getElem? (l := lw_tbl) (i := 1116) (by decide +kernel)) rfl
theorem qw_1118 : Cond.instanceMethod yX6_walkers ∈ qx_Wd := qx_in (List.mem_of_getElem? (l := lw_tbl) (i := 1118) (by decide +kernel)) rfl
theorem qw_91 : Cond.selects RX6 yX6_walkers yX6_walkers ∈ qx_Wd := qx_in (List.mem_of_getElem? (l := lw_tbl) (i := 91) (by decide +kernel)) rfl
theorem ql_X6_193 : qx_LV RX6 193 yX6_walkers := ⟨qw_1118, qw_91, Or.inl qw_1116⟩
theorem qw_1120 : Cond.methodLink RX6 196 yX6_loudest ∈ qx_Wd := qx_in (List.mem_of_getElem? (l := lw_tbl) (i := 1120) (by decide +kernel)) rfl
theorem qw_1122 : Cond.instanceMethod yX6_loudest ∈ qx_Wd := qx_in (List.mem_of_getElem? (l := lw_tbl) (i := 1122) (by decide +kernel)) rfl
theorem qw_92 : Cond.selects RX6 yX6_loudest yX6_loudest ∈ qx_Wd := qx_in (List.mem_of_getElem? (l := lw_tbl) (i := 92) (by decide +kernel)) rfl
theorem ql_X6_196 : qx_LV RX6 196 yX6_loudest := ⟨qw_1122, qw_92, Or.inl qw_1120⟩
theorem qw_1124 : Cond.methodLink RX6 199 yX6_yearnings ∈ qx_Wd := qx_in (List.mem_of_getElem? (l := lw_tbl) (i := 1124) (by decide +kernel)) rfl
theorem qw_1126 : Cond.instanceMethod yX6_yearnings ∈ qx_Wd := qx_in (List.mem_of_getElem? (l := lw_tbl) (i := 1126) (by decide +kernel)) rfl
theorem qw_93 : Cond.selects RX6 yX6_yearnings yX6_yearnings ∈ qx_Wd := qx_in (List.mem_of_getElem? (l := lw_tbl) (i := 93) (by decide +kernel)) rfl
theorem ql_X6_199 : qx_LV RX6 199 yX6_yearnings := ⟨qw_1126, qw_93, Or.inl qw_1124⟩
theorem qw_1128 : Cond.methodLink RX6 202 yX6_goneOnes ∈ qx_Wd := qx_in (List.mem_of_getElem? (l := lw_tbl) (i := 1128) (by decide +kernel)) rfl
theorem qw_1130 : Cond.instanceMethod yX6_goneOnes ∈ qx_Wd := qx_in (List.mem_of_getElem? (l := lw_tbl) (i := 1130) (by decide +kernel)) rfl
theorem qw_94 : Cond.selects RX6 yX6_goneOnes yX6_goneOnes ∈ qx_Wd := qx_in (List.mem_of_getElem? (l := lw_tbl) (i := 94) (by decide +kernel)) rfl
theorem ql_X6_202 : qx_LV RX6 202 yX6_goneOnes := ⟨qw_1130, qw_94, Or.inl qw_1128⟩
theorem qw_1143 : Cond.methodLink RX6 205 yX6_putBack ∈ qx_Wd := qx_in (List.mem_of_getElem? (l := lw_tbl) (i := 1143) (by decide +kernel)) rfl
theorem qw_1145 : Cond.instanceMethod yX6_putBack ∈ qx_Wd := qx_in (List.mem_of_getElem? (l := lw_tbl) (i := 1145) (by decide +kernel)) rfl
theorem qw_96 : Cond.selects RX6 yX6_putBack yX6_putBack ∈ qx_Wd := qx_in (List.mem_of_getElem? (l := lw_tbl) (i := 96) (by decide +kernel)) rfl
theorem ql_X6_205 : qx_LV RX6 205 yX6_putBack := ⟨qw_1145, qw_96, Or.inl qw_1143⟩
theorem qw_1136 : Cond.methodLink RX6 208 yX6_toldBehind ∈ qx_Wd := qx_in (List.mem_of_getElem? (l := lw_tbl) (i := 1136) (by decide +kernel)) rfl
theorem qw_1138 : Cond.instanceMethod yX6_toldBehind ∈ qx_Wd := qx_in (List.mem_of_getElem? (l := lw_tbl) (i := 1138) (by decide +kernel)) rfl
theorem qw_95 : Cond.selects RX6 yX6_toldBehind yX6_toldBehind ∈ qx_Wd := qx_in (List.mem_of_getElem? (l := lw_tbl) (i := 95) (by decide +kernel)) rfl
theorem ql_X6_208 : qx_LV RX6 208 yX6_toldBehind := ⟨qw_1138, qw_95, Or.inl qw_1136⟩
theorem qw_1151 : Cond.methodLink RX6 212 yX6_behind ∈ qx_Wd := qx_in (List.mem_of_getElem? (l := lw_tbl) (i := 1151) (by decide +kernel)) rfl
theorem qw_1153 : Cond.instanceMethod yX6_behind ∈ qx_Wd := qx_in (List.mem_of_getElem? (l := lw_tbl) (i := 1153) (by decide +kernel)) rfl
theorem qw_97 : Cond.selects RX6 yX6_behind yX6_behind ∈ qx_Wd := qx_in (List.mem_of_getElem? (l := lw_tbl) (i := 97) (by decide +kernel)) rfl
theorem ql_X6_212 : qx_LV RX6 212 yX6_behind := ⟨qw_1153, qw_97, Or.inl qw_1151⟩
theorem qw_1171 : Cond.methodLink RX6 215 yX6_isThought ∈ qx_Wd := qx_in (List.mem_of_getElem? (l := lw_tbl) (i := 1171) (by decide +kernel)) rfl
theorem qw_1172 : Cond.static yX6_isThought ∈ qx_Wd := qx_in (List.mem_of_getElem? (l := lw_tbl) (i := 1172) (by decide +kernel)) rfl
theorem ql_X6_215 : qx_LS RX6 215 yX6_isThought := ⟨qw_1172, qw_1171⟩
theorem qw_1186 : Cond.methodLink RX6 218 yX6_leadsTo ∈ qx_Wd := qx_in (List.mem_of_getElem? (l := lw_tbl) (i := 1186) (by decide +kernel)) rfl
theorem qw_1188 : Cond.instanceMethod yX6_leadsTo ∈ qx_Wd := qx_in (List.mem_of_getElem? (l := lw_tbl) (i := 1188) (by decide +kernel)) rfl
theorem qw_98 : Cond.selects RX6 yX6_leadsTo yX6_leadsTo ∈ qx_Wd := qx_in (List.mem_of_getElem? (l := lw_tbl) (i := 98) (by decide +kernel)) rfl
theorem ql_X6_218 : qx_LV RX6 218 yX6_leadsTo := ⟨qw_1188, qw_98, Or.inl qw_1186⟩
theorem qw_1194 : Cond.methodLink RX6 221 yX6_nobodyLeaves ∈ qx_Wd := qx_in (List.mem_of_getElem? (l := lw_tbl) (i := 1194) (by decide +kernel)) rfl
theorem qw_1196 : Cond.instanceMethod yX6_nobodyLeaves ∈ qx_Wd := qx_in (List.mem_of_getElem? (l := lw_tbl) (i := 1196) (by decide +kernel)) rfl
theorem qw_99 : Cond.selects RX6 yX6_nobodyLeaves yX6_nobodyLeaves ∈ qx_Wd := qx_in (List.mem_of_getElem? (l := lw_tbl) (i := 99) (by decide +kernel)) rfl
theorem ql_X6_221 : qx_LV RX6 221 yX6_nobodyLeaves := ⟨qw_1196, qw_99, Or.inl qw_1194⟩
theorem qw_1206 : Cond.methodLink RX6 224 yX6_isSheet ∈ qx_Wd := qx_in (List.mem_of_getElem? (l := lw_tbl) (i := 1206) (by decide +kernel)) rfl
theorem qw_1207 : Cond.static yX6_isSheet ∈ qx_Wd := qx_in (List.mem_of_getElem? (l := lw_tbl) (i := 1207) (by decide +kernel)) rfl
theorem ql_X6_224 : qx_LS RX6 224 yX6_isSheet := ⟨qw_1207, qw_1206⟩
theorem qw_1214 : Cond.methodLink RX6 228 yX6_isSo ∈ qx_Wd := qx_in (List.mem_of_getElem? (l := lw_tbl) (i := 1214) (by decide +kernel)) rfl
theorem qw_1216 : Cond.instanceMethod yX6_isSo ∈ qx_Wd := qx_in (List.mem_of_getElem? (l := lw_tbl) (i := 1216) (by decide +kernel)) rfl
theorem qw_102 : Cond.selects RX6 yX6_isSo yX6_isSo ∈ qx_Wd := qx_in (List.mem_of_getElem? (l := lw_tbl) (i := 102) (by decide +kernel)) rfl
theorem ql_X6_228 : qx_LV RX6 228 yX6_isSo := ⟨qw_1216, qw_102, Or.inl qw_1214⟩
theorem qw_1202 : Cond.methodLink RX6 231 yX6_lacks ∈ qx_Wd := qx_in (List.mem_of_getElem? (l := lw_tbl) (i := 1202) (by decide +kernel)) rfl
theorem qw_1204 : Cond.instanceMethod yX6_lacks ∈ qx_Wd := qx_in (List.mem_of_getElem? (l := lw_tbl) (i := 1204) (by decide +kernel)) rfl
theorem qw_100 : Cond.selects RX6 yX6_lacks yX6_lacks ∈ qx_Wd := qx_in (List.mem_of_getElem? (l := lw_tbl) (i := 100) (by decide +kernel)) rfl
theorem ql_X6_231 : qx_LV RX6 231 yX6_lacks := ⟨qw_1204, qw_100, Or.inl qw_1202⟩
theorem qw_1210 : Cond.methodLink RX6 235 yX6_fitting ∈ qx_Wd := qx_in (List.mem_of_getElem? (l := lw_tbl) (i := 1210) (by decide +kernel)) rfl
theorem qw_1212 : Cond.instanceMethod yX6_fitting ∈ qx_Wd := qx_in (List.mem_of_getElem? (l := lw_tbl) (i := 1212) (by decide +kernel)) rfl
theorem qw_101 : Cond.selects RX6 yX6_fitting yX6_fitting ∈ qx_Wd := qx_in (List.mem_of_getElem? (l := lw_tbl) (i := 101) (by decide +kernel)) rfl
theorem ql_X6_235 : qx_LV RX6 235 yX6_fitting := ⟨qw_1212, qw_101, Or.inl qw_1210⟩
theorem qw_1226 : Cond.methodLink RX6 240 yX6_drawn ∈ qx_Wd := qx_in (List.mem_of_getElem? (l := lw_tbl) (i := 1226) (by decide +kernel)) rfl
theorem qw_1228 : Cond.instanceMethod yX6_drawn ∈ qx_Wd := qx_in (List.mem_of_getElem? (l := lw_tbl) (i := 1228) (by decide +kernel)) rfl
theorem qw_103 : Cond.selects RX6 yX6_drawn yX6_drawn ∈ qx_Wd := qx_in (List.mem_of_getElem? (l := lw_tbl) (i := 103) (by decide +kernel)) rfl
theorem ql_X6_240 : qx_LV RX6 240 yX6_drawn := ⟨qw_1228, qw_103, Or.inl qw_1226⟩
theorem qw_1255 : Cond.methodLink RX6 253 yX6_byteAt ∈ qx_Wd := qx_in (List.mem_of_getElem? (l := lw_tbl) (i := 1255) (by decide +kernel)) rfl
theorem qw_1257 : Cond.instanceMethod yX6_byteAt ∈ qx_Wd := qx_in (List.mem_of_getElem? (l := lw_tbl) (i := 1257) (by decide +kernel)) rfl
theorem qw_105 : Cond.selects RX6 yX6_byteAt yX6_byteAt ∈ qx_Wd := qx_in (List.mem_of_getElem? (l := lw_tbl) (i := 105) (by decide +kernel)) rfl
theorem ql_X6_253 : qx_LV RX6 253 yX6_byteAt := ⟨qw_1257, qw_105, Or.inl qw_1255⟩
theorem qw_1267 : Cond.methodLink RX6 262 yJ0_length_8abf5 ∈ qx_Wd := qx_in (List.mem_of_getElem? (l := lw_tbl) (i := 1267) (by decide +kernel)) rfl
theorem ql_X6_262 : qx_LV RX6 262 yJ0_length_8abf5 := ⟨qw_686, qw_687, Or.inl qw_1267⟩
theorem qw_1268 : Cond.methodLink RX6 265 yJ0_charAt_5068e ∈ qx_Wd := qx_in (List.mem_of_getElem? (l := lw_tbl) (i := 1268) (by decide +kernel)) rfl
theorem ql_X6_265 : qx_LV RX6 265 yJ0_charAt_5068e := ⟨qw_696, qw_697, Or.inl qw_1268⟩
theorem qw_1251 : Cond.methodLink RX6 273 yX6_token ∈ qx_Wd := qx_in (List.mem_of_getElem? (l := lw_tbl) (i := 1251) (by decide +kernel)) rfl
theorem qw_1253 : Cond.instanceMethod yX6_token ∈ qx_Wd := qx_in (List.mem_of_getElem? (l := lw_tbl) (i := 1253) (by decide +kernel)) rfl
theorem qw_104 : Cond.selects RX6 yX6_token yX6_token ∈ qx_Wd := qx_in (List.mem_of_getElem? (l := lw_tbl) (i := 104) (by decide +kernel)) rfl
theorem ql_X6_273 : qx_LV RX6 273 yX6_token := ⟨qw_1253, qw_104, Or.inl qw_1251⟩
theorem qw_1273 : Cond.methodLink RX6 276 yX6_must ∈ qx_Wd := qx_in (List.mem_of_getElem? (l := lw_tbl) (i := 1273) (by decide +kernel)) rfl
theorem qw_1275 : Cond.instanceMethod yX6_must ∈ qx_Wd := qx_in (List.mem_of_getElem? (l := lw_tbl) (i := 1275) (by decide +kernel)) rfl
theorem qw_109 : Cond.selects RX6 yX6_must yX6_must ∈ qx_Wd := qx_in (List.mem_of_getElem? (l := lw_tbl) (i := 109) (by decide +kernel)) rfl
theorem ql_X6_276 : qx_LV RX6 276 yX6_must := ⟨qw_1275, qw_109, Or.inl qw_1273⟩
theorem qw_1263 : Cond.methodLink RX6 283 yX6_isWord ∈ qx_Wd := qx_in (List.mem_of_getElem? (l := lw_tbl) (i := 1263) (by decide +kernel)) rfl
theorem qw_1265 : Cond.instanceMethod yX6_isWord ∈ qx_Wd := qx_in (List.mem_of_getElem? (l := lw_tbl) (i := 1265) (by decide +kernel)) rfl
theorem qw_107 : Cond.selects RX6 yX6_isWord yX6_isWord ∈ qx_Wd := qx_in (List.mem_of_getElem? (l := lw_tbl) (i := 107) (by decide +kernel)) rfl
theorem ql_X6_283 : qx_LV RX6 283 yX6_isWord := ⟨qw_1265, qw_107, Or.inl qw_1263⟩
theorem qw_1277 : Cond.methodLink RX6 290 yX6_number ∈ qx_Wd := qx_in (List.mem_of_getElem? (l := lw_tbl) (i := 1277) (by decide +kernel)) rfl
theorem qw_1279 : Cond.instanceMethod yX6_number ∈ qx_Wd := qx_in (List.mem_of_getElem? (l := lw_tbl) (i := 1279) (by decide +kernel)) rfl
theorem qw_110 : Cond.selects RX6 yX6_number yX6_number ∈ qx_Wd := qx_in (List.mem_of_getElem? (l := lw_tbl) (i := 110) (by decide +kernel)) rfl
theorem ql_X6_290 : qx_LV RX6 290 yX6_number := ⟨qw_1279, qw_110, Or.inl qw_1277⟩
theorem qw_1282 : Cond.methodLink RX6 294 yX6_takesWord ∈ qx_Wd := qx_in (List.mem_of_getElem? (l := lw_tbl) (i := 1282) (by decide +kernel)) rfl
theorem qw_1284 : Cond.instanceMethod yX6_takesWord ∈ qx_Wd := qx_in (List.mem_of_getElem? (l := lw_tbl) (i := 1284) (by decide +kernel)) rfl
theorem qw_111 : Cond.selects RX6 yX6_takesWord yX6_takesWord ∈ qx_Wd := qx_in (List.mem_of_getElem? (l := lw_tbl) (i := 111) (by decide +kernel)) rfl
theorem ql_X6_294 : qx_LV RX6 294 yX6_takesWord := ⟨qw_1284, qw_111, Or.inl qw_1282⟩
theorem qw_1288 : Cond.methodLink RX6 301 yX6_addItem ∈ qx_Wd := qx_in (List.mem_of_getElem? (l := lw_tbl) (i := 1288) (by decide +kernel)) rfl
theorem qw_1290 : Cond.instanceMethod yX6_addItem ∈ qx_Wd := qx_in (List.mem_of_getElem? (l := lw_tbl) (i := 1290) (by decide +kernel)) rfl
theorem qw_112 : Cond.selects RX6 yX6_addItem yX6_addItem ∈ qx_Wd := qx_in (List.mem_of_getElem? (l := lw_tbl) (i := 112) (by decide +kernel)) rfl
theorem ql_X6_301 : qx_LV RX6 301 yX6_addItem := ⟨qw_1290, qw_112, Or.inl qw_1288⟩
theorem qw_1269 : Cond.methodLink RX6 305 yX6_readBust ∈ qx_Wd := qx_in (List.mem_of_getElem? (l := lw_tbl) (i := 1269) (by decide +kernel)) rfl
theorem qw_1271 : Cond.instanceMethod yX6_readBust ∈ qx_Wd := qx_in (List.mem_of_getElem? (l := lw_tbl) (i := 1271) (by decide +kernel)) rfl
theorem qw_108 : Cond.selects RX6 yX6_readBust yX6_readBust ∈ qx_Wd := qx_in (List.mem_of_getElem? (l := lw_tbl) (i := 108) (by decide +kernel)) rfl
theorem ql_X6_305 : qx_LV RX6 305 yX6_readBust := ⟨qw_1271, qw_108, Or.inl qw_1269⟩
theorem qw_1259 : Cond.methodLink RX6 312 yX6_readItem ∈ qx_Wd := qx_in (List.mem_of_getElem? (l := lw_tbl) (i := 1259) (by decide +kernel)) rfl
theorem qw_1261 : Cond.instanceMethod yX6_readItem ∈ qx_Wd := qx_in (List.mem_of_getElem? (l := lw_tbl) (i := 1261) (by decide +kernel)) rfl
theorem qw_106 : Cond.selects RX6 yX6_readItem yX6_readItem ∈ qx_Wd := qx_in (List.mem_of_getElem? (l := lw_tbl) (i := 106) (by decide +kernel)) rfl
theorem ql_X6_312 : qx_LV RX6 312 yX6_readItem := ⟨qw_1261, qw_106, Or.inl qw_1259⟩
theorem qw_1294 : Cond.methodLink RX6 315 yX6_isToldSo ∈ qx_Wd := qx_in (List.mem_of_getElem? (l := lw_tbl) (i := 1294) (by decide +kernel)) rfl
theorem qw_1296 : Cond.instanceMethod yX6_isToldSo ∈ qx_Wd := qx_in (List.mem_of_getElem? (l := lw_tbl) (i := 1296) (by decide +kernel)) rfl
theorem qw_113 : Cond.selects RX6 yX6_isToldSo yX6_isToldSo ∈ qx_Wd := qx_in (List.mem_of_getElem? (l := lw_tbl) (i := 113) (by decide +kernel)) rfl
theorem ql_X6_315 : qx_LV RX6 315 yX6_isToldSo := ⟨qw_1296, qw_113, Or.inl qw_1294⟩
theorem qw_1302 : Cond.methodLink RX6 318 yX6_isSpot ∈ qx_Wd := qx_in (List.mem_of_getElem? (l := lw_tbl) (i := 1302) (by decide +kernel)) rfl
theorem qw_1303 : Cond.static yX6_isSpot ∈ qx_Wd := qx_in (List.mem_of_getElem? (l := lw_tbl) (i := 1303) (by decide +kernel)) rfl
theorem ql_X6_318 : qx_LS RX6 318 yX6_isSpot := ⟨qw_1303, qw_1302⟩
theorem qw_1309 : Cond.methodLink RX6 321 yX6_isUnder ∈ qx_Wd := qx_in (List.mem_of_getElem? (l := lw_tbl) (i := 1309) (by decide +kernel)) rfl
theorem qw_1310 : Cond.static yX6_isUnder ∈ qx_Wd := qx_in (List.mem_of_getElem? (l := lw_tbl) (i := 1310) (by decide +kernel)) rfl
theorem ql_X6_321 : qx_LS RX6 321 yX6_isUnder := ⟨qw_1310, qw_1309⟩
theorem qw_1325 : Cond.methodLink RX6 326 yX6_cutTo ∈ qx_Wd := qx_in (List.mem_of_getElem? (l := lw_tbl) (i := 1325) (by decide +kernel)) rfl
theorem qw_1326 : Cond.static yX6_cutTo ∈ qx_Wd := qx_in (List.mem_of_getElem? (l := lw_tbl) (i := 1326) (by decide +kernel)) rfl
theorem ql_X6_326 : qx_LS RX6 326 yX6_cutTo := ⟨qw_1326, qw_1325⟩
theorem qw_1312 : Cond.methodLink RX6 329 yX6_above ∈ qx_Wd := qx_in (List.mem_of_getElem? (l := lw_tbl) (i := 1312) (by decide +kernel)) rfl
theorem qw_1313 : Cond.static yX6_above ∈ qx_Wd := qx_in (List.mem_of_getElem? (l := lw_tbl) (i := 1313) (by decide +kernel)) rfl
theorem ql_X6_329 : qx_LS RX6 329 yX6_above := ⟨qw_1313, qw_1312⟩
theorem qw_689 : Cond.methodLink RJ0 335 yJ0_coder_7d493 ∈ qx_Wd := qx_in (List.mem_of_getElem? (l := lw_tbl) (i := 689) (by decide +kernel)) rfl
theorem qw_690 : Cond.instanceMethod yJ0_coder_7d493 ∈ qx_Wd := qx_in (List.mem_of_getElem? (l := lw_tbl) (i := 690) (by decide +kernel)) rfl
theorem qw_691 : Cond.selects RJ0 yJ0_coder_7d493 yJ0_coder_7d493 ∈ qx_Wd := qx_in (List.mem_of_getElem? (l := lw_tbl) (i := 691) (by decide +kernel)) rfl
theorem ql_J0_335 : qx_LV RJ0 335 yJ0_coder_7d493 := ⟨qw_690, qw_691, Or.inl qw_689⟩
theorem qw_699 : Cond.methodLink RJ0 492 yJ0_isLatin1_aae02 ∈ qx_Wd := qx_in (List.mem_of_getElem? (l := lw_tbl) (i := 699) (by decide +kernel)) rfl
theorem qw_700 : Cond.instanceMethod yJ0_isLatin1_aae02 ∈ qx_Wd := qx_in (List.mem_of_getElem? (l := lw_tbl) (i := 700) (by decide +kernel)) rfl
theorem qw_701 : Cond.selects RJ0 yJ0_isLatin1_aae02 yJ0_isLatin1_aae02 ∈ qx_Wd := qx_in (List.mem_of_getElem? (l := lw_tbl) (i := 701) (by decide +kernel)) rfl
theorem ql_J0_492 : qx_LV RJ0 492 yJ0_isLatin1_aae02 := ⟨qw_700, qw_701, Or.inl qw_699⟩
theorem qw_703 : Cond.methodLink RJ0 495 yJ1_charAt_3b067 ∈ qx_Wd := qx_in (List.mem_of_getElem? (l := lw_tbl) (i := 703) (by decide +kernel)) rfl
theorem qw_704 : Cond.static yJ1_charAt_3b067 ∈ qx_Wd := qx_in (List.mem_of_getElem? (l := lw_tbl) (i := 704) (by decide +kernel)) rfl
theorem ql_J0_495 : qx_LS RJ0 495 yJ1_charAt_3b067 := ⟨qw_704, qw_703⟩
theorem qw_714 : Cond.methodLink RJ0 498 yJ2_charAt_3b067 ∈ qx_Wd := qx_in (List.mem_of_getElem? (l := lw_tbl) (i := 714) (by decide +kernel)) rfl
theorem qw_715 : Cond.static yJ2_charAt_3b067 ∈ qx_Wd := qx_in (List.mem_of_getElem? (l := lw_tbl) (i := 715) (by decide +kernel)) rfl
theorem ql_J0_498 : qx_LS RJ0 498 yJ2_charAt_3b067 := ⟨qw_715, qw_714⟩
theorem qw_711 : Cond.methodLink RJ0 1059 yJ3_checkIndex_8e157 ∈ qx_Wd := qx_in (List.mem_of_getElem? (l := lw_tbl) (i := 711) (by decide +kernel)) rfl
theorem qw_712 : Cond.static yJ3_checkIndex_8e157 ∈ qx_Wd := qx_in (List.mem_of_getElem? (l := lw_tbl) (i := 712) (by decide +kernel)) rfl
theorem ql_J0_1059 : qx_LS RJ0 1059 yJ3_checkIndex_8e157 := ⟨qw_712, qw_711⟩
theorem qw_706 : Cond.methodLink RJ1 9 yJ0_checkIndex_df160 ∈ qx_Wd := qx_in (List.mem_of_getElem? (l := lw_tbl) (i := 706) (by decide +kernel)) rfl
theorem qw_707 : Cond.static yJ0_checkIndex_df160 ∈ qx_Wd := qx_in (List.mem_of_getElem? (l := lw_tbl) (i := 707) (by decide +kernel)) rfl
theorem ql_J1_9 : qx_LS RJ1 9 yJ0_checkIndex_df160 := ⟨qw_707, qw_706⟩
theorem qw_720 : Cond.methodLink RJ2 48 yJ2_length_9d52b ∈ qx_Wd := qx_in (List.mem_of_getElem? (l := lw_tbl) (i := 720) (by decide +kernel)) rfl
theorem qw_721 : Cond.static yJ2_length_9d52b ∈ qx_Wd := qx_in (List.mem_of_getElem? (l := lw_tbl) (i := 721) (by decide +kernel)) rfl
theorem ql_J2_48 : qx_LS RJ2 48 yJ2_length_9d52b := ⟨qw_721, qw_720⟩
theorem qw_717 : Cond.methodLink RJ2 67 yJ2_checkIndex_2214a ∈ qx_Wd := qx_in (List.mem_of_getElem? (l := lw_tbl) (i := 717) (by decide +kernel)) rfl
theorem qw_718 : Cond.static yJ2_checkIndex_2214a ∈ qx_Wd := qx_in (List.mem_of_getElem? (l := lw_tbl) (i := 718) (by decide +kernel)) rfl
theorem ql_J2_67 : qx_LS RJ2 67 yJ2_checkIndex_2214a := ⟨qw_718, qw_717⟩
theorem qw_724 : Cond.methodLink RJ2 71 yJ2_getChar_3b067 ∈ qx_Wd := qx_in (List.mem_of_getElem? (l := lw_tbl) (i := 724) (by decide +kernel)) rfl
theorem qw_725 : Cond.static yJ2_getChar_3b067 ∈ qx_Wd := qx_in (List.mem_of_getElem? (l := lw_tbl) (i := 725) (by decide +kernel)) rfl
theorem ql_J2_71 : qx_LS RJ2 71 yJ2_getChar_3b067 := ⟨qw_725, qw_724⟩
theorem qw_723 : Cond.methodLink RJ2 414 yJ0_checkIndex_df160 ∈ qx_Wd := qx_in (List.mem_of_getElem? (l := lw_tbl) (i := 723) (by decide +kernel)) rfl
theorem ql_J2_414 : qx_LS RJ2 414 yJ0_checkIndex_df160 := ⟨qw_707, qw_723⟩
