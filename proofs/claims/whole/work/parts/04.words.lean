/-! the words of the tables that last, one row a word -/
def TB : List Cond := lw_tbl.filter goodWord
theorem mT {w : Cond} (h : w ∈ tables_1) (g : goodWord w = true) : w ∈ TB := List.mem_filter.mpr ⟨List.mem_append_right _ h, g⟩
theorem mS {w : Cond} (h : w ∈ k2_sels lw_privs) (g : goodWord w = true) : w ∈ TB := List.mem_filter.mpr ⟨List.mem_append_left _ h, g⟩
theorem TB_in : ∀ w ∈ TB, w ∈ lw_tbl := fun _ h => (List.mem_filter.mp h).1
theorem TB_good : ∀ w ∈ TB, goodWord w = true := fun _ h => (List.mem_filter.mp h).2
theorem TB_c {y : MethodName} {b : ByteArray} {n : Nat} {r : Option FieldType} (h : Cond.code y b n r ∈ TB) : GoodIn TB (Cond.code y b n r :: TB) := fun w hw => (List.mem_cons.mp hw).elim (fun e => by subst e; exact ⟨h, good_of_word (TB_good _ h)⟩) (fun hm => ⟨hm, good_of_word (TB_good _ hm)⟩)

theorem in_L : Cond.initialized RL ∈ TB := mT (List.mem_of_getElem? (i := 0) (by decide +kernel)) rfl
theorem in_X5 : Cond.initialized RX5 ∈ TB := mT (List.mem_of_getElem? (i := 1) (by decide +kernel)) rfl
theorem in_X4 : Cond.initialized RX4 ∈ TB := mT (List.mem_of_getElem? (i := 2) (by decide +kernel)) rfl
theorem in_X0 : Cond.initialized RX0 ∈ TB := mT (List.mem_of_getElem? (i := 3) (by decide +kernel)) rfl
theorem in_X1 : Cond.initialized RX1 ∈ TB := mT (List.mem_of_getElem? (i := 4) (by decide +kernel)) rfl
theorem in_X2 : Cond.initialized RX2 ∈ TB := mT (List.mem_of_getElem? (i := 5) (by decide +kernel)) rfl
theorem in_X3 : Cond.initialized RX3 ∈ TB := mT (List.mem_of_getElem? (i := 6) (by decide +kernel)) rfl
theorem in_J7 : Cond.initialized RJ7 ∈ TB := mT (List.mem_of_getElem? (i := 7) (by decide +kernel)) rfl
theorem in_J10 : Cond.initialized RJ10 ∈ TB := mT (List.mem_of_getElem? (i := 8) (by decide +kernel)) rfl
theorem in_J9 : Cond.initialized RJ9 ∈ TB := mT (List.mem_of_getElem? (i := 9) (by decide +kernel)) rfl
theorem in_X6 : Cond.initialized RX6 ∈ TB := mT (List.mem_of_getElem? (i := 10) (by decide +kernel)) rfl
theorem in_J6 : Cond.initialized RJ6 ∈ TB := mT (List.mem_of_getElem? (i := 11) (by decide +kernel)) rfl
theorem cl_L_7 : Cond.classLink RL 7 RX5 ∈ TB := mT (List.mem_of_getElem? (i := 12) (by decide +kernel)) rfl
theorem is_X5 : Cond.instantiable RX5 7 ∈ TB := mT (List.mem_of_getElem? (i := 13) (by decide +kernel)) rfl
theorem ml_L_9 : Cond.methodLink RL 9 yX5_init ∈ TB := mT (List.mem_of_getElem? (i := 14) (by decide +kernel)) rfl
theorem im_X5_init : Cond.instanceMethod yX5_init ∈ TB := mT (List.mem_of_getElem? (i := 15) (by decide +kernel)) rfl
theorem cd_X5_init : Cond.code yX5_init cX5_init 2 none ∈ TB := mT (List.mem_of_getElem? (i := 16) (by decide +kernel)) rfl
theorem ml_X5_3 : Cond.methodLink RX5 3 objectInit ∈ TB := mT (List.mem_of_getElem? (i := 17) (by decide +kernel)) rfl
theorem im_objectInit : Cond.instanceMethod objectInit ∈ TB := mT (List.mem_of_getElem? (i := 18) (by decide +kernel)) rfl
theorem cd_objectInit : Cond.code objectInit ⟨#[0xb1]⟩ 1 none ∈ TB := mT (List.mem_of_getElem? (i := 19) (by decide +kernel)) rfl
theorem cl_X5_9 : Cond.classLink RX5 9 RX4 ∈ TB := mT (List.mem_of_getElem? (i := 20) (by decide +kernel)) rfl
theorem is_X4 : Cond.instantiable RX4 7 ∈ TB := mT (List.mem_of_getElem? (i := 21) (by decide +kernel)) rfl
theorem im_X4_init : Cond.instanceMethod yX4_init ∈ TB := mT (List.mem_of_getElem? (i := 23) (by decide +kernel)) rfl
theorem cd_X4_init : Cond.code yX4_init cX4_init 1 none ∈ TB := mT (List.mem_of_getElem? (i := 24) (by decide +kernel)) rfl
theorem ml_X4_3 : Cond.methodLink RX4 3 objectInit ∈ TB := mT (List.mem_of_getElem? (i := 25) (by decide +kernel)) rfl
theorem fl_X4_9 : Cond.fieldLink RX4 9 (TX4 0).1 (TX4 0).2.1 (TX4 0).2.2.1 ∈ TB := mT (List.mem_of_getElem? (i := 26) (by decide +kernel)) rfl
theorem fl_X2_114 : Cond.fieldLink RX2 114 (TX4 0).1 (TX4 0).2.1 (TX4 0).2.2.1 ∈ TB := mT (List.mem_of_getElem? (i := 27) (by decide +kernel)) rfl
theorem fl_X5_135 : Cond.fieldLink RX5 135 (TX4 0).1 (TX4 0).2.1 (TX4 0).2.2.1 ∈ TB := mT (List.mem_of_getElem? (i := 28) (by decide +kernel)) rfl
theorem fl_X4_15 : Cond.fieldLink RX4 15 (TX4 1).1 (TX4 1).2.1 (TX4 1).2.2.1 ∈ TB := mT (List.mem_of_getElem? (i := 29) (by decide +kernel)) rfl
theorem fl_X5_102 : Cond.fieldLink RX5 102 (TX4 1).1 (TX4 1).2.1 (TX4 1).2.2.1 ∈ TB := mT (List.mem_of_getElem? (i := 30) (by decide +kernel)) rfl
theorem fl_X4_18 : Cond.fieldLink RX4 18 (TX4 2).1 (TX4 2).2.1 (TX4 2).2.2.1 ∈ TB := mT (List.mem_of_getElem? (i := 31) (by decide +kernel)) rfl
theorem fl_X2_85 : Cond.fieldLink RX2 85 (TX4 2).1 (TX4 2).2.1 (TX4 2).2.2.1 ∈ TB := mT (List.mem_of_getElem? (i := 32) (by decide +kernel)) rfl
theorem fl_X5_110 : Cond.fieldLink RX5 110 (TX4 2).1 (TX4 2).2.1 (TX4 2).2.2.1 ∈ TB := mT (List.mem_of_getElem? (i := 33) (by decide +kernel)) rfl
theorem fl_X4_21 : Cond.fieldLink RX4 21 (TX4 3).1 (TX4 3).2.1 (TX4 3).2.2.1 ∈ TB := mT (List.mem_of_getElem? (i := 34) (by decide +kernel)) rfl
theorem fl_X5_138 : Cond.fieldLink RX5 138 (TX4 3).1 (TX4 3).2.1 (TX4 3).2.2.1 ∈ TB := mT (List.mem_of_getElem? (i := 35) (by decide +kernel)) rfl
theorem fl_X1_81 : Cond.fieldLink RX1 81 (TX4 3).1 (TX4 3).2.1 (TX4 3).2.2.1 ∈ TB := mT (List.mem_of_getElem? (i := 36) (by decide +kernel)) rfl
theorem fl_X4_24 : Cond.fieldLink RX4 24 (TX4 4).1 (TX4 4).2.1 (TX4 4).2.2.1 ∈ TB := mT (List.mem_of_getElem? (i := 37) (by decide +kernel)) rfl
theorem fl_X1_48 : Cond.fieldLink RX1 48 (TX4 4).1 (TX4 4).2.1 (TX4 4).2.2.1 ∈ TB := mT (List.mem_of_getElem? (i := 38) (by decide +kernel)) rfl
theorem fl_X2_108 : Cond.fieldLink RX2 108 (TX4 4).1 (TX4 4).2.1 (TX4 4).2.2.1 ∈ TB := mT (List.mem_of_getElem? (i := 39) (by decide +kernel)) rfl
theorem fl_X5_144 : Cond.fieldLink RX5 144 (TX4 4).1 (TX4 4).2.1 (TX4 4).2.2.1 ∈ TB := mT (List.mem_of_getElem? (i := 40) (by decide +kernel)) rfl
theorem fl_X4_27 : Cond.fieldLink RX4 27 (TX4 5).1 (TX4 5).2.1 (TX4 5).2.2.1 ∈ TB := mT (List.mem_of_getElem? (i := 41) (by decide +kernel)) rfl
theorem fl_X5_82 : Cond.fieldLink RX5 82 (TX4 5).1 (TX4 5).2.1 (TX4 5).2.2.1 ∈ TB := mT (List.mem_of_getElem? (i := 42) (by decide +kernel)) rfl
theorem fl_X1_64 : Cond.fieldLink RX1 64 (TX4 5).1 (TX4 5).2.1 (TX4 5).2.2.1 ∈ TB := mT (List.mem_of_getElem? (i := 43) (by decide +kernel)) rfl
theorem fl_X4_31 : Cond.fieldLink RX4 31 (TX4 6).1 (TX4 6).2.1 (TX4 6).2.2.1 ∈ TB := mT (List.mem_of_getElem? (i := 44) (by decide +kernel)) rfl
theorem fl_X2_44 : Cond.fieldLink RX2 44 (TX4 6).1 (TX4 6).2.1 (TX4 6).2.2.1 ∈ TB := mT (List.mem_of_getElem? (i := 45) (by decide +kernel)) rfl
theorem fl_X5_70 : Cond.fieldLink RX5 70 (TX4 6).1 (TX4 6).2.1 (TX4 6).2.2.1 ∈ TB := mT (List.mem_of_getElem? (i := 46) (by decide +kernel)) rfl
theorem ac_62 : Cond.arrayClass FieldType.int ∈ TB := mT (List.mem_of_getElem? (i := 62) (by decide +kernel)) rfl
theorem cl_X5_16 : Cond.classLink RX5 16 RX0 ∈ TB := mT (List.mem_of_getElem? (i := 63) (by decide +kernel)) rfl
theorem is_X0 : Cond.instantiable RX0 2 ∈ TB := mT (List.mem_of_getElem? (i := 64) (by decide +kernel)) rfl
theorem im_X0_init : Cond.instanceMethod yX0_init ∈ TB := mT (List.mem_of_getElem? (i := 66) (by decide +kernel)) rfl
theorem cd_X0_init : Cond.code yX0_init cX0_init 1 none ∈ TB := mT (List.mem_of_getElem? (i := 67) (by decide +kernel)) rfl
theorem ml_X0_3 : Cond.methodLink RX0 3 objectInit ∈ TB := mT (List.mem_of_getElem? (i := 68) (by decide +kernel)) rfl
theorem fl_X0_9 : Cond.fieldLink RX0 9 (TX0 0).1 (TX0 0).2.1 (TX0 0).2.2.1 ∈ TB := mT (List.mem_of_getElem? (i := 69) (by decide +kernel)) rfl
theorem fl_X5_158 : Cond.fieldLink RX5 158 (TX0 0).1 (TX0 0).2.1 (TX0 0).2.2.1 ∈ TB := mT (List.mem_of_getElem? (i := 70) (by decide +kernel)) rfl
theorem fl_X0_15 : Cond.fieldLink RX0 15 (TX0 1).1 (TX0 1).2.1 (TX0 1).2.2.1 ∈ TB := mT (List.mem_of_getElem? (i := 71) (by decide +kernel)) rfl
theorem fl_X5_156 : Cond.fieldLink RX5 156 (TX0 1).1 (TX0 1).2.1 (TX0 1).2.2.1 ∈ TB := mT (List.mem_of_getElem? (i := 72) (by decide +kernel)) rfl
theorem cl_X5_23 : Cond.classLink RX5 23 RX1 ∈ TB := mT (List.mem_of_getElem? (i := 78) (by decide +kernel)) rfl
theorem is_X1 : Cond.instantiable RX1 7 ∈ TB := mT (List.mem_of_getElem? (i := 79) (by decide +kernel)) rfl
theorem ml_X5_25 : Cond.methodLink RX5 25 yX1_init ∈ TB := mT (List.mem_of_getElem? (i := 80) (by decide +kernel)) rfl
theorem im_X1_init : Cond.instanceMethod yX1_init ∈ TB := mT (List.mem_of_getElem? (i := 81) (by decide +kernel)) rfl
theorem cd_X1_init : Cond.code yX1_init cX1_init 3 none ∈ TB := mT (List.mem_of_getElem? (i := 82) (by decide +kernel)) rfl
theorem ml_X1_3 : Cond.methodLink RX1 3 objectInit ∈ TB := mT (List.mem_of_getElem? (i := 83) (by decide +kernel)) rfl
theorem fl_X1_28 : Cond.fieldLink RX1 28 (TX1 0).1 (TX1 0).2.1 (TX1 0).2.2.1 ∈ TB := mT (List.mem_of_getElem? (i := 84) (by decide +kernel)) rfl
theorem fl_X1_32 : Cond.fieldLink RX1 32 (TX1 1).1 (TX1 1).2.1 (TX1 1).2.2.1 ∈ TB := mT (List.mem_of_getElem? (i := 85) (by decide +kernel)) rfl
theorem fl_X1_9 : Cond.fieldLink RX1 9 (TX1 2).1 (TX1 2).2.1 (TX1 2).2.2.1 ∈ TB := mT (List.mem_of_getElem? (i := 86) (by decide +kernel)) rfl
theorem fl_X1_15 : Cond.fieldLink RX1 15 (TX1 3).1 (TX1 3).2.1 (TX1 3).2.2.1 ∈ TB := mT (List.mem_of_getElem? (i := 87) (by decide +kernel)) rfl
theorem fl_X1_19 : Cond.fieldLink RX1 19 (TX1 4).1 (TX1 4).2.1 (TX1 4).2.2.1 ∈ TB := mT (List.mem_of_getElem? (i := 88) (by decide +kernel)) rfl
theorem fl_X5_185 : Cond.fieldLink RX5 185 (TX1 4).1 (TX1 4).2.1 (TX1 4).2.2.1 ∈ TB := mT (List.mem_of_getElem? (i := 89) (by decide +kernel)) rfl
theorem fl_X1_22 : Cond.fieldLink RX1 22 (TX1 5).1 (TX1 5).2.1 (TX1 5).2.2.1 ∈ TB := mT (List.mem_of_getElem? (i := 90) (by decide +kernel)) rfl
theorem fl_X5_182 : Cond.fieldLink RX5 182 (TX1 5).1 (TX1 5).2.1 (TX1 5).2.2.1 ∈ TB := mT (List.mem_of_getElem? (i := 91) (by decide +kernel)) rfl
theorem fl_X1_25 : Cond.fieldLink RX1 25 (TX1 6).1 (TX1 6).2.1 (TX1 6).2.2.1 ∈ TB := mT (List.mem_of_getElem? (i := 92) (by decide +kernel)) rfl
theorem fl_X5_188 : Cond.fieldLink RX5 188 (TX1 6).1 (TX1 6).2.1 (TX1 6).2.2.1 ∈ TB := mT (List.mem_of_getElem? (i := 93) (by decide +kernel)) rfl
theorem ac_109 : Cond.arrayClass FieldType.boolean ∈ TB := mT (List.mem_of_getElem? (i := 109) (by decide +kernel)) rfl
theorem cl_X5_32 : Cond.classLink RX5 32 RX2 ∈ TB := mT (List.mem_of_getElem? (i := 110) (by decide +kernel)) rfl
theorem is_X2 : Cond.instantiable RX2 10 ∈ TB := mT (List.mem_of_getElem? (i := 111) (by decide +kernel)) rfl
theorem ml_X5_34 : Cond.methodLink RX5 34 yX2_init ∈ TB := mT (List.mem_of_getElem? (i := 112) (by decide +kernel)) rfl
theorem im_X2_init : Cond.instanceMethod yX2_init ∈ TB := mT (List.mem_of_getElem? (i := 113) (by decide +kernel)) rfl
theorem cd_X2_init : Cond.code yX2_init cX2_init 2 none ∈ TB := mT (List.mem_of_getElem? (i := 114) (by decide +kernel)) rfl
theorem ml_X2_3 : Cond.methodLink RX2 3 objectInit ∈ TB := mT (List.mem_of_getElem? (i := 115) (by decide +kernel)) rfl
theorem fl_X2_40 : Cond.fieldLink RX2 40 (TX2 0).1 (TX2 0).2.1 (TX2 0).2.2.1 ∈ TB := mT (List.mem_of_getElem? (i := 116) (by decide +kernel)) rfl
theorem fl_X2_9 : Cond.fieldLink RX2 9 (TX2 1).1 (TX2 1).2.1 (TX2 1).2.2.1 ∈ TB := mT (List.mem_of_getElem? (i := 117) (by decide +kernel)) rfl
theorem fl_X2_15 : Cond.fieldLink RX2 15 (TX2 2).1 (TX2 2).2.1 (TX2 2).2.2.1 ∈ TB := mT (List.mem_of_getElem? (i := 118) (by decide +kernel)) rfl
theorem fl_X5_262 : Cond.fieldLink RX5 262 (TX2 2).1 (TX2 2).2.1 (TX2 2).2.2.1 ∈ TB := mT (List.mem_of_getElem? (i := 119) (by decide +kernel)) rfl
theorem fl_X2_18 : Cond.fieldLink RX2 18 (TX2 3).1 (TX2 3).2.1 (TX2 3).2.2.1 ∈ TB := mT (List.mem_of_getElem? (i := 120) (by decide +kernel)) rfl
theorem fl_X5_169 : Cond.fieldLink RX5 169 (TX2 3).1 (TX2 3).2.1 (TX2 3).2.2.1 ∈ TB := mT (List.mem_of_getElem? (i := 121) (by decide +kernel)) rfl
theorem fl_X2_21 : Cond.fieldLink RX2 21 (TX2 4).1 (TX2 4).2.1 (TX2 4).2.2.1 ∈ TB := mT (List.mem_of_getElem? (i := 122) (by decide +kernel)) rfl
theorem fl_X5_207 : Cond.fieldLink RX5 207 (TX2 4).1 (TX2 4).2.1 (TX2 4).2.2.1 ∈ TB := mT (List.mem_of_getElem? (i := 123) (by decide +kernel)) rfl
theorem fl_X2_24 : Cond.fieldLink RX2 24 (TX2 5).1 (TX2 5).2.1 (TX2 5).2.2.1 ∈ TB := mT (List.mem_of_getElem? (i := 124) (by decide +kernel)) rfl
theorem fl_X5_210 : Cond.fieldLink RX5 210 (TX2 5).1 (TX2 5).2.1 (TX2 5).2.2.1 ∈ TB := mT (List.mem_of_getElem? (i := 125) (by decide +kernel)) rfl
theorem fl_X2_27 : Cond.fieldLink RX2 27 (TX2 6).1 (TX2 6).2.1 (TX2 6).2.2.1 ∈ TB := mT (List.mem_of_getElem? (i := 126) (by decide +kernel)) rfl
theorem fl_X5_204 : Cond.fieldLink RX5 204 (TX2 6).1 (TX2 6).2.1 (TX2 6).2.2.1 ∈ TB := mT (List.mem_of_getElem? (i := 127) (by decide +kernel)) rfl
theorem fl_X2_30 : Cond.fieldLink RX2 30 (TX2 7).1 (TX2 7).2.1 (TX2 7).2.2.1 ∈ TB := mT (List.mem_of_getElem? (i := 128) (by decide +kernel)) rfl
theorem fl_X5_191 : Cond.fieldLink RX5 191 (TX2 7).1 (TX2 7).2.1 (TX2 7).2.2.1 ∈ TB := mT (List.mem_of_getElem? (i := 129) (by decide +kernel)) rfl
theorem fl_X2_33 : Cond.fieldLink RX2 33 (TX2 8).1 (TX2 8).2.1 (TX2 8).2.2.1 ∈ TB := mT (List.mem_of_getElem? (i := 130) (by decide +kernel)) rfl
theorem fl_X5_197 : Cond.fieldLink RX5 197 (TX2 8).1 (TX2 8).2.1 (TX2 8).2.2.1 ∈ TB := mT (List.mem_of_getElem? (i := 131) (by decide +kernel)) rfl
theorem fl_X2_36 : Cond.fieldLink RX2 36 (TX2 9).1 (TX2 9).2.1 (TX2 9).2.2.1 ∈ TB := mT (List.mem_of_getElem? (i := 132) (by decide +kernel)) rfl
theorem fl_X5_221 : Cond.fieldLink RX5 221 (TX2 9).1 (TX2 9).2.1 (TX2 9).2.2.1 ∈ TB := mT (List.mem_of_getElem? (i := 133) (by decide +kernel)) rfl
theorem cl_X5_44 : Cond.classLink RX5 44 RX3 ∈ TB := mT (List.mem_of_getElem? (i := 155) (by decide +kernel)) rfl
theorem is_X3 : Cond.instantiable RX3 4 ∈ TB := mT (List.mem_of_getElem? (i := 157) (by decide +kernel)) rfl
theorem im_X3_init : Cond.instanceMethod yX3_init ∈ TB := mT (List.mem_of_getElem? (i := 159) (by decide +kernel)) rfl
theorem cd_X3_init : Cond.code yX3_init cX3_init 1 none ∈ TB := mT (List.mem_of_getElem? (i := 160) (by decide +kernel)) rfl
theorem ml_X3_3 : Cond.methodLink RX3 3 objectInit ∈ TB := mT (List.mem_of_getElem? (i := 161) (by decide +kernel)) rfl
theorem fl_X3_9 : Cond.fieldLink RX3 9 (TX3 0).1 (TX3 0).2.1 (TX3 0).2.2.1 ∈ TB := mT (List.mem_of_getElem? (i := 162) (by decide +kernel)) rfl
theorem fl_X5_132 : Cond.fieldLink RX5 132 (TX3 0).1 (TX3 0).2.1 (TX3 0).2.2.1 ∈ TB := mT (List.mem_of_getElem? (i := 163) (by decide +kernel)) rfl
theorem fl_X3_15 : Cond.fieldLink RX3 15 (TX3 1).1 (TX3 1).2.1 (TX3 1).2.2.1 ∈ TB := mT (List.mem_of_getElem? (i := 164) (by decide +kernel)) rfl
theorem fl_X5_124 : Cond.fieldLink RX5 124 (TX3 1).1 (TX3 1).2.1 (TX3 1).2.2.1 ∈ TB := mT (List.mem_of_getElem? (i := 165) (by decide +kernel)) rfl
theorem fl_X3_19 : Cond.fieldLink RX3 19 (TX3 2).1 (TX3 2).2.1 (TX3 2).2.2.1 ∈ TB := mT (List.mem_of_getElem? (i := 166) (by decide +kernel)) rfl
theorem fl_X5_247 : Cond.fieldLink RX5 247 (TX3 2).1 (TX3 2).2.1 (TX3 2).2.2.1 ∈ TB := mT (List.mem_of_getElem? (i := 167) (by decide +kernel)) rfl
theorem fl_X3_23 : Cond.fieldLink RX3 23 (TX3 3).1 (TX3 3).2.1 (TX3 3).2.2.1 ∈ TB := mT (List.mem_of_getElem? (i := 168) (by decide +kernel)) rfl
theorem fl_X5_131 : Cond.fieldLink RX5 131 (TX3 3).1 (TX3 3).2.1 (TX3 3).2.2.1 ∈ TB := mT (List.mem_of_getElem? (i := 169) (by decide +kernel)) rfl
theorem ml_X5_55 : Cond.methodLink RX5 55 yX2_retell ∈ TB := mT (List.mem_of_getElem? (i := 179) (by decide +kernel)) rfl
theorem im_X2_retell : Cond.instanceMethod yX2_retell ∈ TB := mT (List.mem_of_getElem? (i := 180) (by decide +kernel)) rfl
theorem se_X2_retell : Cond.selects RX2 yX2_retell yX2_retell ∈ TB := mT (List.mem_of_getElem? (i := 181) (by decide +kernel)) rfl
theorem cd_X2_retell : Cond.code yX2_retell cX2_retell 3 none ∈ TB := mT (List.mem_of_getElem? (i := 182) (by decide +kernel)) rfl
theorem ml_X2_49 : Cond.methodLink RX2 49 yX2_startRow ∈ TB := mT (List.mem_of_getElem? (i := 183) (by decide +kernel)) rfl
theorem im_X2_startRow : Cond.instanceMethod yX2_startRow ∈ TB := mT (List.mem_of_getElem? (i := 185) (by decide +kernel)) rfl
theorem cd_X2_startRow : Cond.code yX2_startRow cX2_startRow 3 none ∈ TB := mT (List.mem_of_getElem? (i := 186) (by decide +kernel)) rfl
theorem ml_X2_96 : Cond.methodLink RX2 96 yJ7_fill_fda19 ∈ TB := mT (List.mem_of_getElem? (i := 187) (by decide +kernel)) rfl
theorem st_J7_fill_fda19 : Cond.static yJ7_fill_fda19 ∈ TB := mT (List.mem_of_getElem? (i := 188) (by decide +kernel)) rfl
theorem cd_J7_fill_fda19 : Cond.code yJ7_fill_fda19 cJ7_fill_fda19 5 none ∈ TB := mT (List.mem_of_getElem? (i := 189) (by decide +kernel)) rfl
theorem ml_J7_13 : Cond.methodLink RJ7 13 yJ7_rangeCheck_23922 ∈ TB := mT (List.mem_of_getElem? (i := 190) (by decide +kernel)) rfl
theorem st_J7_rangeCheck_23922 : Cond.static yJ7_rangeCheck_23922 ∈ TB := mT (List.mem_of_getElem? (i := 191) (by decide +kernel)) rfl
theorem cd_J7_rangeCheck_23922 : Cond.code yJ7_rangeCheck_23922 cJ7_rangeCheck_23922 3 none ∈ TB := mT (List.mem_of_getElem? (i := 192) (by decide +kernel)) rfl
theorem ml_X2_102 : Cond.methodLink RX2 102 arraycopyName ∈ TB := mT (List.mem_of_getElem? (i := 193) (by decide +kernel)) rfl
theorem st_arraycopy : Cond.static arraycopyName ∈ TB := mT (List.mem_of_getElem? (i := 194) (by decide +kernel)) rfl
theorem na_arraycopy : Cond.native arraycopyName ∈ TB := mT (List.mem_of_getElem? (i := 195) (by decide +kernel)) rfl
theorem ml_X2_53 : Cond.methodLink RX2 53 yX2_takeWrites ∈ TB := mT (List.mem_of_getElem? (i := 196) (by decide +kernel)) rfl
theorem im_X2_takeWrites : Cond.instanceMethod yX2_takeWrites ∈ TB := mT (List.mem_of_getElem? (i := 198) (by decide +kernel)) rfl
theorem cd_X2_takeWrites : Cond.code yX2_takeWrites cX2_takeWrites 6 none ∈ TB := mT (List.mem_of_getElem? (i := 199) (by decide +kernel)) rfl
theorem ml_X2_111 : Cond.methodLink RX2 111 yX4_behind ∈ TB := mT (List.mem_of_getElem? (i := 200) (by decide +kernel)) rfl
theorem im_X4_behind : Cond.instanceMethod yX4_behind ∈ TB := mT (List.mem_of_getElem? (i := 201) (by decide +kernel)) rfl
theorem se_X4_behind : Cond.selects RX4 yX4_behind yX4_behind ∈ TB := mT (List.mem_of_getElem? (i := 202) (by decide +kernel)) rfl
theorem cd_X4_behind : Cond.code yX4_behind cX4_behind 2 (some .int) ∈ TB := mT (List.mem_of_getElem? (i := 203) (by decide +kernel)) rfl
theorem ml_X2_71 : Cond.methodLink RX2 71 yX2_latestOf ∈ TB := mT (List.mem_of_getElem? (i := 204) (by decide +kernel)) rfl
theorem im_X2_latestOf : Cond.instanceMethod yX2_latestOf ∈ TB := mT (List.mem_of_getElem? (i := 205) (by decide +kernel)) rfl
theorem se_X2_latestOf : Cond.selects RX2 yX2_latestOf yX2_latestOf ∈ TB := mT (List.mem_of_getElem? (i := 206) (by decide +kernel)) rfl
theorem cd_X2_latestOf : Cond.code yX2_latestOf cX2_latestOf 3 (some .int) ∈ TB := mT (List.mem_of_getElem? (i := 207) (by decide +kernel)) rfl
theorem ml_X2_117 : Cond.methodLink RX2 117 yX4_unlike ∈ TB := mT (List.mem_of_getElem? (i := 208) (by decide +kernel)) rfl
theorem im_X4_unlike : Cond.instanceMethod yX4_unlike ∈ TB := mT (List.mem_of_getElem? (i := 209) (by decide +kernel)) rfl
theorem se_X4_unlike : Cond.selects RX4 yX4_unlike yX4_unlike ∈ TB := mT (List.mem_of_getElem? (i := 210) (by decide +kernel)) rfl
theorem cd_X4_unlike : Cond.code yX4_unlike cX4_unlike 3 (some .boolean) ∈ TB := mT (List.mem_of_getElem? (i := 211) (by decide +kernel)) rfl
theorem ml_X2_57 : Cond.methodLink RX2 57 yX2_thingsThere ∈ TB := mT (List.mem_of_getElem? (i := 212) (by decide +kernel)) rfl
theorem im_X2_thingsThere : Cond.instanceMethod yX2_thingsThere ∈ TB := mT (List.mem_of_getElem? (i := 214) (by decide +kernel)) rfl
theorem cd_X2_thingsThere : Cond.code yX2_thingsThere cX2_thingsThere 4 (some .int) ∈ TB := mT (List.mem_of_getElem? (i := 215) (by decide +kernel)) rfl
theorem ml_X2_75 : Cond.methodLink RX2 75 yX4_kindOrGone ∈ TB := mT (List.mem_of_getElem? (i := 216) (by decide +kernel)) rfl
theorem im_X4_kindOrGone : Cond.instanceMethod yX4_kindOrGone ∈ TB := mT (List.mem_of_getElem? (i := 217) (by decide +kernel)) rfl
theorem se_X4_kindOrGone : Cond.selects RX4 yX4_kindOrGone yX4_kindOrGone ∈ TB := mT (List.mem_of_getElem? (i := 218) (by decide +kernel)) rfl
theorem cd_X4_kindOrGone : Cond.code yX4_kindOrGone cX4_kindOrGone 2 (some .int) ∈ TB := mT (List.mem_of_getElem? (i := 219) (by decide +kernel)) rfl
theorem ml_X2_61 : Cond.methodLink RX2 61 yX2_noteChanges ∈ TB := mT (List.mem_of_getElem? (i := 220) (by decide +kernel)) rfl
theorem im_X2_noteChanges : Cond.instanceMethod yX2_noteChanges ∈ TB := mT (List.mem_of_getElem? (i := 222) (by decide +kernel)) rfl
theorem cd_X2_noteChanges : Cond.code yX2_noteChanges cX2_noteChanges 3 none ∈ TB := mT (List.mem_of_getElem? (i := 223) (by decide +kernel)) rfl
theorem ml_X2_67 : Cond.methodLink RX2 67 yX2_isIn ∈ TB := mT (List.mem_of_getElem? (i := 224) (by decide +kernel)) rfl
theorem st_X2_isIn : Cond.static yX2_isIn ∈ TB := mT (List.mem_of_getElem? (i := 225) (by decide +kernel)) rfl
theorem cd_X2_isIn : Cond.code yX2_isIn cX2_isIn 2 (some .boolean) ∈ TB := mT (List.mem_of_getElem? (i := 226) (by decide +kernel)) rfl
theorem ml_X2_120 : Cond.methodLink RX2 120 yX2_isOther ∈ TB := mT (List.mem_of_getElem? (i := 227) (by decide +kernel)) rfl
theorem im_X2_isOther : Cond.instanceMethod yX2_isOther ∈ TB := mT (List.mem_of_getElem? (i := 229) (by decide +kernel)) rfl
theorem cd_X2_isOther : Cond.code yX2_isOther cX2_isOther 5 (some .boolean) ∈ TB := mT (List.mem_of_getElem? (i := 230) (by decide +kernel)) rfl
theorem ml_X2_64 : Cond.methodLink RX2 64 yX2_judgeBehind ∈ TB := mT (List.mem_of_getElem? (i := 231) (by decide +kernel)) rfl
theorem im_X2_judgeBehind : Cond.instanceMethod yX2_judgeBehind ∈ TB := mT (List.mem_of_getElem? (i := 233) (by decide +kernel)) rfl
theorem cd_X2_judgeBehind : Cond.code yX2_judgeBehind cX2_judgeBehind 4 none ∈ TB := mT (List.mem_of_getElem? (i := 234) (by decide +kernel)) rfl
theorem ml_X2_88 : Cond.methodLink RX2 88 yX2_sortOf ∈ TB := mT (List.mem_of_getElem? (i := 235) (by decide +kernel)) rfl
theorem im_X2_sortOf : Cond.instanceMethod yX2_sortOf ∈ TB := mT (List.mem_of_getElem? (i := 236) (by decide +kernel)) rfl
theorem se_X2_sortOf : Cond.selects RX2 yX2_sortOf yX2_sortOf ∈ TB := mT (List.mem_of_getElem? (i := 237) (by decide +kernel)) rfl
theorem cd_X2_sortOf : Cond.code yX2_sortOf cX2_sortOf 11 (some .int) ∈ TB := mT (List.mem_of_getElem? (i := 238) (by decide +kernel)) rfl
theorem ml_X2_78 : Cond.methodLink RX2 78 yX2_isFilling ∈ TB := mT (List.mem_of_getElem? (i := 239) (by decide +kernel)) rfl
theorem st_X2_isFilling : Cond.static yX2_isFilling ∈ TB := mT (List.mem_of_getElem? (i := 240) (by decide +kernel)) rfl
theorem cd_X2_isFilling : Cond.code yX2_isFilling cX2_isFilling 2 (some .boolean) ∈ TB := mT (List.mem_of_getElem? (i := 241) (by decide +kernel)) rfl
theorem ml_X2_81 : Cond.methodLink RX2 81 yX2_isNoteOrGone ∈ TB := mT (List.mem_of_getElem? (i := 242) (by decide +kernel)) rfl
theorem st_X2_isNoteOrGone : Cond.static yX2_isNoteOrGone ∈ TB := mT (List.mem_of_getElem? (i := 243) (by decide +kernel)) rfl
theorem cd_X2_isNoteOrGone : Cond.code yX2_isNoteOrGone cX2_isNoteOrGone 1 (some .boolean) ∈ TB := mT (List.mem_of_getElem? (i := 244) (by decide +kernel)) rfl
theorem ml_X2_91 : Cond.methodLink RX2 91 yJ9_max_7cf53 ∈ TB := mT (List.mem_of_getElem? (i := 245) (by decide +kernel)) rfl
theorem st_J9_max_7cf53 : Cond.static yJ9_max_7cf53 ∈ TB := mT (List.mem_of_getElem? (i := 246) (by decide +kernel)) rfl
theorem cd_J9_max_7cf53 : Cond.code yJ9_max_7cf53 cJ9_max_7cf53 2 (some .int) ∈ TB := mT (List.mem_of_getElem? (i := 247) (by decide +kernel)) rfl
theorem fl_X5_12 : Cond.fieldLink RX5 12 (TX5 0).1 (TX5 0).2.1 (TX5 0).2.2.1 ∈ TB := mT (List.mem_of_getElem? (i := 248) (by decide +kernel)) rfl
theorem fl_X5_19 : Cond.fieldLink RX5 19 (TX5 1).1 (TX5 1).2.1 (TX5 1).2.2.1 ∈ TB := mT (List.mem_of_getElem? (i := 249) (by decide +kernel)) rfl
theorem fl_X5_28 : Cond.fieldLink RX5 28 (TX5 2).1 (TX5 2).2.1 (TX5 2).2.2.1 ∈ TB := mT (List.mem_of_getElem? (i := 250) (by decide +kernel)) rfl
theorem fl_X5_37 : Cond.fieldLink RX5 37 (TX5 3).1 (TX5 3).2.1 (TX5 3).2.2.1 ∈ TB := mT (List.mem_of_getElem? (i := 251) (by decide +kernel)) rfl
theorem fl_X5_41 : Cond.fieldLink RX5 41 (TX5 4).1 (TX5 4).2.1 (TX5 4).2.2.1 ∈ TB := mT (List.mem_of_getElem? (i := 252) (by decide +kernel)) rfl
theorem fl_X5_46 : Cond.fieldLink RX5 46 (TX5 5).1 (TX5 5).2.1 (TX5 5).2.2.1 ∈ TB := mT (List.mem_of_getElem? (i := 253) (by decide +kernel)) rfl
theorem fl_X5_50 : Cond.fieldLink RX5 50 (TX5 6).1 (TX5 6).2.1 (TX5 6).2.2.1 ∈ TB := mT (List.mem_of_getElem? (i := 254) (by decide +kernel)) rfl
theorem ml_L_13 : Cond.methodLink RL 13 yX5_put ∈ TB := mT (List.mem_of_getElem? (i := 270) (by decide +kernel)) rfl
theorem im_X5_put : Cond.instanceMethod yX5_put ∈ TB := mT (List.mem_of_getElem? (i := 271) (by decide +kernel)) rfl
theorem se_X5_put : Cond.selects RX5 yX5_put yX5_put ∈ TB := mT (List.mem_of_getElem? (i := 272) (by decide +kernel)) rfl
theorem cd_X5_put : Cond.code yX5_put cX5_put 5 (some .int) ∈ TB := mT (List.mem_of_getElem? (i := 273) (by decide +kernel)) rfl
theorem ml_X5_59 : Cond.methodLink RX5 59 yX5_takeWrite ∈ TB := mT (List.mem_of_getElem? (i := 274) (by decide +kernel)) rfl
theorem im_X5_takeWrite : Cond.instanceMethod yX5_takeWrite ∈ TB := mT (List.mem_of_getElem? (i := 276) (by decide +kernel)) rfl
theorem cd_X5_takeWrite : Cond.code yX5_takeWrite cX5_takeWrite 4 (some .int) ∈ TB := mT (List.mem_of_getElem? (i := 277) (by decide +kernel)) rfl
theorem ml_X5_343 : Cond.methodLink RX5 343 yX5_mayBeWrite ∈ TB := mT (List.mem_of_getElem? (i := 278) (by decide +kernel)) rfl
theorem st_X5_mayBeWrite : Cond.static yX5_mayBeWrite ∈ TB := mT (List.mem_of_getElem? (i := 279) (by decide +kernel)) rfl
theorem cd_X5_mayBeWrite : Cond.code yX5_mayBeWrite cX5_mayBeWrite 3 (some .boolean) ∈ TB := mT (List.mem_of_getElem? (i := 280) (by decide +kernel)) rfl
theorem ml_X5_159 : Cond.methodLink RX5 159 yX5_isThing ∈ TB := mT (List.mem_of_getElem? (i := 281) (by decide +kernel)) rfl
theorem st_X5_isThing : Cond.static yX5_isThing ∈ TB := mT (List.mem_of_getElem? (i := 282) (by decide +kernel)) rfl
theorem cd_X5_isThing : Cond.code yX5_isThing cX5_isThing 1 (some .boolean) ∈ TB := mT (List.mem_of_getElem? (i := 283) (by decide +kernel)) rfl
theorem ml_X5_106 : Cond.methodLink RX5 106 yX5_mayBeValue ∈ TB := mT (List.mem_of_getElem? (i := 284) (by decide +kernel)) rfl
theorem st_X5_mayBeValue : Cond.static yX5_mayBeValue ∈ TB := mT (List.mem_of_getElem? (i := 285) (by decide +kernel)) rfl
theorem cd_X5_mayBeValue : Cond.code yX5_mayBeValue cX5_mayBeValue 2 (some .boolean) ∈ TB := mT (List.mem_of_getElem? (i := 286) (by decide +kernel)) rfl
theorem kc_X5_342 : Cond.constant RX5 342 (65535) ∈ TB := mT (List.mem_of_getElem? (i := 287) (by decide +kernel)) rfl
theorem ml_X5_347 : Cond.methodLink RX5 347 yX1_forget ∈ TB := mT (List.mem_of_getElem? (i := 288) (by decide +kernel)) rfl
theorem im_X1_forget : Cond.instanceMethod yX1_forget ∈ TB := mT (List.mem_of_getElem? (i := 289) (by decide +kernel)) rfl
theorem se_X1_forget : Cond.selects RX1 yX1_forget yX1_forget ∈ TB := mT (List.mem_of_getElem? (i := 290) (by decide +kernel)) rfl
theorem cd_X1_forget : Cond.code yX1_forget cX1_forget 2 none ∈ TB := mT (List.mem_of_getElem? (i := 291) (by decide +kernel)) rfl
theorem ml_X5_350 : Cond.methodLink RX5 350 yX4_append ∈ TB := mT (List.mem_of_getElem? (i := 292) (by decide +kernel)) rfl
theorem im_X4_append : Cond.instanceMethod yX4_append ∈ TB := mT (List.mem_of_getElem? (i := 293) (by decide +kernel)) rfl
theorem se_X4_append : Cond.selects RX4 yX4_append yX4_append ∈ TB := mT (List.mem_of_getElem? (i := 294) (by decide +kernel)) rfl
theorem cd_X4_append : Cond.code yX4_append cX4_append 4 none ∈ TB := mT (List.mem_of_getElem? (i := 295) (by decide +kernel)) rfl
theorem ml_X5_354 : Cond.methodLink RX5 354 yX0_appendWrite ∈ TB := mT (List.mem_of_getElem? (i := 296) (by decide +kernel)) rfl
theorem im_X0_appendWrite : Cond.instanceMethod yX0_appendWrite ∈ TB := mT (List.mem_of_getElem? (i := 297) (by decide +kernel)) rfl
theorem se_X0_appendWrite : Cond.selects RX0 yX0_appendWrite yX0_appendWrite ∈ TB := mT (List.mem_of_getElem? (i := 298) (by decide +kernel)) rfl
theorem cd_X0_appendWrite : Cond.code yX0_appendWrite cX0_appendWrite 4 none ∈ TB := mT (List.mem_of_getElem? (i := 299) (by decide +kernel)) rfl
theorem ml_X0_19 : Cond.methodLink RX0 19 yX0_layValue ∈ TB := mT (List.mem_of_getElem? (i := 300) (by decide +kernel)) rfl
theorem im_X0_layValue : Cond.instanceMethod yX0_layValue ∈ TB := mT (List.mem_of_getElem? (i := 301) (by decide +kernel)) rfl
theorem se_X0_layValue : Cond.selects RX0 yX0_layValue yX0_layValue ∈ TB := mT (List.mem_of_getElem? (i := 302) (by decide +kernel)) rfl
theorem cd_X0_layValue : Cond.code yX0_layValue cX0_layValue 3 none ∈ TB := mT (List.mem_of_getElem? (i := 303) (by decide +kernel)) rfl
theorem ml_X5_63 : Cond.methodLink RX5 63 yX5_reckon ∈ TB := mT (List.mem_of_getElem? (i := 304) (by decide +kernel)) rfl
theorem im_X5_reckon : Cond.instanceMethod yX5_reckon ∈ TB := mT (List.mem_of_getElem? (i := 306) (by decide +kernel)) rfl
theorem cd_X5_reckon : Cond.code yX5_reckon cX5_reckon 1 none ∈ TB := mT (List.mem_of_getElem? (i := 307) (by decide +kernel)) rfl
theorem ml_X5_357 : Cond.methodLink RX5 357 yX1_reckonAll ∈ TB := mT (List.mem_of_getElem? (i := 308) (by decide +kernel)) rfl
theorem im_X1_reckonAll : Cond.instanceMethod yX1_reckonAll ∈ TB := mT (List.mem_of_getElem? (i := 309) (by decide +kernel)) rfl
theorem se_X1_reckonAll : Cond.selects RX1 yX1_reckonAll yX1_reckonAll ∈ TB := mT (List.mem_of_getElem? (i := 310) (by decide +kernel)) rfl
theorem cd_X1_reckonAll : Cond.code yX1_reckonAll cX1_reckonAll 2 none ∈ TB := mT (List.mem_of_getElem? (i := 311) (by decide +kernel)) rfl
theorem ml_X1_68 : Cond.methodLink RX1 68 yX4_isClosedSeal ∈ TB := mT (List.mem_of_getElem? (i := 312) (by decide +kernel)) rfl
theorem im_X4_isClosedSeal : Cond.instanceMethod yX4_isClosedSeal ∈ TB := mT (List.mem_of_getElem? (i := 313) (by decide +kernel)) rfl
theorem se_X4_isClosedSeal : Cond.selects RX4 yX4_isClosedSeal yX4_isClosedSeal ∈ TB := mT (List.mem_of_getElem? (i := 314) (by decide +kernel)) rfl
theorem cd_X4_isClosedSeal : Cond.code yX4_isClosedSeal cX4_isClosedSeal 2 (some .boolean) ∈ TB := mT (List.mem_of_getElem? (i := 315) (by decide +kernel)) rfl
theorem ml_X4_34 : Cond.methodLink RX4 34 yX4_isSeal ∈ TB := mT (List.mem_of_getElem? (i := 316) (by decide +kernel)) rfl
theorem im_X4_isSeal : Cond.instanceMethod yX4_isSeal ∈ TB := mT (List.mem_of_getElem? (i := 317) (by decide +kernel)) rfl
theorem se_X4_isSeal : Cond.selects RX4 yX4_isSeal yX4_isSeal ∈ TB := mT (List.mem_of_getElem? (i := 318) (by decide +kernel)) rfl
theorem cd_X4_isSeal : Cond.code yX4_isSeal cX4_isSeal 2 (some .boolean) ∈ TB := mT (List.mem_of_getElem? (i := 319) (by decide +kernel)) rfl
theorem ml_X4_38 : Cond.methodLink RX4 38 yX4_isClosed ∈ TB := mT (List.mem_of_getElem? (i := 320) (by decide +kernel)) rfl
theorem im_X4_isClosed : Cond.instanceMethod yX4_isClosed ∈ TB := mT (List.mem_of_getElem? (i := 321) (by decide +kernel)) rfl
theorem se_X4_isClosed : Cond.selects RX4 yX4_isClosed yX4_isClosed ∈ TB := mT (List.mem_of_getElem? (i := 322) (by decide +kernel)) rfl
theorem cd_X4_isClosed : Cond.code yX4_isClosed cX4_isClosed 2 (some .boolean) ∈ TB := mT (List.mem_of_getElem? (i := 323) (by decide +kernel)) rfl
theorem ml_X1_61 : Cond.methodLink RX1 61 yX1_numberNow ∈ TB := mT (List.mem_of_getElem? (i := 324) (by decide +kernel)) rfl
theorem im_X1_numberNow : Cond.instanceMethod yX1_numberNow ∈ TB := mT (List.mem_of_getElem? (i := 326) (by decide +kernel)) rfl
theorem cd_X1_numberNow : Cond.code yX1_numberNow cX1_numberNow 3 (some .int) ∈ TB := mT (List.mem_of_getElem? (i := 327) (by decide +kernel)) rfl
theorem ml_X1_40 : Cond.methodLink RX1 40 yX1_edge ∈ TB := mT (List.mem_of_getElem? (i := 328) (by decide +kernel)) rfl
theorem im_X1_edge : Cond.instanceMethod yX1_edge ∈ TB := mT (List.mem_of_getElem? (i := 329) (by decide +kernel)) rfl
theorem se_X1_edge : Cond.selects RX1 yX1_edge yX1_edge ∈ TB := mT (List.mem_of_getElem? (i := 330) (by decide +kernel)) rfl
theorem cd_X1_edge : Cond.code yX1_edge cX1_edge 3 (some .int) ∈ TB := mT (List.mem_of_getElem? (i := 331) (by decide +kernel)) rfl
theorem ml_X1_36 : Cond.methodLink RX1 36 yX1_edgeIfUntold ∈ TB := mT (List.mem_of_getElem? (i := 332) (by decide +kernel)) rfl
theorem im_X1_edgeIfUntold : Cond.instanceMethod yX1_edgeIfUntold ∈ TB := mT (List.mem_of_getElem? (i := 334) (by decide +kernel)) rfl
theorem cd_X1_edgeIfUntold : Cond.code yX1_edgeIfUntold cX1_edgeIfUntold 3 (some .int) ∈ TB := mT (List.mem_of_getElem? (i := 335) (by decide +kernel)) rfl
theorem ml_X1_78 : Cond.methodLink RX1 78 yX4_firstByte ∈ TB := mT (List.mem_of_getElem? (i := 336) (by decide +kernel)) rfl
theorem im_X4_firstByte : Cond.instanceMethod yX4_firstByte ∈ TB := mT (List.mem_of_getElem? (i := 337) (by decide +kernel)) rfl
theorem se_X4_firstByte : Cond.selects RX4 yX4_firstByte yX4_firstByte ∈ TB := mT (List.mem_of_getElem? (i := 338) (by decide +kernel)) rfl
theorem cd_X4_firstByte : Cond.code yX4_firstByte cX4_firstByte 2 (some .int) ∈ TB := mT (List.mem_of_getElem? (i := 339) (by decide +kernel)) rfl
theorem ml_X1_84 : Cond.methodLink RX1 84 yX4_behindBytesOf ∈ TB := mT (List.mem_of_getElem? (i := 340) (by decide +kernel)) rfl
theorem im_X4_behindBytesOf : Cond.instanceMethod yX4_behindBytesOf ∈ TB := mT (List.mem_of_getElem? (i := 341) (by decide +kernel)) rfl
theorem se_X4_behindBytesOf : Cond.selects RX4 yX4_behindBytesOf yX4_behindBytesOf ∈ TB := mT (List.mem_of_getElem? (i := 342) (by decide +kernel)) rfl
theorem cd_X4_behindBytesOf : Cond.code yX4_behindBytesOf cX4_behindBytesOf 2 (some .int) ∈ TB := mT (List.mem_of_getElem? (i := 343) (by decide +kernel)) rfl
theorem ml_X1_74 : Cond.methodLink RX1 74 yX0_numberOver ∈ TB := mT (List.mem_of_getElem? (i := 344) (by decide +kernel)) rfl
theorem im_X0_numberOver : Cond.instanceMethod yX0_numberOver ∈ TB := mT (List.mem_of_getElem? (i := 345) (by decide +kernel)) rfl
theorem se_X0_numberOver : Cond.selects RX0 yX0_numberOver yX0_numberOver ∈ TB := mT (List.mem_of_getElem? (i := 346) (by decide +kernel)) rfl
theorem cd_X0_numberOver : Cond.code yX0_numberOver cX0_numberOver 7 (some .int) ∈ TB := mT (List.mem_of_getElem? (i := 347) (by decide +kernel)) rfl
theorem ml_X0_23 : Cond.methodLink RX0 23 yJ9_min_7cf53 ∈ TB := mT (List.mem_of_getElem? (i := 348) (by decide +kernel)) rfl
theorem st_J9_min_7cf53 : Cond.static yJ9_min_7cf53 ∈ TB := mT (List.mem_of_getElem? (i := 349) (by decide +kernel)) rfl
theorem cd_J9_min_7cf53 : Cond.code yJ9_min_7cf53 cJ9_min_7cf53 2 (some .int) ∈ TB := mT (List.mem_of_getElem? (i := 350) (by decide +kernel)) rfl
theorem ml_X1_71 : Cond.methodLink RX1 71 yX1_flawsOfEdges ∈ TB := mT (List.mem_of_getElem? (i := 351) (by decide +kernel)) rfl
theorem im_X1_flawsOfEdges : Cond.instanceMethod yX1_flawsOfEdges ∈ TB := mT (List.mem_of_getElem? (i := 353) (by decide +kernel)) rfl
theorem cd_X1_flawsOfEdges : Cond.code yX1_flawsOfEdges cX1_flawsOfEdges 3 (some .int) ∈ TB := mT (List.mem_of_getElem? (i := 354) (by decide +kernel)) rfl
theorem ml_L_18 : Cond.methodLink RL 18 yX5_close ∈ TB := mT (List.mem_of_getElem? (i := 355) (by decide +kernel)) rfl
theorem im_X5_close : Cond.instanceMethod yX5_close ∈ TB := mT (List.mem_of_getElem? (i := 356) (by decide +kernel)) rfl
theorem se_X5_close : Cond.selects RX5 yX5_close yX5_close ∈ TB := mT (List.mem_of_getElem? (i := 357) (by decide +kernel)) rfl
theorem cd_X5_close : Cond.code yX5_close cX5_close 1 (some .int) ∈ TB := mT (List.mem_of_getElem? (i := 358) (by decide +kernel)) rfl
theorem ml_X5_66 : Cond.methodLink RX5 66 yX4_openIsEmpty ∈ TB := mT (List.mem_of_getElem? (i := 359) (by decide +kernel)) rfl
theorem im_X4_openIsEmpty : Cond.instanceMethod yX4_openIsEmpty ∈ TB := mT (List.mem_of_getElem? (i := 360) (by decide +kernel)) rfl
theorem se_X4_openIsEmpty : Cond.selects RX4 yX4_openIsEmpty yX4_openIsEmpty ∈ TB := mT (List.mem_of_getElem? (i := 361) (by decide +kernel)) rfl
theorem cd_X4_openIsEmpty : Cond.code yX4_openIsEmpty cX4_openIsEmpty 1 (some .boolean) ∈ TB := mT (List.mem_of_getElem? (i := 362) (by decide +kernel)) rfl
theorem ml_X5_73 : Cond.methodLink RX5 73 yX0_appendClosing ∈ TB := mT (List.mem_of_getElem? (i := 363) (by decide +kernel)) rfl
theorem im_X0_appendClosing : Cond.instanceMethod yX0_appendClosing ∈ TB := mT (List.mem_of_getElem? (i := 364) (by decide +kernel)) rfl
theorem se_X0_appendClosing : Cond.selects RX0 yX0_appendClosing yX0_appendClosing ∈ TB := mT (List.mem_of_getElem? (i := 365) (by decide +kernel)) rfl
theorem cd_X0_appendClosing : Cond.code yX0_appendClosing cX0_appendClosing 2 none ∈ TB := mT (List.mem_of_getElem? (i := 366) (by decide +kernel)) rfl
theorem ml_X5_76 : Cond.methodLink RX5 76 yX4_openNext ∈ TB := mT (List.mem_of_getElem? (i := 367) (by decide +kernel)) rfl
theorem im_X4_openNext : Cond.instanceMethod yX4_openNext ∈ TB := mT (List.mem_of_getElem? (i := 368) (by decide +kernel)) rfl
theorem se_X4_openNext : Cond.selects RX4 yX4_openNext yX4_openNext ∈ TB := mT (List.mem_of_getElem? (i := 369) (by decide +kernel)) rfl
theorem cd_X4_openNext : Cond.code yX4_openNext cX4_openNext 1 none ∈ TB := mT (List.mem_of_getElem? (i := 370) (by decide +kernel)) rfl
theorem ml_X5_79 : Cond.methodLink RX5 79 yX1_keepNumbers ∈ TB := mT (List.mem_of_getElem? (i := 371) (by decide +kernel)) rfl
theorem im_X1_keepNumbers : Cond.instanceMethod yX1_keepNumbers ∈ TB := mT (List.mem_of_getElem? (i := 372) (by decide +kernel)) rfl
theorem se_X1_keepNumbers : Cond.selects RX1 yX1_keepNumbers yX1_keepNumbers ∈ TB := mT (List.mem_of_getElem? (i := 373) (by decide +kernel)) rfl
theorem cd_X1_keepNumbers : Cond.code yX1_keepNumbers cX1_keepNumbers 3 none ∈ TB := mT (List.mem_of_getElem? (i := 374) (by decide +kernel)) rfl
theorem ml_X1_53 : Cond.methodLink RX1 53 yX4_behind ∈ TB := mT (List.mem_of_getElem? (i := 375) (by decide +kernel)) rfl
theorem ml_X1_57 : Cond.methodLink RX1 57 yX4_isSeal ∈ TB := mT (List.mem_of_getElem? (i := 376) (by decide +kernel)) rfl
theorem ml_L_23 : Cond.methodLink RL 23 yX5_undo ∈ TB := mT (List.mem_of_getElem? (i := 377) (by decide +kernel)) rfl
theorem im_X5_undo : Cond.instanceMethod yX5_undo ∈ TB := mT (List.mem_of_getElem? (i := 378) (by decide +kernel)) rfl
theorem se_X5_undo : Cond.selects RX5 yX5_undo yX5_undo ∈ TB := mT (List.mem_of_getElem? (i := 379) (by decide +kernel)) rfl
theorem cd_X5_undo : Cond.code yX5_undo cX5_undo 1 (some .int) ∈ TB := mT (List.mem_of_getElem? (i := 380) (by decide +kernel)) rfl
theorem ml_X5_85 : Cond.methodLink RX5 85 yX0_dropWrite ∈ TB := mT (List.mem_of_getElem? (i := 381) (by decide +kernel)) rfl
theorem im_X0_dropWrite : Cond.instanceMethod yX0_dropWrite ∈ TB := mT (List.mem_of_getElem? (i := 382) (by decide +kernel)) rfl
theorem se_X0_dropWrite : Cond.selects RX0 yX0_dropWrite yX0_dropWrite ∈ TB := mT (List.mem_of_getElem? (i := 383) (by decide +kernel)) rfl
theorem cd_X0_dropWrite : Cond.code yX0_dropWrite cX0_dropWrite 1 none ∈ TB := mT (List.mem_of_getElem? (i := 384) (by decide +kernel)) rfl
theorem ml_L_27 : Cond.methodLink RL 27 yX5_cover ∈ TB := mT (List.mem_of_getElem? (i := 385) (by decide +kernel)) rfl
theorem im_X5_cover : Cond.instanceMethod yX5_cover ∈ TB := mT (List.mem_of_getElem? (i := 386) (by decide +kernel)) rfl
theorem se_X5_cover : Cond.selects RX5 yX5_cover yX5_cover ∈ TB := mT (List.mem_of_getElem? (i := 387) (by decide +kernel)) rfl
theorem cd_X5_cover : Cond.code yX5_cover cX5_cover 7 (some .int) ∈ TB := mT (List.mem_of_getElem? (i := 388) (by decide +kernel)) rfl
theorem ml_X5_88 : Cond.methodLink RX5 88 yX4_has ∈ TB := mT (List.mem_of_getElem? (i := 389) (by decide +kernel)) rfl
theorem im_X4_has : Cond.instanceMethod yX4_has ∈ TB := mT (List.mem_of_getElem? (i := 390) (by decide +kernel)) rfl
theorem se_X4_has : Cond.selects RX4 yX4_has yX4_has ∈ TB := mT (List.mem_of_getElem? (i := 391) (by decide +kernel)) rfl
theorem cd_X4_has : Cond.code yX4_has cX4_has 2 (some .boolean) ∈ TB := mT (List.mem_of_getElem? (i := 392) (by decide +kernel)) rfl
theorem ml_X5_92 : Cond.methodLink RX5 92 yX4_isSeal ∈ TB := mT (List.mem_of_getElem? (i := 393) (by decide +kernel)) rfl
theorem ml_X5_95 : Cond.methodLink RX5 95 yX4_isClosed ∈ TB := mT (List.mem_of_getElem? (i := 394) (by decide +kernel)) rfl
theorem ml_X5_98 : Cond.methodLink RX5 98 yX1_keepEdges ∈ TB := mT (List.mem_of_getElem? (i := 395) (by decide +kernel)) rfl
theorem im_X1_keepEdges : Cond.instanceMethod yX1_keepEdges ∈ TB := mT (List.mem_of_getElem? (i := 396) (by decide +kernel)) rfl
theorem se_X1_keepEdges : Cond.selects RX1 yX1_keepEdges yX1_keepEdges ∈ TB := mT (List.mem_of_getElem? (i := 397) (by decide +kernel)) rfl
theorem cd_X1_keepEdges : Cond.code yX1_keepEdges cX1_keepEdges 6 none ∈ TB := mT (List.mem_of_getElem? (i := 398) (by decide +kernel)) rfl
theorem ml_L_32 : Cond.methodLink RL 32 yX5_alter ∈ TB := mT (List.mem_of_getElem? (i := 399) (by decide +kernel)) rfl
theorem im_X5_alter : Cond.instanceMethod yX5_alter ∈ TB := mT (List.mem_of_getElem? (i := 400) (by decide +kernel)) rfl
theorem se_X5_alter : Cond.selects RX5 yX5_alter yX5_alter ∈ TB := mT (List.mem_of_getElem? (i := 401) (by decide +kernel)) rfl
theorem cd_X5_alter : Cond.code yX5_alter cX5_alter 4 (some .int) ∈ TB := mT (List.mem_of_getElem? (i := 402) (by decide +kernel)) rfl
theorem ml_X5_113 : Cond.methodLink RX5 113 yX4_firstByte ∈ TB := mT (List.mem_of_getElem? (i := 403) (by decide +kernel)) rfl
theorem ml_X5_117 : Cond.methodLink RX5 117 yX0_layValue ∈ TB := mT (List.mem_of_getElem? (i := 404) (by decide +kernel)) rfl
theorem ml_L_37 : Cond.methodLink RL 37 yX5_read ∈ TB := mT (List.mem_of_getElem? (i := 405) (by decide +kernel)) rfl
theorem im_X5_read : Cond.instanceMethod yX5_read ∈ TB := mT (List.mem_of_getElem? (i := 406) (by decide +kernel)) rfl
theorem se_X5_read : Cond.selects RX5 yX5_read yX5_read ∈ TB := mT (List.mem_of_getElem? (i := 407) (by decide +kernel)) rfl
theorem cd_X5_read : Cond.code yX5_read cX5_read 5 (some .int) ∈ TB := mT (List.mem_of_getElem? (i := 408) (by decide +kernel)) rfl
theorem ml_X5_121 : Cond.methodLink RX5 121 yX5_isSheet ∈ TB := mT (List.mem_of_getElem? (i := 409) (by decide +kernel)) rfl
theorem st_X5_isSheet : Cond.static yX5_isSheet ∈ TB := mT (List.mem_of_getElem? (i := 410) (by decide +kernel)) rfl
theorem cd_X5_isSheet : Cond.code yX5_isSheet cX5_isSheet 1 (some .boolean) ∈ TB := mT (List.mem_of_getElem? (i := 411) (by decide +kernel)) rfl
theorem ml_X5_128 : Cond.methodLink RX5 128 yX5_find ∈ TB := mT (List.mem_of_getElem? (i := 412) (by decide +kernel)) rfl
theorem im_X5_find : Cond.instanceMethod yX5_find ∈ TB := mT (List.mem_of_getElem? (i := 414) (by decide +kernel)) rfl
theorem cd_X5_find : Cond.code yX5_find cX5_find 2 (some .int) ∈ TB := mT (List.mem_of_getElem? (i := 415) (by decide +kernel)) rfl
theorem ml_L_42 : Cond.methodLink RL 42 yX5_write ∈ TB := mT (List.mem_of_getElem? (i := 416) (by decide +kernel)) rfl
theorem im_X5_write : Cond.instanceMethod yX5_write ∈ TB := mT (List.mem_of_getElem? (i := 417) (by decide +kernel)) rfl
theorem se_X5_write : Cond.selects RX5 yX5_write yX5_write ∈ TB := mT (List.mem_of_getElem? (i := 418) (by decide +kernel)) rfl
theorem cd_X5_write : Cond.code yX5_write cX5_write 3 (some .int) ∈ TB := mT (List.mem_of_getElem? (i := 419) (by decide +kernel)) rfl
theorem ml_L_46 : Cond.methodLink RL 46 yX5_revision ∈ TB := mT (List.mem_of_getElem? (i := 420) (by decide +kernel)) rfl
theorem im_X5_revision : Cond.instanceMethod yX5_revision ∈ TB := mT (List.mem_of_getElem? (i := 421) (by decide +kernel)) rfl
theorem se_X5_revision : Cond.selects RX5 yX5_revision yX5_revision ∈ TB := mT (List.mem_of_getElem? (i := 422) (by decide +kernel)) rfl
theorem cd_X5_revision : Cond.code yX5_revision cX5_revision 3 (some .int) ∈ TB := mT (List.mem_of_getElem? (i := 423) (by decide +kernel)) rfl
theorem ml_X5_141 : Cond.methodLink RX5 141 yX4_hasRevision ∈ TB := mT (List.mem_of_getElem? (i := 424) (by decide +kernel)) rfl
theorem im_X4_hasRevision : Cond.instanceMethod yX4_hasRevision ∈ TB := mT (List.mem_of_getElem? (i := 425) (by decide +kernel)) rfl
theorem se_X4_hasRevision : Cond.selects RX4 yX4_hasRevision yX4_hasRevision ∈ TB := mT (List.mem_of_getElem? (i := 426) (by decide +kernel)) rfl
theorem cd_X4_hasRevision : Cond.code yX4_hasRevision cX4_hasRevision 2 (some .boolean) ∈ TB := mT (List.mem_of_getElem? (i := 427) (by decide +kernel)) rfl
theorem ml_X5_147 : Cond.methodLink RX5 147 yX4_behind ∈ TB := mT (List.mem_of_getElem? (i := 428) (by decide +kernel)) rfl
theorem ml_X5_150 : Cond.methodLink RX5 150 yX4_firstByteOf ∈ TB := mT (List.mem_of_getElem? (i := 429) (by decide +kernel)) rfl
theorem im_X4_firstByteOf : Cond.instanceMethod yX4_firstByteOf ∈ TB := mT (List.mem_of_getElem? (i := 430) (by decide +kernel)) rfl
theorem se_X4_firstByteOf : Cond.selects RX4 yX4_firstByteOf yX4_firstByteOf ∈ TB := mT (List.mem_of_getElem? (i := 431) (by decide +kernel)) rfl
theorem cd_X4_firstByteOf : Cond.code yX4_firstByteOf cX4_firstByteOf 2 (some .int) ∈ TB := mT (List.mem_of_getElem? (i := 432) (by decide +kernel)) rfl
theorem ml_X5_153 : Cond.methodLink RX5 153 yX4_behindBytesOf ∈ TB := mT (List.mem_of_getElem? (i := 433) (by decide +kernel)) rfl
theorem ml_L_50 : Cond.methodLink RL 50 yX5_bytes ∈ TB := mT (List.mem_of_getElem? (i := 434) (by decide +kernel)) rfl
theorem im_X5_bytes : Cond.instanceMethod yX5_bytes ∈ TB := mT (List.mem_of_getElem? (i := 435) (by decide +kernel)) rfl
theorem se_X5_bytes : Cond.selects RX5 yX5_bytes yX5_bytes ∈ TB := mT (List.mem_of_getElem? (i := 436) (by decide +kernel)) rfl
theorem cd_X5_bytes : Cond.code yX5_bytes cX5_bytes 2 (some .int) ∈ TB := mT (List.mem_of_getElem? (i := 437) (by decide +kernel)) rfl
theorem ml_X5_157 : Cond.methodLink RX5 157 yX0_has ∈ TB := mT (List.mem_of_getElem? (i := 438) (by decide +kernel)) rfl
theorem im_X0_has : Cond.instanceMethod yX0_has ∈ TB := mT (List.mem_of_getElem? (i := 439) (by decide +kernel)) rfl
theorem se_X0_has : Cond.selects RX0 yX0_has yX0_has ∈ TB := mT (List.mem_of_getElem? (i := 440) (by decide +kernel)) rfl
theorem cd_X0_has : Cond.code yX0_has cX0_has 2 (some .boolean) ∈ TB := mT (List.mem_of_getElem? (i := 441) (by decide +kernel)) rfl
theorem ml_L_54 : Cond.methodLink RL 54 yX5_thing ∈ TB := mT (List.mem_of_getElem? (i := 442) (by decide +kernel)) rfl
theorem im_X5_thing : Cond.instanceMethod yX5_thing ∈ TB := mT (List.mem_of_getElem? (i := 443) (by decide +kernel)) rfl
theorem se_X5_thing : Cond.selects RX5 yX5_thing yX5_thing ∈ TB := mT (List.mem_of_getElem? (i := 444) (by decide +kernel)) rfl
theorem cd_X5_thing : Cond.code yX5_thing cX5_thing 5 (some .int) ∈ TB := mT (List.mem_of_getElem? (i := 445) (by decide +kernel)) rfl
theorem ml_X5_162 : Cond.methodLink RX5 162 yX2_latestOf ∈ TB := mT (List.mem_of_getElem? (i := 446) (by decide +kernel)) rfl
theorem ml_X5_166 : Cond.methodLink RX5 166 yX4_kindOrGone ∈ TB := mT (List.mem_of_getElem? (i := 447) (by decide +kernel)) rfl
theorem ml_L_58 : Cond.methodLink RL 58 yX5_shadows ∈ TB := mT (List.mem_of_getElem? (i := 448) (by decide +kernel)) rfl
theorem im_X5_shadows : Cond.instanceMethod yX5_shadows ∈ TB := mT (List.mem_of_getElem? (i := 449) (by decide +kernel)) rfl
theorem se_X5_shadows : Cond.selects RX5 yX5_shadows yX5_shadows ∈ TB := mT (List.mem_of_getElem? (i := 450) (by decide +kernel)) rfl
theorem cd_X5_shadows : Cond.code yX5_shadows cX5_shadows 2 (some .int) ∈ TB := mT (List.mem_of_getElem? (i := 451) (by decide +kernel)) rfl
theorem ml_L_62 : Cond.methodLink RL 62 yX5_covers ∈ TB := mT (List.mem_of_getElem? (i := 452) (by decide +kernel)) rfl
theorem im_X5_covers : Cond.instanceMethod yX5_covers ∈ TB := mT (List.mem_of_getElem? (i := 453) (by decide +kernel)) rfl
theorem se_X5_covers : Cond.selects RX5 yX5_covers yX5_covers ∈ TB := mT (List.mem_of_getElem? (i := 454) (by decide +kernel)) rfl
theorem cd_X5_covers : Cond.code yX5_covers cX5_covers 3 (some .int) ∈ TB := mT (List.mem_of_getElem? (i := 455) (by decide +kernel)) rfl
theorem ml_X5_172 : Cond.methodLink RX5 172 yX1_edge ∈ TB := mT (List.mem_of_getElem? (i := 456) (by decide +kernel)) rfl
theorem ml_L_66 : Cond.methodLink RL 66 yX5_covered ∈ TB := mT (List.mem_of_getElem? (i := 457) (by decide +kernel)) rfl
theorem im_X5_covered : Cond.instanceMethod yX5_covered ∈ TB := mT (List.mem_of_getElem? (i := 458) (by decide +kernel)) rfl
theorem se_X5_covered : Cond.selects RX5 yX5_covered yX5_covered ∈ TB := mT (List.mem_of_getElem? (i := 459) (by decide +kernel)) rfl
theorem cd_X5_covered : Cond.code yX5_covered cX5_covered 2 (some .int) ∈ TB := mT (List.mem_of_getElem? (i := 460) (by decide +kernel)) rfl
theorem ml_X5_175 : Cond.methodLink RX5 175 yX1_bytesWithin ∈ TB := mT (List.mem_of_getElem? (i := 461) (by decide +kernel)) rfl
theorem im_X1_bytesWithin : Cond.instanceMethod yX1_bytesWithin ∈ TB := mT (List.mem_of_getElem? (i := 462) (by decide +kernel)) rfl
theorem se_X1_bytesWithin : Cond.selects RX1 yX1_bytesWithin yX1_bytesWithin ∈ TB := mT (List.mem_of_getElem? (i := 463) (by decide +kernel)) rfl
theorem cd_X1_bytesWithin : Cond.code yX1_bytesWithin cX1_bytesWithin 2 (some .int) ∈ TB := mT (List.mem_of_getElem? (i := 464) (by decide +kernel)) rfl
theorem ml_X1_43 : Cond.methodLink RX1 43 yX0_lengthWithin ∈ TB := mT (List.mem_of_getElem? (i := 465) (by decide +kernel)) rfl
theorem im_X0_lengthWithin : Cond.instanceMethod yX0_lengthWithin ∈ TB := mT (List.mem_of_getElem? (i := 466) (by decide +kernel)) rfl
theorem se_X0_lengthWithin : Cond.selects RX0 yX0_lengthWithin yX0_lengthWithin ∈ TB := mT (List.mem_of_getElem? (i := 467) (by decide +kernel)) rfl
theorem cd_X0_lengthWithin : Cond.code yX0_lengthWithin cX0_lengthWithin 3 (some .int) ∈ TB := mT (List.mem_of_getElem? (i := 468) (by decide +kernel)) rfl
theorem ml_X0_29 : Cond.methodLink RX0 29 yJ9_max_7cf53 ∈ TB := mT (List.mem_of_getElem? (i := 469) (by decide +kernel)) rfl
theorem ml_L_70 : Cond.methodLink RL 70 yX5_number ∈ TB := mT (List.mem_of_getElem? (i := 470) (by decide +kernel)) rfl
theorem im_X5_number : Cond.instanceMethod yX5_number ∈ TB := mT (List.mem_of_getElem? (i := 471) (by decide +kernel)) rfl
theorem se_X5_number : Cond.selects RX5 yX5_number yX5_number ∈ TB := mT (List.mem_of_getElem? (i := 472) (by decide +kernel)) rfl
theorem cd_X5_number : Cond.code yX5_number cX5_number 3 (some .int) ∈ TB := mT (List.mem_of_getElem? (i := 473) (by decide +kernel)) rfl
theorem ml_X5_178 : Cond.methodLink RX5 178 yX4_isClosedSeal ∈ TB := mT (List.mem_of_getElem? (i := 474) (by decide +kernel)) rfl
theorem kc_X5_181 : Cond.constant RX5 181 (-2147483648) ∈ TB := mT (List.mem_of_getElem? (i := 475) (by decide +kernel)) rfl
theorem ml_L_74 : Cond.methodLink RL 74 yX5_flaws ∈ TB := mT (List.mem_of_getElem? (i := 476) (by decide +kernel)) rfl
theorem im_X5_flaws : Cond.instanceMethod yX5_flaws ∈ TB := mT (List.mem_of_getElem? (i := 477) (by decide +kernel)) rfl
theorem se_X5_flaws : Cond.selects RX5 yX5_flaws yX5_flaws ∈ TB := mT (List.mem_of_getElem? (i := 478) (by decide +kernel)) rfl
theorem cd_X5_flaws : Cond.code yX5_flaws cX5_flaws 2 (some .int) ∈ TB := mT (List.mem_of_getElem? (i := 479) (by decide +kernel)) rfl
theorem ml_L_78 : Cond.methodLink RL 78 yX5_judge ∈ TB := mT (List.mem_of_getElem? (i := 480) (by decide +kernel)) rfl
theorem im_X5_judge : Cond.instanceMethod yX5_judge ∈ TB := mT (List.mem_of_getElem? (i := 481) (by decide +kernel)) rfl
theorem se_X5_judge : Cond.selects RX5 yX5_judge yX5_judge ∈ TB := mT (List.mem_of_getElem? (i := 482) (by decide +kernel)) rfl
theorem cd_X5_judge : Cond.code yX5_judge cX5_judge 4 (some .int) ∈ TB := mT (List.mem_of_getElem? (i := 483) (by decide +kernel)) rfl
theorem ml_X5_194 : Cond.methodLink RX5 194 yX2_changesBehind ∈ TB := mT (List.mem_of_getElem? (i := 484) (by decide +kernel)) rfl
theorem im_X2_changesBehind : Cond.instanceMethod yX2_changesBehind ∈ TB := mT (List.mem_of_getElem? (i := 485) (by decide +kernel)) rfl
theorem se_X2_changesBehind : Cond.selects RX2 yX2_changesBehind yX2_changesBehind ∈ TB := mT (List.mem_of_getElem? (i := 486) (by decide +kernel)) rfl
theorem cd_X2_changesBehind : Cond.code yX2_changesBehind cX2_changesBehind 2 (some .int) ∈ TB := mT (List.mem_of_getElem? (i := 487) (by decide +kernel)) rfl
theorem ml_X5_200 : Cond.methodLink RX5 200 yX5_holds ∈ TB := mT (List.mem_of_getElem? (i := 488) (by decide +kernel)) rfl
theorem im_X5_holds : Cond.instanceMethod yX5_holds ∈ TB := mT (List.mem_of_getElem? (i := 490) (by decide +kernel)) rfl
theorem cd_X5_holds : Cond.code yX5_holds cX5_holds 3 (some .boolean) ∈ TB := mT (List.mem_of_getElem? (i := 491) (by decide +kernel)) rfl
theorem ml_L_82 : Cond.methodLink RL 82 yX5_change ∈ TB := mT (List.mem_of_getElem? (i := 492) (by decide +kernel)) rfl
theorem im_X5_change : Cond.instanceMethod yX5_change ∈ TB := mT (List.mem_of_getElem? (i := 493) (by decide +kernel)) rfl
theorem se_X5_change : Cond.selects RX5 yX5_change yX5_change ∈ TB := mT (List.mem_of_getElem? (i := 494) (by decide +kernel)) rfl
theorem cd_X5_change : Cond.code yX5_change cX5_change 6 (some .int) ∈ TB := mT (List.mem_of_getElem? (i := 495) (by decide +kernel)) rfl
theorem ml_X5_213 : Cond.methodLink RX5 213 yX2_sortOf ∈ TB := mT (List.mem_of_getElem? (i := 496) (by decide +kernel)) rfl
theorem ml_L_86 : Cond.methodLink RL 86 yX5_allowed ∈ TB := mT (List.mem_of_getElem? (i := 497) (by decide +kernel)) rfl
theorem im_X5_allowed : Cond.instanceMethod yX5_allowed ∈ TB := mT (List.mem_of_getElem? (i := 498) (by decide +kernel)) rfl
theorem se_X5_allowed : Cond.selects RX5 yX5_allowed yX5_allowed ∈ TB := mT (List.mem_of_getElem? (i := 499) (by decide +kernel)) rfl
theorem cd_X5_allowed : Cond.code yX5_allowed cX5_allowed 4 (some .int) ∈ TB := mT (List.mem_of_getElem? (i := 500) (by decide +kernel)) rfl
theorem ml_X5_216 : Cond.methodLink RX5 216 yJ9_min_7cf53 ∈ TB := mT (List.mem_of_getElem? (i := 501) (by decide +kernel)) rfl
theorem ml_L_90 : Cond.methodLink RL 90 yX5_first ∈ TB := mT (List.mem_of_getElem? (i := 502) (by decide +kernel)) rfl
theorem im_X5_first : Cond.instanceMethod yX5_first ∈ TB := mT (List.mem_of_getElem? (i := 503) (by decide +kernel)) rfl
theorem se_X5_first : Cond.selects RX5 yX5_first yX5_first ∈ TB := mT (List.mem_of_getElem? (i := 504) (by decide +kernel)) rfl
theorem cd_X5_first : Cond.code yX5_first cX5_first 4 (some .int) ∈ TB := mT (List.mem_of_getElem? (i := 505) (by decide +kernel)) rfl
theorem ml_X5_224 : Cond.methodLink RX5 224 yX5_firstSealAgainst ∈ TB := mT (List.mem_of_getElem? (i := 506) (by decide +kernel)) rfl
theorem im_X5_firstSealAgainst : Cond.instanceMethod yX5_firstSealAgainst ∈ TB := mT (List.mem_of_getElem? (i := 508) (by decide +kernel)) rfl
theorem cd_X5_firstSealAgainst : Cond.code yX5_firstSealAgainst cX5_firstSealAgainst 4 (some .int) ∈ TB := mT (List.mem_of_getElem? (i := 509) (by decide +kernel)) rfl
theorem ml_L_94 : Cond.methodLink RL 94 yX5_holding ∈ TB := mT (List.mem_of_getElem? (i := 510) (by decide +kernel)) rfl
theorem im_X5_holding : Cond.instanceMethod yX5_holding ∈ TB := mT (List.mem_of_getElem? (i := 511) (by decide +kernel)) rfl
theorem se_X5_holding : Cond.selects RX5 yX5_holding yX5_holding ∈ TB := mT (List.mem_of_getElem? (i := 512) (by decide +kernel)) rfl
theorem cd_X5_holding : Cond.code yX5_holding cX5_holding 2 (some .int) ∈ TB := mT (List.mem_of_getElem? (i := 513) (by decide +kernel)) rfl
theorem ml_X5_227 : Cond.methodLink RX5 227 yX5_howManyHold ∈ TB := mT (List.mem_of_getElem? (i := 514) (by decide +kernel)) rfl
theorem im_X5_howManyHold : Cond.instanceMethod yX5_howManyHold ∈ TB := mT (List.mem_of_getElem? (i := 516) (by decide +kernel)) rfl
theorem cd_X5_howManyHold : Cond.code yX5_howManyHold cX5_howManyHold 5 (some .int) ∈ TB := mT (List.mem_of_getElem? (i := 517) (by decide +kernel)) rfl
theorem ml_X5_231 : Cond.methodLink RX5 231 yX5_howManyClosedSeals ∈ TB := mT (List.mem_of_getElem? (i := 518) (by decide +kernel)) rfl
theorem im_X5_howManyClosedSeals : Cond.instanceMethod yX5_howManyClosedSeals ∈ TB := mT (List.mem_of_getElem? (i := 520) (by decide +kernel)) rfl
theorem cd_X5_howManyClosedSeals : Cond.code yX5_howManyClosedSeals cX5_howManyClosedSeals 3 (some .int) ∈ TB := mT (List.mem_of_getElem? (i := 521) (by decide +kernel)) rfl
theorem ml_L_98 : Cond.methodLink RL 98 yX5_better ∈ TB := mT (List.mem_of_getElem? (i := 522) (by decide +kernel)) rfl
theorem im_X5_better : Cond.instanceMethod yX5_better ∈ TB := mT (List.mem_of_getElem? (i := 523) (by decide +kernel)) rfl
theorem se_X5_better : Cond.selects RX5 yX5_better yX5_better ∈ TB := mT (List.mem_of_getElem? (i := 524) (by decide +kernel)) rfl
theorem cd_X5_better : Cond.code yX5_better cX5_better 6 (some .int) ∈ TB := mT (List.mem_of_getElem? (i := 525) (by decide +kernel)) rfl
theorem ml_L_102 : Cond.methodLink RL 102 yX5_sheet ∈ TB := mT (List.mem_of_getElem? (i := 526) (by decide +kernel)) rfl
theorem im_X5_sheet : Cond.instanceMethod yX5_sheet ∈ TB := mT (List.mem_of_getElem? (i := 527) (by decide +kernel)) rfl
theorem se_X5_sheet : Cond.selects RX5 yX5_sheet yX5_sheet ∈ TB := mT (List.mem_of_getElem? (i := 528) (by decide +kernel)) rfl
theorem cd_X5_sheet : Cond.code yX5_sheet cX5_sheet 4 (some .int) ∈ TB := mT (List.mem_of_getElem? (i := 529) (by decide +kernel)) rfl
theorem ml_X5_235 : Cond.methodLink RX5 235 yX5_isForm ∈ TB := mT (List.mem_of_getElem? (i := 530) (by decide +kernel)) rfl
theorem st_X5_isForm : Cond.static yX5_isForm ∈ TB := mT (List.mem_of_getElem? (i := 531) (by decide +kernel)) rfl
theorem cd_X5_isForm : Cond.code yX5_isForm cX5_isForm 1 (some .boolean) ∈ TB := mT (List.mem_of_getElem? (i := 532) (by decide +kernel)) rfl
theorem ml_X5_238 : Cond.methodLink RX5 238 yX3_renew ∈ TB := mT (List.mem_of_getElem? (i := 533) (by decide +kernel)) rfl
theorem im_X3_renew : Cond.instanceMethod yX3_renew ∈ TB := mT (List.mem_of_getElem? (i := 534) (by decide +kernel)) rfl
theorem se_X3_renew : Cond.selects RX3 yX3_renew yX3_renew ∈ TB := mT (List.mem_of_getElem? (i := 535) (by decide +kernel)) rfl
theorem cd_X3_renew : Cond.code yX3_renew cX3_renew 3 none ∈ TB := mT (List.mem_of_getElem? (i := 536) (by decide +kernel)) rfl
theorem ml_X3_26 : Cond.methodLink RX3 26 yJ7_fill_53178 ∈ TB := mT (List.mem_of_getElem? (i := 537) (by decide +kernel)) rfl
theorem st_J7_fill_53178 : Cond.static yJ7_fill_53178 ∈ TB := mT (List.mem_of_getElem? (i := 538) (by decide +kernel)) rfl
theorem cd_J7_fill_53178 : Cond.code yJ7_fill_53178 cJ7_fill_53178 4 none ∈ TB := mT (List.mem_of_getElem? (i := 539) (by decide +kernel)) rfl
theorem ml_L_106 : Cond.methodLink RL 106 yX5_lose ∈ TB := mT (List.mem_of_getElem? (i := 540) (by decide +kernel)) rfl
theorem im_X5_lose : Cond.instanceMethod yX5_lose ∈ TB := mT (List.mem_of_getElem? (i := 541) (by decide +kernel)) rfl
theorem se_X5_lose : Cond.selects RX5 yX5_lose yX5_lose ∈ TB := mT (List.mem_of_getElem? (i := 542) (by decide +kernel)) rfl
theorem cd_X5_lose : Cond.code yX5_lose cX5_lose 2 (some .int) ∈ TB := mT (List.mem_of_getElem? (i := 543) (by decide +kernel)) rfl
theorem ml_L_110 : Cond.methodLink RL 110 yX5_lay ∈ TB := mT (List.mem_of_getElem? (i := 544) (by decide +kernel)) rfl
theorem im_X5_lay : Cond.instanceMethod yX5_lay ∈ TB := mT (List.mem_of_getElem? (i := 545) (by decide +kernel)) rfl
theorem se_X5_lay : Cond.selects RX5 yX5_lay yX5_lay ∈ TB := mT (List.mem_of_getElem? (i := 546) (by decide +kernel)) rfl
theorem cd_X5_lay : Cond.code yX5_lay cX5_lay 6 (some .int) ∈ TB := mT (List.mem_of_getElem? (i := 547) (by decide +kernel)) rfl
theorem ml_X5_241 : Cond.methodLink RX5 241 yX3_findingAt ∈ TB := mT (List.mem_of_getElem? (i := 548) (by decide +kernel)) rfl
theorem im_X3_findingAt : Cond.instanceMethod yX3_findingAt ∈ TB := mT (List.mem_of_getElem? (i := 549) (by decide +kernel)) rfl
theorem se_X3_findingAt : Cond.selects RX3 yX3_findingAt yX3_findingAt ∈ TB := mT (List.mem_of_getElem? (i := 550) (by decide +kernel)) rfl
theorem cd_X3_findingAt : Cond.code yX3_findingAt cX3_findingAt 3 (some .int) ∈ TB := mT (List.mem_of_getElem? (i := 551) (by decide +kernel)) rfl
theorem ml_X5_244 : Cond.methodLink RX5 244 yX3_layItem ∈ TB := mT (List.mem_of_getElem? (i := 552) (by decide +kernel)) rfl
theorem im_X3_layItem : Cond.instanceMethod yX3_layItem ∈ TB := mT (List.mem_of_getElem? (i := 553) (by decide +kernel)) rfl
theorem se_X3_layItem : Cond.selects RX3 yX3_layItem yX3_layItem ∈ TB := mT (List.mem_of_getElem? (i := 554) (by decide +kernel)) rfl
theorem cd_X3_layItem : Cond.code yX3_layItem cX3_layItem 3 none ∈ TB := mT (List.mem_of_getElem? (i := 555) (by decide +kernel)) rfl
theorem ml_L_115 : Cond.methodLink RL 115 yX5_get ∈ TB := mT (List.mem_of_getElem? (i := 556) (by decide +kernel)) rfl
theorem im_X5_get : Cond.instanceMethod yX5_get ∈ TB := mT (List.mem_of_getElem? (i := 557) (by decide +kernel)) rfl
theorem se_X5_get : Cond.selects RX5 yX5_get yX5_get ∈ TB := mT (List.mem_of_getElem? (i := 558) (by decide +kernel)) rfl
theorem cd_X5_get : Cond.code yX5_get cX5_get 5 (some .int) ∈ TB := mT (List.mem_of_getElem? (i := 559) (by decide +kernel)) rfl
theorem ml_L_119 : Cond.methodLink RL 119 yX5_copy ∈ TB := mT (List.mem_of_getElem? (i := 560) (by decide +kernel)) rfl
theorem im_X5_copy : Cond.instanceMethod yX5_copy ∈ TB := mT (List.mem_of_getElem? (i := 561) (by decide +kernel)) rfl
theorem se_X5_copy : Cond.selects RX5 yX5_copy yX5_copy ∈ TB := mT (List.mem_of_getElem? (i := 562) (by decide +kernel)) rfl
theorem cd_X5_copy : Cond.code yX5_copy cX5_copy 8 (some .int) ∈ TB := mT (List.mem_of_getElem? (i := 563) (by decide +kernel)) rfl
theorem ml_X5_250 : Cond.methodLink RX5 250 yX3_hasItems ∈ TB := mT (List.mem_of_getElem? (i := 564) (by decide +kernel)) rfl
theorem im_X3_hasItems : Cond.instanceMethod yX3_hasItems ∈ TB := mT (List.mem_of_getElem? (i := 565) (by decide +kernel)) rfl
theorem se_X3_hasItems : Cond.selects RX3 yX3_hasItems yX3_hasItems ∈ TB := mT (List.mem_of_getElem? (i := 566) (by decide +kernel)) rfl
theorem cd_X3_hasItems : Cond.code yX3_hasItems cX3_hasItems 3 (some .boolean) ∈ TB := mT (List.mem_of_getElem? (i := 567) (by decide +kernel)) rfl
theorem ml_X5_253 : Cond.methodLink RX5 253 arraycopyName ∈ TB := mT (List.mem_of_getElem? (i := 568) (by decide +kernel)) rfl
theorem ml_L_123 : Cond.methodLink RL 123 yX5_tell ∈ TB := mT (List.mem_of_getElem? (i := 569) (by decide +kernel)) rfl
theorem im_X5_tell : Cond.instanceMethod yX5_tell ∈ TB := mT (List.mem_of_getElem? (i := 570) (by decide +kernel)) rfl
theorem se_X5_tell : Cond.selects RX5 yX5_tell yX5_tell ∈ TB := mT (List.mem_of_getElem? (i := 571) (by decide +kernel)) rfl
theorem cd_X5_tell : Cond.code yX5_tell cX5_tell 6 (some .int) ∈ TB := mT (List.mem_of_getElem? (i := 572) (by decide +kernel)) rfl
theorem ml_X5_259 : Cond.methodLink RX5 259 yJ9_max_7cf53 ∈ TB := mT (List.mem_of_getElem? (i := 573) (by decide +kernel)) rfl
theorem ml_L_127 : Cond.methodLink RL 127 yX5_count ∈ TB := mT (List.mem_of_getElem? (i := 574) (by decide +kernel)) rfl
theorem im_X5_count : Cond.instanceMethod yX5_count ∈ TB := mT (List.mem_of_getElem? (i := 575) (by decide +kernel)) rfl
theorem se_X5_count : Cond.selects RX5 yX5_count yX5_count ∈ TB := mT (List.mem_of_getElem? (i := 576) (by decide +kernel)) rfl
theorem cd_X5_count : Cond.code yX5_count cX5_count 2 (some .int) ∈ TB := mT (List.mem_of_getElem? (i := 577) (by decide +kernel)) rfl
theorem ml_X5_265 : Cond.methodLink RX5 265 yJ6_bitCount_0f7a4 ∈ TB := mT (List.mem_of_getElem? (i := 578) (by decide +kernel)) rfl
theorem st_J6_bitCount_0f7a4 : Cond.static yJ6_bitCount_0f7a4 ∈ TB := mT (List.mem_of_getElem? (i := 579) (by decide +kernel)) rfl
theorem cd_J6_bitCount_0f7a4 : Cond.code yJ6_bitCount_0f7a4 cJ6_bitCount_0f7a4 1 (some .int) ∈ TB := mT (List.mem_of_getElem? (i := 580) (by decide +kernel)) rfl
theorem kc_J6_265 : Cond.constant RJ6 265 (1431655765) ∈ TB := mT (List.mem_of_getElem? (i := 581) (by decide +kernel)) rfl
theorem kc_J6_266 : Cond.constant RJ6 266 (858993459) ∈ TB := mT (List.mem_of_getElem? (i := 582) (by decide +kernel)) rfl
theorem kc_J6_267 : Cond.constant RJ6 267 (252645135) ∈ TB := mT (List.mem_of_getElem? (i := 583) (by decide +kernel)) rfl
theorem ml_X5_270 : Cond.methodLink RX5 270 yX5_howManyShadowed ∈ TB := mT (List.mem_of_getElem? (i := 584) (by decide +kernel)) rfl
theorem im_X5_howManyShadowed : Cond.instanceMethod yX5_howManyShadowed ∈ TB := mT (List.mem_of_getElem? (i := 586) (by decide +kernel)) rfl
theorem cd_X5_howManyShadowed : Cond.code yX5_howManyShadowed cX5_howManyShadowed 3 (some .int) ∈ TB := mT (List.mem_of_getElem? (i := 587) (by decide +kernel)) rfl
theorem ml_X5_273 : Cond.methodLink RX5 273 yX5_allowed ∈ TB := mT (List.mem_of_getElem? (i := 588) (by decide +kernel)) rfl
theorem ml_L_131 : Cond.methodLink RL 131 yX5_digest ∈ TB := mT (List.mem_of_getElem? (i := 589) (by decide +kernel)) rfl
theorem im_X5_digest : Cond.instanceMethod yX5_digest ∈ TB := mT (List.mem_of_getElem? (i := 590) (by decide +kernel)) rfl
theorem se_X5_digest : Cond.selects RX5 yX5_digest yX5_digest ∈ TB := mT (List.mem_of_getElem? (i := 591) (by decide +kernel)) rfl
theorem cd_X5_digest : Cond.code yX5_digest cX5_digest 4 (some .long) ∈ TB := mT (List.mem_of_getElem? (i := 592) (by decide +kernel)) rfl
theorem kl_X5_276 : Cond.constantLong RX5 276 (17) ∈ TB := mT (List.mem_of_getElem? (i := 593) (by decide +kernel)) rfl
theorem kl_X5_278 : Cond.constantLong RX5 278 (31) ∈ TB := mT (List.mem_of_getElem? (i := 594) (by decide +kernel)) rfl
theorem ml_X5_280 : Cond.methodLink RX5 280 yX5_count ∈ TB := mT (List.mem_of_getElem? (i := 595) (by decide +kernel)) rfl
theorem ml_X5_283 : Cond.methodLink RX5 283 yX5_digestRevision ∈ TB := mT (List.mem_of_getElem? (i := 596) (by decide +kernel)) rfl
theorem im_X5_digestRevision : Cond.instanceMethod yX5_digestRevision ∈ TB := mT (List.mem_of_getElem? (i := 598) (by decide +kernel)) rfl
theorem cd_X5_digestRevision : Cond.code yX5_digestRevision cX5_digestRevision 7 (some .long) ∈ TB := mT (List.mem_of_getElem? (i := 599) (by decide +kernel)) rfl
theorem ml_X5_303 : Cond.methodLink RX5 303 yX5_revision ∈ TB := mT (List.mem_of_getElem? (i := 600) (by decide +kernel)) rfl
theorem ml_X5_306 : Cond.methodLink RX5 306 yX5_shadows ∈ TB := mT (List.mem_of_getElem? (i := 601) (by decide +kernel)) rfl
theorem ml_X5_287 : Cond.methodLink RX5 287 yX5_digestThing ∈ TB := mT (List.mem_of_getElem? (i := 602) (by decide +kernel)) rfl
theorem im_X5_digestThing : Cond.instanceMethod yX5_digestThing ∈ TB := mT (List.mem_of_getElem? (i := 604) (by decide +kernel)) rfl
theorem cd_X5_digestThing : Cond.code yX5_digestThing cX5_digestThing 7 (some .long) ∈ TB := mT (List.mem_of_getElem? (i := 605) (by decide +kernel)) rfl
theorem ml_X5_309 : Cond.methodLink RX5 309 yX5_thing ∈ TB := mT (List.mem_of_getElem? (i := 606) (by decide +kernel)) rfl
theorem ml_X5_290 : Cond.methodLink RX5 290 yX5_digestWrite ∈ TB := mT (List.mem_of_getElem? (i := 607) (by decide +kernel)) rfl
theorem im_X5_digestWrite : Cond.instanceMethod yX5_digestWrite ∈ TB := mT (List.mem_of_getElem? (i := 609) (by decide +kernel)) rfl
theorem cd_X5_digestWrite : Cond.code yX5_digestWrite cX5_digestWrite 7 (some .long) ∈ TB := mT (List.mem_of_getElem? (i := 610) (by decide +kernel)) rfl
theorem ml_X5_312 : Cond.methodLink RX5 312 yX5_write ∈ TB := mT (List.mem_of_getElem? (i := 611) (by decide +kernel)) rfl
theorem ml_X5_315 : Cond.methodLink RX5 315 yX5_covers ∈ TB := mT (List.mem_of_getElem? (i := 612) (by decide +kernel)) rfl
theorem ml_X5_318 : Cond.methodLink RX5 318 yX5_covered ∈ TB := mT (List.mem_of_getElem? (i := 613) (by decide +kernel)) rfl
theorem ml_X5_321 : Cond.methodLink RX5 321 yX5_number ∈ TB := mT (List.mem_of_getElem? (i := 614) (by decide +kernel)) rfl
theorem ml_X5_324 : Cond.methodLink RX5 324 yX5_flaws ∈ TB := mT (List.mem_of_getElem? (i := 615) (by decide +kernel)) rfl
theorem ml_X5_327 : Cond.methodLink RX5 327 yX5_judge ∈ TB := mT (List.mem_of_getElem? (i := 616) (by decide +kernel)) rfl
theorem ml_X5_293 : Cond.methodLink RX5 293 yX5_digestChanges ∈ TB := mT (List.mem_of_getElem? (i := 617) (by decide +kernel)) rfl
theorem im_X5_digestChanges : Cond.instanceMethod yX5_digestChanges ∈ TB := mT (List.mem_of_getElem? (i := 619) (by decide +kernel)) rfl
theorem cd_X5_digestChanges : Cond.code yX5_digestChanges cX5_digestChanges 8 (some .long) ∈ TB := mT (List.mem_of_getElem? (i := 620) (by decide +kernel)) rfl
theorem ml_X5_330 : Cond.methodLink RX5 330 yX5_change ∈ TB := mT (List.mem_of_getElem? (i := 621) (by decide +kernel)) rfl
theorem ml_X5_296 : Cond.methodLink RX5 296 yX5_bytes ∈ TB := mT (List.mem_of_getElem? (i := 622) (by decide +kernel)) rfl
theorem ml_X5_299 : Cond.methodLink RX5 299 yX5_digestFile ∈ TB := mT (List.mem_of_getElem? (i := 623) (by decide +kernel)) rfl
theorem im_X5_digestFile : Cond.instanceMethod yX5_digestFile ∈ TB := mT (List.mem_of_getElem? (i := 625) (by decide +kernel)) rfl
theorem cd_X5_digestFile : Cond.code yX5_digestFile cX5_digestFile 6 (some .long) ∈ TB := mT (List.mem_of_getElem? (i := 626) (by decide +kernel)) rfl
theorem ml_X5_333 : Cond.methodLink RX5 333 yX5_first ∈ TB := mT (List.mem_of_getElem? (i := 627) (by decide +kernel)) rfl
theorem ml_X5_336 : Cond.methodLink RX5 336 yX5_holding ∈ TB := mT (List.mem_of_getElem? (i := 628) (by decide +kernel)) rfl
theorem ml_X5_339 : Cond.methodLink RX5 339 yX5_better ∈ TB := mT (List.mem_of_getElem? (i := 629) (by decide +kernel)) rfl
theorem cl_L_10 : Cond.classLink RL 10 RX6 ∈ TB := mT (List.mem_of_getElem? (i := 630) (by decide +kernel)) rfl
theorem is_X6 : Cond.instantiable RX6 16 ∈ TB := mT (List.mem_of_getElem? (i := 631) (by decide +kernel)) rfl
theorem ml_L_12 : Cond.methodLink RL 12 yX6_init ∈ TB := mT (List.mem_of_getElem? (i := 632) (by decide +kernel)) rfl
theorem im_X6_init : Cond.instanceMethod yX6_init ∈ TB := mT (List.mem_of_getElem? (i := 633) (by decide +kernel)) rfl
theorem cd_X6_init : Cond.code yX6_init cX6_init 2 none ∈ TB := mT (List.mem_of_getElem? (i := 634) (by decide +kernel)) rfl
theorem ml_X6_1 : Cond.methodLink RX6 1 objectInit ∈ TB := mT (List.mem_of_getElem? (i := 635) (by decide +kernel)) rfl
theorem fl_X6_7 : Cond.fieldLink RX6 7 (TX6 0).1 (TX6 0).2.1 (TX6 0).2.2.1 ∈ TB := mT (List.mem_of_getElem? (i := 636) (by decide +kernel)) rfl
theorem fl_X6_13 : Cond.fieldLink RX6 13 (TX6 1).1 (TX6 1).2.1 (TX6 1).2.2.1 ∈ TB := mT (List.mem_of_getElem? (i := 637) (by decide +kernel)) rfl
theorem fl_X6_16 : Cond.fieldLink RX6 16 (TX6 2).1 (TX6 2).2.1 (TX6 2).2.2.1 ∈ TB := mT (List.mem_of_getElem? (i := 638) (by decide +kernel)) rfl
theorem fl_X6_19 : Cond.fieldLink RX6 19 (TX6 3).1 (TX6 3).2.1 (TX6 3).2.2.1 ∈ TB := mT (List.mem_of_getElem? (i := 639) (by decide +kernel)) rfl
theorem fl_X6_55 : Cond.fieldLink RX6 55 (TX6 4).1 (TX6 4).2.1 (TX6 4).2.2.1 ∈ TB := mT (List.mem_of_getElem? (i := 640) (by decide +kernel)) rfl
theorem fl_X6_89 : Cond.fieldLink RX6 89 (TX6 5).1 (TX6 5).2.1 (TX6 5).2.2.1 ∈ TB := mT (List.mem_of_getElem? (i := 641) (by decide +kernel)) rfl
theorem fl_X6_22 : Cond.fieldLink RX6 22 (TX6 6).1 (TX6 6).2.1 (TX6 6).2.2.1 ∈ TB := mT (List.mem_of_getElem? (i := 642) (by decide +kernel)) rfl
theorem fl_X6_25 : Cond.fieldLink RX6 25 (TX6 7).1 (TX6 7).2.1 (TX6 7).2.2.1 ∈ TB := mT (List.mem_of_getElem? (i := 643) (by decide +kernel)) rfl
theorem fl_X6_28 : Cond.fieldLink RX6 28 (TX6 8).1 (TX6 8).2.1 (TX6 8).2.2.1 ∈ TB := mT (List.mem_of_getElem? (i := 644) (by decide +kernel)) rfl
theorem fl_X6_31 : Cond.fieldLink RX6 31 (TX6 9).1 (TX6 9).2.1 (TX6 9).2.2.1 ∈ TB := mT (List.mem_of_getElem? (i := 645) (by decide +kernel)) rfl
theorem fl_X6_34 : Cond.fieldLink RX6 34 (TX6 10).1 (TX6 10).2.1 (TX6 10).2.2.1 ∈ TB := mT (List.mem_of_getElem? (i := 646) (by decide +kernel)) rfl
theorem fl_X6_38 : Cond.fieldLink RX6 38 (TX6 11).1 (TX6 11).2.1 (TX6 11).2.2.1 ∈ TB := mT (List.mem_of_getElem? (i := 647) (by decide +kernel)) rfl
theorem fl_X6_41 : Cond.fieldLink RX6 41 (TX6 12).1 (TX6 12).2.1 (TX6 12).2.2.1 ∈ TB := mT (List.mem_of_getElem? (i := 648) (by decide +kernel)) rfl
theorem fl_X6_92 : Cond.fieldLink RX6 92 (TX6 13).1 (TX6 13).2.1 (TX6 13).2.2.1 ∈ TB := mT (List.mem_of_getElem? (i := 649) (by decide +kernel)) rfl
theorem fl_X6_44 : Cond.fieldLink RX6 44 (TX6 14).1 (TX6 14).2.1 (TX6 14).2.2.1 ∈ TB := mT (List.mem_of_getElem? (i := 650) (by decide +kernel)) rfl
theorem fl_X6_48 : Cond.fieldLink RX6 48 (TX6 15).1 (TX6 15).2.1 (TX6 15).2.2.1 ∈ TB := mT (List.mem_of_getElem? (i := 651) (by decide +kernel)) rfl
theorem ml_L_105 : Cond.methodLink RL 105 yX6_sheet ∈ TB := mT (List.mem_of_getElem? (i := 685) (by decide +kernel)) rfl
theorem im_X6_sheet : Cond.instanceMethod yX6_sheet ∈ TB := mT (List.mem_of_getElem? (i := 686) (by decide +kernel)) rfl
theorem se_X6_sheet : Cond.selects RX6 yX6_sheet yX6_sheet ∈ TB := mT (List.mem_of_getElem? (i := 687) (by decide +kernel)) rfl
theorem cd_X6_sheet : Cond.code yX6_sheet cX6_sheet 5 (some .int) ∈ TB := mT (List.mem_of_getElem? (i := 688) (by decide +kernel)) rfl
theorem ml_X6_60 : Cond.methodLink RX6 60 yX6_isSheet ∈ TB := mT (List.mem_of_getElem? (i := 689) (by decide +kernel)) rfl
theorem st_X6_isSheet : Cond.static yX6_isSheet ∈ TB := mT (List.mem_of_getElem? (i := 690) (by decide +kernel)) rfl
theorem cd_X6_isSheet : Cond.code yX6_isSheet cX6_isSheet 1 (some .boolean) ∈ TB := mT (List.mem_of_getElem? (i := 691) (by decide +kernel)) rfl
theorem kl_X6_58 : Cond.constantLong RX6 58 (3) ∈ TB := mT (List.mem_of_getElem? (i := 692) (by decide +kernel)) rfl
theorem ml_X6_51 : Cond.methodLink RX6 51 yX6_in ∈ TB := mT (List.mem_of_getElem? (i := 693) (by decide +kernel)) rfl
theorem st_X6_in : Cond.static yX6_in ∈ TB := mT (List.mem_of_getElem? (i := 694) (by decide +kernel)) rfl
theorem cd_X6_in : Cond.code yX6_in cX6_in 6 (some .boolean) ∈ TB := mT (List.mem_of_getElem? (i := 695) (by decide +kernel)) rfl
theorem kl_X6_64 : Cond.constantLong RX6 64 (2) ∈ TB := mT (List.mem_of_getElem? (i := 696) (by decide +kernel)) rfl
theorem ml_X6_66 : Cond.methodLink RX6 66 yX6_finds ∈ TB := mT (List.mem_of_getElem? (i := 697) (by decide +kernel)) rfl
theorem im_X6_finds : Cond.instanceMethod yX6_finds ∈ TB := mT (List.mem_of_getElem? (i := 699) (by decide +kernel)) rfl
theorem cd_X6_finds : Cond.code yX6_finds cX6_finds 2 (some .int) ∈ TB := mT (List.mem_of_getElem? (i := 700) (by decide +kernel)) rfl
theorem ml_L_109 : Cond.methodLink RL 109 yX6_lose ∈ TB := mT (List.mem_of_getElem? (i := 701) (by decide +kernel)) rfl
theorem im_X6_lose : Cond.instanceMethod yX6_lose ∈ TB := mT (List.mem_of_getElem? (i := 702) (by decide +kernel)) rfl
theorem se_X6_lose : Cond.selects RX6 yX6_lose yX6_lose ∈ TB := mT (List.mem_of_getElem? (i := 703) (by decide +kernel)) rfl
theorem cd_X6_lose : Cond.code yX6_lose cX6_lose 2 (some .int) ∈ TB := mT (List.mem_of_getElem? (i := 704) (by decide +kernel)) rfl
theorem ml_L_114 : Cond.methodLink RL 114 yX6_lay ∈ TB := mT (List.mem_of_getElem? (i := 705) (by decide +kernel)) rfl
theorem im_X6_lay : Cond.instanceMethod yX6_lay ∈ TB := mT (List.mem_of_getElem? (i := 706) (by decide +kernel)) rfl
theorem se_X6_lay : Cond.selects RX6 yX6_lay yX6_lay ∈ TB := mT (List.mem_of_getElem? (i := 707) (by decide +kernel)) rfl
theorem cd_X6_lay : Cond.code yX6_lay cX6_lay 6 (some .int) ∈ TB := mT (List.mem_of_getElem? (i := 708) (by decide +kernel)) rfl
theorem ml_X6_70 : Cond.methodLink RX6 70 yX6_lacks ∈ TB := mT (List.mem_of_getElem? (i := 709) (by decide +kernel)) rfl
theorem im_X6_lacks : Cond.instanceMethod yX6_lacks ∈ TB := mT (List.mem_of_getElem? (i := 711) (by decide +kernel)) rfl
theorem cd_X6_lacks : Cond.code yX6_lacks cX6_lacks 4 (some .int) ∈ TB := mT (List.mem_of_getElem? (i := 712) (by decide +kernel)) rfl
theorem ml_X6_74 : Cond.methodLink RX6 74 yX6_cut ∈ TB := mT (List.mem_of_getElem? (i := 713) (by decide +kernel)) rfl
theorem st_X6_cut : Cond.static yX6_cut ∈ TB := mT (List.mem_of_getElem? (i := 714) (by decide +kernel)) rfl
theorem cd_X6_cut : Cond.code yX6_cut cX6_cut 2 (some .int) ∈ TB := mT (List.mem_of_getElem? (i := 715) (by decide +kernel)) rfl
theorem ml_L_118 : Cond.methodLink RL 118 yX6_get ∈ TB := mT (List.mem_of_getElem? (i := 716) (by decide +kernel)) rfl
theorem im_X6_get : Cond.instanceMethod yX6_get ∈ TB := mT (List.mem_of_getElem? (i := 717) (by decide +kernel)) rfl
theorem se_X6_get : Cond.selects RX6 yX6_get yX6_get ∈ TB := mT (List.mem_of_getElem? (i := 718) (by decide +kernel)) rfl
theorem cd_X6_get : Cond.code yX6_get cX6_get 4 (some .int) ∈ TB := mT (List.mem_of_getElem? (i := 719) (by decide +kernel)) rfl
theorem kc_X6_78 : Cond.constant RX6 78 (-2147483648) ∈ TB := mT (List.mem_of_getElem? (i := 720) (by decide +kernel)) rfl
theorem ml_L_122 : Cond.methodLink RL 122 yX6_copy ∈ TB := mT (List.mem_of_getElem? (i := 721) (by decide +kernel)) rfl
theorem im_X6_copy : Cond.instanceMethod yX6_copy ∈ TB := mT (List.mem_of_getElem? (i := 722) (by decide +kernel)) rfl
theorem se_X6_copy : Cond.selects RX6 yX6_copy yX6_copy ∈ TB := mT (List.mem_of_getElem? (i := 723) (by decide +kernel)) rfl
theorem cd_X6_copy : Cond.code yX6_copy cX6_copy 7 (some .int) ∈ TB := mT (List.mem_of_getElem? (i := 724) (by decide +kernel)) rfl
theorem ml_L_17 : Cond.methodLink RL 17 yX6_put ∈ TB := mT (List.mem_of_getElem? (i := 725) (by decide +kernel)) rfl
theorem im_X6_put : Cond.instanceMethod yX6_put ∈ TB := mT (List.mem_of_getElem? (i := 726) (by decide +kernel)) rfl
theorem se_X6_put : Cond.selects RX6 yX6_put yX6_put ∈ TB := mT (List.mem_of_getElem? (i := 727) (by decide +kernel)) rfl
theorem cd_X6_put : Cond.code yX6_put cX6_put 4 (some .int) ∈ TB := mT (List.mem_of_getElem? (i := 728) (by decide +kernel)) rfl
theorem kl_X6_81 : Cond.constantLong RX6 81 (15) ∈ TB := mT (List.mem_of_getElem? (i := 729) (by decide +kernel)) rfl
theorem kl_X6_83 : Cond.constantLong RX6 83 (5) ∈ TB := mT (List.mem_of_getElem? (i := 730) (by decide +kernel)) rfl
theorem ml_X6_85 : Cond.methodLink RX6 85 yX6_isValue ∈ TB := mT (List.mem_of_getElem? (i := 731) (by decide +kernel)) rfl
theorem st_X6_isValue : Cond.static yX6_isValue ∈ TB := mT (List.mem_of_getElem? (i := 732) (by decide +kernel)) rfl
theorem cd_X6_isValue : Cond.code yX6_isValue cX6_isValue 2 (some .boolean) ∈ TB := mT (List.mem_of_getElem? (i := 733) (by decide +kernel)) rfl
theorem kl_X6_79 : Cond.constantLong RX6 79 (65535) ∈ TB := mT (List.mem_of_getElem? (i := 734) (by decide +kernel)) rfl
theorem ml_L_22 : Cond.methodLink RL 22 yX6_close ∈ TB := mT (List.mem_of_getElem? (i := 735) (by decide +kernel)) rfl
theorem im_X6_close : Cond.instanceMethod yX6_close ∈ TB := mT (List.mem_of_getElem? (i := 736) (by decide +kernel)) rfl
theorem se_X6_close : Cond.selects RX6 yX6_close yX6_close ∈ TB := mT (List.mem_of_getElem? (i := 737) (by decide +kernel)) rfl
theorem cd_X6_close : Cond.code yX6_close cX6_close 2 (some .int) ∈ TB := mT (List.mem_of_getElem? (i := 738) (by decide +kernel)) rfl
theorem ml_X6_95 : Cond.methodLink RX6 95 yX6_manyOf ∈ TB := mT (List.mem_of_getElem? (i := 739) (by decide +kernel)) rfl
theorem im_X6_manyOf : Cond.instanceMethod yX6_manyOf ∈ TB := mT (List.mem_of_getElem? (i := 741) (by decide +kernel)) rfl
theorem cd_X6_manyOf : Cond.code yX6_manyOf cX6_manyOf 4 (some .int) ∈ TB := mT (List.mem_of_getElem? (i := 742) (by decide +kernel)) rfl
theorem ml_X6_98 : Cond.methodLink RX6 98 yX6_numberOf ∈ TB := mT (List.mem_of_getElem? (i := 743) (by decide +kernel)) rfl
theorem im_X6_numberOf : Cond.instanceMethod yX6_numberOf ∈ TB := mT (List.mem_of_getElem? (i := 745) (by decide +kernel)) rfl
theorem cd_X6_numberOf : Cond.code yX6_numberOf cX6_numberOf 6 (some .int) ∈ TB := mT (List.mem_of_getElem? (i := 746) (by decide +kernel)) rfl
theorem ml_X6_170 : Cond.methodLink RX6 170 yX6_coverOf ∈ TB := mT (List.mem_of_getElem? (i := 747) (by decide +kernel)) rfl
theorem im_X6_coverOf : Cond.instanceMethod yX6_coverOf ∈ TB := mT (List.mem_of_getElem? (i := 749) (by decide +kernel)) rfl
theorem cd_X6_coverOf : Cond.code yX6_coverOf cX6_coverOf 3 (some .int) ∈ TB := mT (List.mem_of_getElem? (i := 750) (by decide +kernel)) rfl
theorem ml_X6_167 : Cond.methodLink RX6 167 yX6_usual ∈ TB := mT (List.mem_of_getElem? (i := 751) (by decide +kernel)) rfl
theorem im_X6_usual : Cond.instanceMethod yX6_usual ∈ TB := mT (List.mem_of_getElem? (i := 753) (by decide +kernel)) rfl
theorem cd_X6_usual : Cond.code yX6_usual cX6_usual 3 (some .int) ∈ TB := mT (List.mem_of_getElem? (i := 754) (by decide +kernel)) rfl
theorem ml_X6_135 : Cond.methodLink RX6 135 yX6_placeOf ∈ TB := mT (List.mem_of_getElem? (i := 755) (by decide +kernel)) rfl
theorem im_X6_placeOf : Cond.instanceMethod yX6_placeOf ∈ TB := mT (List.mem_of_getElem? (i := 757) (by decide +kernel)) rfl
theorem cd_X6_placeOf : Cond.code yX6_placeOf cX6_placeOf 2 (some .int) ∈ TB := mT (List.mem_of_getElem? (i := 758) (by decide +kernel)) rfl
theorem ml_X6_143 : Cond.methodLink RX6 143 yX6_endOf ∈ TB := mT (List.mem_of_getElem? (i := 759) (by decide +kernel)) rfl
theorem im_X6_endOf : Cond.instanceMethod yX6_endOf ∈ TB := mT (List.mem_of_getElem? (i := 761) (by decide +kernel)) rfl
theorem cd_X6_endOf : Cond.code yX6_endOf cX6_endOf 2 (some .int) ∈ TB := mT (List.mem_of_getElem? (i := 762) (by decide +kernel)) rfl
theorem ml_X6_122 : Cond.methodLink RX6 122 yX6_beginOf ∈ TB := mT (List.mem_of_getElem? (i := 763) (by decide +kernel)) rfl
theorem im_X6_beginOf : Cond.instanceMethod yX6_beginOf ∈ TB := mT (List.mem_of_getElem? (i := 765) (by decide +kernel)) rfl
theorem cd_X6_beginOf : Cond.code yX6_beginOf cX6_beginOf 2 (some .int) ∈ TB := mT (List.mem_of_getElem? (i := 766) (by decide +kernel)) rfl
theorem ml_X6_119 : Cond.methodLink RX6 119 yX6_firstOf ∈ TB := mT (List.mem_of_getElem? (i := 767) (by decide +kernel)) rfl
theorem im_X6_firstOf : Cond.instanceMethod yX6_firstOf ∈ TB := mT (List.mem_of_getElem? (i := 769) (by decide +kernel)) rfl
theorem cd_X6_firstOf : Cond.code yX6_firstOf cX6_firstOf 4 (some .int) ∈ TB := mT (List.mem_of_getElem? (i := 770) (by decide +kernel)) rfl
theorem ml_X6_128 : Cond.methodLink RX6 128 yX6_allBytes ∈ TB := mT (List.mem_of_getElem? (i := 771) (by decide +kernel)) rfl
theorem im_X6_allBytes : Cond.instanceMethod yX6_allBytes ∈ TB := mT (List.mem_of_getElem? (i := 773) (by decide +kernel)) rfl
theorem cd_X6_allBytes : Cond.code yX6_allBytes cX6_allBytes 1 (some .int) ∈ TB := mT (List.mem_of_getElem? (i := 774) (by decide +kernel)) rfl
theorem ml_X6_173 : Cond.methodLink RX6 173 yX6_lesser ∈ TB := mT (List.mem_of_getElem? (i := 775) (by decide +kernel)) rfl
theorem st_X6_lesser : Cond.static yX6_lesser ∈ TB := mT (List.mem_of_getElem? (i := 776) (by decide +kernel)) rfl
theorem cd_X6_lesser : Cond.code yX6_lesser cX6_lesser 2 (some .int) ∈ TB := mT (List.mem_of_getElem? (i := 777) (by decide +kernel)) rfl
theorem ml_X6_132 : Cond.methodLink RX6 132 yX6_byteAt ∈ TB := mT (List.mem_of_getElem? (i := 778) (by decide +kernel)) rfl
theorem im_X6_byteAt : Cond.instanceMethod yX6_byteAt ∈ TB := mT (List.mem_of_getElem? (i := 780) (by decide +kernel)) rfl
theorem cd_X6_byteAt : Cond.code yX6_byteAt cX6_byteAt 5 (some .int) ∈ TB := mT (List.mem_of_getElem? (i := 781) (by decide +kernel)) rfl
theorem ml_X6_125 : Cond.methodLink RX6 125 yX6_byteOf ∈ TB := mT (List.mem_of_getElem? (i := 782) (by decide +kernel)) rfl
theorem im_X6_byteOf : Cond.instanceMethod yX6_byteOf ∈ TB := mT (List.mem_of_getElem? (i := 784) (by decide +kernel)) rfl
theorem cd_X6_byteOf : Cond.code yX6_byteOf cX6_byteOf 3 (some .int) ∈ TB := mT (List.mem_of_getElem? (i := 785) (by decide +kernel)) rfl
theorem ml_L_26 : Cond.methodLink RL 26 yX6_undo ∈ TB := mT (List.mem_of_getElem? (i := 786) (by decide +kernel)) rfl
theorem im_X6_undo : Cond.instanceMethod yX6_undo ∈ TB := mT (List.mem_of_getElem? (i := 787) (by decide +kernel)) rfl
theorem se_X6_undo : Cond.selects RX6 yX6_undo yX6_undo ∈ TB := mT (List.mem_of_getElem? (i := 788) (by decide +kernel)) rfl
theorem cd_X6_undo : Cond.code yX6_undo cX6_undo 1 (some .int) ∈ TB := mT (List.mem_of_getElem? (i := 789) (by decide +kernel)) rfl
theorem ml_L_31 : Cond.methodLink RL 31 yX6_cover ∈ TB := mT (List.mem_of_getElem? (i := 790) (by decide +kernel)) rfl
theorem im_X6_cover : Cond.instanceMethod yX6_cover ∈ TB := mT (List.mem_of_getElem? (i := 791) (by decide +kernel)) rfl
theorem se_X6_cover : Cond.selects RX6 yX6_cover yX6_cover ∈ TB := mT (List.mem_of_getElem? (i := 792) (by decide +kernel)) rfl
theorem cd_X6_cover : Cond.code yX6_cover cX6_cover 6 (some .int) ∈ TB := mT (List.mem_of_getElem? (i := 793) (by decide +kernel)) rfl
theorem ml_X6_106 : Cond.methodLink RX6 106 yX6_isWrite ∈ TB := mT (List.mem_of_getElem? (i := 794) (by decide +kernel)) rfl
theorem im_X6_isWrite : Cond.instanceMethod yX6_isWrite ∈ TB := mT (List.mem_of_getElem? (i := 796) (by decide +kernel)) rfl
theorem cd_X6_isWrite : Cond.code yX6_isWrite cX6_isWrite 2 (some .boolean) ∈ TB := mT (List.mem_of_getElem? (i := 797) (by decide +kernel)) rfl
theorem ml_X6_109 : Cond.methodLink RX6 109 yX6_isCover ∈ TB := mT (List.mem_of_getElem? (i := 798) (by decide +kernel)) rfl
theorem st_X6_isCover : Cond.static yX6_isCover ∈ TB := mT (List.mem_of_getElem? (i := 799) (by decide +kernel)) rfl
theorem cd_X6_isCover : Cond.code yX6_isCover cX6_isCover 4 (some .boolean) ∈ TB := mT (List.mem_of_getElem? (i := 800) (by decide +kernel)) rfl
theorem kl_X6_104 : Cond.constantLong RX6 104 (400) ∈ TB := mT (List.mem_of_getElem? (i := 801) (by decide +kernel)) rfl
theorem ml_X6_101 : Cond.methodLink RX6 101 yX6_isSeal ∈ TB := mT (List.mem_of_getElem? (i := 802) (by decide +kernel)) rfl
theorem im_X6_isSeal : Cond.instanceMethod yX6_isSeal ∈ TB := mT (List.mem_of_getElem? (i := 804) (by decide +kernel)) rfl
theorem cd_X6_isSeal : Cond.code yX6_isSeal cX6_isSeal 2 (some .boolean) ∈ TB := mT (List.mem_of_getElem? (i := 805) (by decide +kernel)) rfl
theorem ml_X6_113 : Cond.methodLink RX6 113 yX6_isClosed ∈ TB := mT (List.mem_of_getElem? (i := 806) (by decide +kernel)) rfl
theorem im_X6_isClosed : Cond.instanceMethod yX6_isClosed ∈ TB := mT (List.mem_of_getElem? (i := 808) (by decide +kernel)) rfl
theorem cd_X6_isClosed : Cond.code yX6_isClosed cX6_isClosed 2 (some .boolean) ∈ TB := mT (List.mem_of_getElem? (i := 809) (by decide +kernel)) rfl
theorem ml_L_36 : Cond.methodLink RL 36 yX6_alter ∈ TB := mT (List.mem_of_getElem? (i := 810) (by decide +kernel)) rfl
theorem im_X6_alter : Cond.instanceMethod yX6_alter ∈ TB := mT (List.mem_of_getElem? (i := 811) (by decide +kernel)) rfl
theorem se_X6_alter : Cond.selects RX6 yX6_alter yX6_alter ∈ TB := mT (List.mem_of_getElem? (i := 812) (by decide +kernel)) rfl
theorem cd_X6_alter : Cond.code yX6_alter cX6_alter 4 (some .int) ∈ TB := mT (List.mem_of_getElem? (i := 813) (by decide +kernel)) rfl
theorem ml_L_41 : Cond.methodLink RL 41 yX6_read ∈ TB := mT (List.mem_of_getElem? (i := 814) (by decide +kernel)) rfl
theorem im_X6_read : Cond.instanceMethod yX6_read ∈ TB := mT (List.mem_of_getElem? (i := 815) (by decide +kernel)) rfl
theorem se_X6_read : Cond.selects RX6 yX6_read yX6_read ∈ TB := mT (List.mem_of_getElem? (i := 816) (by decide +kernel)) rfl
theorem cd_X6_read : Cond.code yX6_read cX6_read 5 (some .int) ∈ TB := mT (List.mem_of_getElem? (i := 817) (by decide +kernel)) rfl
theorem ml_X6_116 : Cond.methodLink RX6 116 yX6_put ∈ TB := mT (List.mem_of_getElem? (i := 818) (by decide +kernel)) rfl
theorem ml_L_53 : Cond.methodLink RL 53 yX6_bytes ∈ TB := mT (List.mem_of_getElem? (i := 819) (by decide +kernel)) rfl
theorem im_X6_bytes : Cond.instanceMethod yX6_bytes ∈ TB := mT (List.mem_of_getElem? (i := 820) (by decide +kernel)) rfl
theorem se_X6_bytes : Cond.selects RX6 yX6_bytes yX6_bytes ∈ TB := mT (List.mem_of_getElem? (i := 821) (by decide +kernel)) rfl
theorem cd_X6_bytes : Cond.code yX6_bytes cX6_bytes 2 (some .int) ∈ TB := mT (List.mem_of_getElem? (i := 822) (by decide +kernel)) rfl
theorem ml_L_45 : Cond.methodLink RL 45 yX6_write ∈ TB := mT (List.mem_of_getElem? (i := 823) (by decide +kernel)) rfl
theorem im_X6_write : Cond.instanceMethod yX6_write ∈ TB := mT (List.mem_of_getElem? (i := 824) (by decide +kernel)) rfl
theorem se_X6_write : Cond.selects RX6 yX6_write yX6_write ∈ TB := mT (List.mem_of_getElem? (i := 825) (by decide +kernel)) rfl
theorem cd_X6_write : Cond.code yX6_write cX6_write 3 (some .int) ∈ TB := mT (List.mem_of_getElem? (i := 826) (by decide +kernel)) rfl
theorem kl_X6_138 : Cond.constantLong RX6 138 (4) ∈ TB := mT (List.mem_of_getElem? (i := 827) (by decide +kernel)) rfl
theorem ml_X6_140 : Cond.methodLink RX6 140 yX6_writeBy ∈ TB := mT (List.mem_of_getElem? (i := 828) (by decide +kernel)) rfl
theorem im_X6_writeBy : Cond.instanceMethod yX6_writeBy ∈ TB := mT (List.mem_of_getElem? (i := 830) (by decide +kernel)) rfl
theorem cd_X6_writeBy : Cond.code yX6_writeBy cX6_writeBy 3 (some .int) ∈ TB := mT (List.mem_of_getElem? (i := 831) (by decide +kernel)) rfl
theorem ml_L_49 : Cond.methodLink RL 49 yX6_revision ∈ TB := mT (List.mem_of_getElem? (i := 832) (by decide +kernel)) rfl
theorem im_X6_revision : Cond.instanceMethod yX6_revision ∈ TB := mT (List.mem_of_getElem? (i := 833) (by decide +kernel)) rfl
theorem se_X6_revision : Cond.selects RX6 yX6_revision yX6_revision ∈ TB := mT (List.mem_of_getElem? (i := 834) (by decide +kernel)) rfl
theorem cd_X6_revision : Cond.code yX6_revision cX6_revision 3 (some .int) ∈ TB := mT (List.mem_of_getElem? (i := 835) (by decide +kernel)) rfl
theorem ml_X6_146 : Cond.methodLink RX6 146 yX6_isRevision ∈ TB := mT (List.mem_of_getElem? (i := 836) (by decide +kernel)) rfl
theorem im_X6_isRevision : Cond.instanceMethod yX6_isRevision ∈ TB := mT (List.mem_of_getElem? (i := 838) (by decide +kernel)) rfl
theorem cd_X6_isRevision : Cond.code yX6_isRevision cX6_isRevision 2 (some .boolean) ∈ TB := mT (List.mem_of_getElem? (i := 839) (by decide +kernel)) rfl
theorem ml_X6_149 : Cond.methodLink RX6 149 yX6_revisionBy ∈ TB := mT (List.mem_of_getElem? (i := 840) (by decide +kernel)) rfl
theorem im_X6_revisionBy : Cond.instanceMethod yX6_revisionBy ∈ TB := mT (List.mem_of_getElem? (i := 842) (by decide +kernel)) rfl
theorem cd_X6_revisionBy : Cond.code yX6_revisionBy cX6_revisionBy 3 (some .int) ∈ TB := mT (List.mem_of_getElem? (i := 843) (by decide +kernel)) rfl
theorem ml_L_57 : Cond.methodLink RL 57 yX6_thing ∈ TB := mT (List.mem_of_getElem? (i := 844) (by decide +kernel)) rfl
theorem im_X6_thing : Cond.instanceMethod yX6_thing ∈ TB := mT (List.mem_of_getElem? (i := 845) (by decide +kernel)) rfl
theorem se_X6_thing : Cond.selects RX6 yX6_thing yX6_thing ∈ TB := mT (List.mem_of_getElem? (i := 846) (by decide +kernel)) rfl
theorem cd_X6_thing : Cond.code yX6_thing cX6_thing 4 (some .int) ∈ TB := mT (List.mem_of_getElem? (i := 847) (by decide +kernel)) rfl
theorem ml_X6_155 : Cond.methodLink RX6 155 yX6_isThing ∈ TB := mT (List.mem_of_getElem? (i := 848) (by decide +kernel)) rfl
theorem st_X6_isThing : Cond.static yX6_isThing ∈ TB := mT (List.mem_of_getElem? (i := 849) (by decide +kernel)) rfl
theorem cd_X6_isThing : Cond.code yX6_isThing cX6_isThing 1 (some .boolean) ∈ TB := mT (List.mem_of_getElem? (i := 850) (by decide +kernel)) rfl
theorem ml_X6_158 : Cond.methodLink RX6 158 yX6_thingBy ∈ TB := mT (List.mem_of_getElem? (i := 851) (by decide +kernel)) rfl
theorem im_X6_thingBy : Cond.instanceMethod yX6_thingBy ∈ TB := mT (List.mem_of_getElem? (i := 853) (by decide +kernel)) rfl
theorem cd_X6_thingBy : Cond.code yX6_thingBy cX6_thingBy 5 (some .int) ∈ TB := mT (List.mem_of_getElem? (i := 854) (by decide +kernel)) rfl
theorem ml_X6_152 : Cond.methodLink RX6 152 yX6_lastOf ∈ TB := mT (List.mem_of_getElem? (i := 855) (by decide +kernel)) rfl
theorem im_X6_lastOf : Cond.instanceMethod yX6_lastOf ∈ TB := mT (List.mem_of_getElem? (i := 857) (by decide +kernel)) rfl
theorem cd_X6_lastOf : Cond.code yX6_lastOf cX6_lastOf 5 (some .int) ∈ TB := mT (List.mem_of_getElem? (i := 858) (by decide +kernel)) rfl
theorem ml_L_61 : Cond.methodLink RL 61 yX6_shadows ∈ TB := mT (List.mem_of_getElem? (i := 859) (by decide +kernel)) rfl
theorem im_X6_shadows : Cond.instanceMethod yX6_shadows ∈ TB := mT (List.mem_of_getElem? (i := 860) (by decide +kernel)) rfl
theorem se_X6_shadows : Cond.selects RX6 yX6_shadows yX6_shadows ∈ TB := mT (List.mem_of_getElem? (i := 861) (by decide +kernel)) rfl
theorem cd_X6_shadows : Cond.code yX6_shadows cX6_shadows 2 (some .int) ∈ TB := mT (List.mem_of_getElem? (i := 862) (by decide +kernel)) rfl
theorem ml_X6_164 : Cond.methodLink RX6 164 yX6_shadowsIn ∈ TB := mT (List.mem_of_getElem? (i := 863) (by decide +kernel)) rfl
theorem im_X6_shadowsIn : Cond.instanceMethod yX6_shadowsIn ∈ TB := mT (List.mem_of_getElem? (i := 865) (by decide +kernel)) rfl
theorem cd_X6_shadowsIn : Cond.code yX6_shadowsIn cX6_shadowsIn 4 (some .int) ∈ TB := mT (List.mem_of_getElem? (i := 866) (by decide +kernel)) rfl
theorem ml_X6_161 : Cond.methodLink RX6 161 yX6_isShadowed ∈ TB := mT (List.mem_of_getElem? (i := 867) (by decide +kernel)) rfl
theorem im_X6_isShadowed : Cond.instanceMethod yX6_isShadowed ∈ TB := mT (List.mem_of_getElem? (i := 869) (by decide +kernel)) rfl
theorem cd_X6_isShadowed : Cond.code yX6_isShadowed cX6_isShadowed 6 (some .boolean) ∈ TB := mT (List.mem_of_getElem? (i := 870) (by decide +kernel)) rfl
theorem ml_L_65 : Cond.methodLink RL 65 yX6_covers ∈ TB := mT (List.mem_of_getElem? (i := 871) (by decide +kernel)) rfl
theorem im_X6_covers : Cond.instanceMethod yX6_covers ∈ TB := mT (List.mem_of_getElem? (i := 872) (by decide +kernel)) rfl
theorem se_X6_covers : Cond.selects RX6 yX6_covers yX6_covers ∈ TB := mT (List.mem_of_getElem? (i := 873) (by decide +kernel)) rfl
theorem cd_X6_covers : Cond.code yX6_covers cX6_covers 3 (some .int) ∈ TB := mT (List.mem_of_getElem? (i := 874) (by decide +kernel)) rfl
theorem ml_L_69 : Cond.methodLink RL 69 yX6_covered ∈ TB := mT (List.mem_of_getElem? (i := 875) (by decide +kernel)) rfl
theorem im_X6_covered : Cond.instanceMethod yX6_covered ∈ TB := mT (List.mem_of_getElem? (i := 876) (by decide +kernel)) rfl
theorem se_X6_covered : Cond.selects RX6 yX6_covered yX6_covered ∈ TB := mT (List.mem_of_getElem? (i := 877) (by decide +kernel)) rfl
theorem cd_X6_covered : Cond.code yX6_covered cX6_covered 2 (some .int) ∈ TB := mT (List.mem_of_getElem? (i := 878) (by decide +kernel)) rfl
theorem ml_X6_176 : Cond.methodLink RX6 176 yX6_coveredBy ∈ TB := mT (List.mem_of_getElem? (i := 879) (by decide +kernel)) rfl
theorem im_X6_coveredBy : Cond.instanceMethod yX6_coveredBy ∈ TB := mT (List.mem_of_getElem? (i := 881) (by decide +kernel)) rfl
theorem cd_X6_coveredBy : Cond.code yX6_coveredBy cX6_coveredBy 5 (some .int) ∈ TB := mT (List.mem_of_getElem? (i := 882) (by decide +kernel)) rfl
theorem ml_L_73 : Cond.methodLink RL 73 yX6_number ∈ TB := mT (List.mem_of_getElem? (i := 883) (by decide +kernel)) rfl
theorem im_X6_number : Cond.instanceMethod yX6_number ∈ TB := mT (List.mem_of_getElem? (i := 884) (by decide +kernel)) rfl
theorem se_X6_number : Cond.selects RX6 yX6_number yX6_number ∈ TB := mT (List.mem_of_getElem? (i := 885) (by decide +kernel)) rfl
theorem cd_X6_number : Cond.code yX6_number cX6_number 3 (some .int) ∈ TB := mT (List.mem_of_getElem? (i := 886) (by decide +kernel)) rfl
theorem ml_X6_182 : Cond.methodLink RX6 182 yX6_numberBy ∈ TB := mT (List.mem_of_getElem? (i := 887) (by decide +kernel)) rfl
theorem im_X6_numberBy : Cond.instanceMethod yX6_numberBy ∈ TB := mT (List.mem_of_getElem? (i := 889) (by decide +kernel)) rfl
theorem cd_X6_numberBy : Cond.code yX6_numberBy cX6_numberBy 3 (some .int) ∈ TB := mT (List.mem_of_getElem? (i := 890) (by decide +kernel)) rfl
theorem ml_X6_179 : Cond.methodLink RX6 179 yX6_isTwo ∈ TB := mT (List.mem_of_getElem? (i := 891) (by decide +kernel)) rfl
theorem st_X6_isTwo : Cond.static yX6_isTwo ∈ TB := mT (List.mem_of_getElem? (i := 892) (by decide +kernel)) rfl
theorem cd_X6_isTwo : Cond.code yX6_isTwo cX6_isTwo 1 (some .boolean) ∈ TB := mT (List.mem_of_getElem? (i := 893) (by decide +kernel)) rfl
theorem ml_L_77 : Cond.methodLink RL 77 yX6_flaws ∈ TB := mT (List.mem_of_getElem? (i := 894) (by decide +kernel)) rfl
theorem im_X6_flaws : Cond.instanceMethod yX6_flaws ∈ TB := mT (List.mem_of_getElem? (i := 895) (by decide +kernel)) rfl
theorem se_X6_flaws : Cond.selects RX6 yX6_flaws yX6_flaws ∈ TB := mT (List.mem_of_getElem? (i := 896) (by decide +kernel)) rfl
theorem cd_X6_flaws : Cond.code yX6_flaws cX6_flaws 2 (some .int) ∈ TB := mT (List.mem_of_getElem? (i := 897) (by decide +kernel)) rfl
theorem ml_X6_185 : Cond.methodLink RX6 185 yX6_flawsOf ∈ TB := mT (List.mem_of_getElem? (i := 898) (by decide +kernel)) rfl
theorem im_X6_flawsOf : Cond.instanceMethod yX6_flawsOf ∈ TB := mT (List.mem_of_getElem? (i := 900) (by decide +kernel)) rfl
theorem cd_X6_flawsOf : Cond.code yX6_flawsOf cX6_flawsOf 3 (some .int) ∈ TB := mT (List.mem_of_getElem? (i := 901) (by decide +kernel)) rfl
theorem ml_L_81 : Cond.methodLink RL 81 yX6_judge ∈ TB := mT (List.mem_of_getElem? (i := 902) (by decide +kernel)) rfl
theorem im_X6_judge : Cond.instanceMethod yX6_judge ∈ TB := mT (List.mem_of_getElem? (i := 903) (by decide +kernel)) rfl
theorem se_X6_judge : Cond.selects RX6 yX6_judge yX6_judge ∈ TB := mT (List.mem_of_getElem? (i := 904) (by decide +kernel)) rfl
theorem cd_X6_judge : Cond.code yX6_judge cX6_judge 3 (some .int) ∈ TB := mT (List.mem_of_getElem? (i := 905) (by decide +kernel)) rfl
theorem ml_X6_216 : Cond.methodLink RX6 216 yX6_judgeBy ∈ TB := mT (List.mem_of_getElem? (i := 906) (by decide +kernel)) rfl
theorem im_X6_judgeBy : Cond.instanceMethod yX6_judgeBy ∈ TB := mT (List.mem_of_getElem? (i := 908) (by decide +kernel)) rfl
theorem cd_X6_judgeBy : Cond.code yX6_judgeBy cX6_judgeBy 3 (some .int) ∈ TB := mT (List.mem_of_getElem? (i := 909) (by decide +kernel)) rfl
theorem ml_X6_207 : Cond.methodLink RX6 207 yX6_verdictOf ∈ TB := mT (List.mem_of_getElem? (i := 910) (by decide +kernel)) rfl
theorem im_X6_verdictOf : Cond.instanceMethod yX6_verdictOf ∈ TB := mT (List.mem_of_getElem? (i := 912) (by decide +kernel)) rfl
theorem cd_X6_verdictOf : Cond.code yX6_verdictOf cX6_verdictOf 4 (some .int) ∈ TB := mT (List.mem_of_getElem? (i := 913) (by decide +kernel)) rfl
theorem ml_X6_201 : Cond.methodLink RX6 201 yX6_sortOf ∈ TB := mT (List.mem_of_getElem? (i := 914) (by decide +kernel)) rfl
theorem im_X6_sortOf : Cond.instanceMethod yX6_sortOf ∈ TB := mT (List.mem_of_getElem? (i := 916) (by decide +kernel)) rfl
theorem cd_X6_sortOf : Cond.code yX6_sortOf cX6_sortOf 10 (some .int) ∈ TB := mT (List.mem_of_getElem? (i := 917) (by decide +kernel)) rfl
theorem ml_X6_191 : Cond.methodLink RX6 191 yX6_kindAt ∈ TB := mT (List.mem_of_getElem? (i := 918) (by decide +kernel)) rfl
theorem im_X6_kindAt : Cond.instanceMethod yX6_kindAt ∈ TB := mT (List.mem_of_getElem? (i := 920) (by decide +kernel)) rfl
theorem cd_X6_kindAt : Cond.code yX6_kindAt cX6_kindAt 2 (some .int) ∈ TB := mT (List.mem_of_getElem? (i := 921) (by decide +kernel)) rfl
theorem ml_X6_194 : Cond.methodLink RX6 194 yX6_isNoteOrNone ∈ TB := mT (List.mem_of_getElem? (i := 922) (by decide +kernel)) rfl
theorem st_X6_isNoteOrNone : Cond.static yX6_isNoteOrNone ∈ TB := mT (List.mem_of_getElem? (i := 923) (by decide +kernel)) rfl
theorem cd_X6_isNoteOrNone : Cond.code yX6_isNoteOrNone cX6_isNoteOrNone 1 (some .boolean) ∈ TB := mT (List.mem_of_getElem? (i := 924) (by decide +kernel)) rfl
theorem ml_X6_197 : Cond.methodLink RX6 197 yX6_isFree ∈ TB := mT (List.mem_of_getElem? (i := 925) (by decide +kernel)) rfl
theorem im_X6_isFree : Cond.instanceMethod yX6_isFree ∈ TB := mT (List.mem_of_getElem? (i := 927) (by decide +kernel)) rfl
theorem cd_X6_isFree : Cond.code yX6_isFree cX6_isFree 6 (some .boolean) ∈ TB := mT (List.mem_of_getElem? (i := 928) (by decide +kernel)) rfl
theorem ml_X6_188 : Cond.methodLink RX6 188 yX6_isIn ∈ TB := mT (List.mem_of_getElem? (i := 929) (by decide +kernel)) rfl
theorem st_X6_isIn : Cond.static yX6_isIn ∈ TB := mT (List.mem_of_getElem? (i := 930) (by decide +kernel)) rfl
theorem cd_X6_isIn : Cond.code yX6_isIn cX6_isIn 2 (some .boolean) ∈ TB := mT (List.mem_of_getElem? (i := 931) (by decide +kernel)) rfl
theorem ml_X6_204 : Cond.methodLink RX6 204 yX6_greater ∈ TB := mT (List.mem_of_getElem? (i := 932) (by decide +kernel)) rfl
theorem st_X6_greater : Cond.static yX6_greater ∈ TB := mT (List.mem_of_getElem? (i := 933) (by decide +kernel)) rfl
theorem cd_X6_greater : Cond.code yX6_greater cX6_greater 2 (some .int) ∈ TB := mT (List.mem_of_getElem? (i := 934) (by decide +kernel)) rfl
theorem ml_X6_210 : Cond.methodLink RX6 210 yX6_manyChanges ∈ TB := mT (List.mem_of_getElem? (i := 935) (by decide +kernel)) rfl
theorem im_X6_manyChanges : Cond.instanceMethod yX6_manyChanges ∈ TB := mT (List.mem_of_getElem? (i := 937) (by decide +kernel)) rfl
theorem cd_X6_manyChanges : Cond.code yX6_manyChanges cX6_manyChanges 5 (some .int) ∈ TB := mT (List.mem_of_getElem? (i := 938) (by decide +kernel)) rfl
theorem ml_X6_213 : Cond.methodLink RX6 213 yX6_isHolding ∈ TB := mT (List.mem_of_getElem? (i := 939) (by decide +kernel)) rfl
theorem im_X6_isHolding : Cond.instanceMethod yX6_isHolding ∈ TB := mT (List.mem_of_getElem? (i := 941) (by decide +kernel)) rfl
theorem cd_X6_isHolding : Cond.code yX6_isHolding cX6_isHolding 3 (some .boolean) ∈ TB := mT (List.mem_of_getElem? (i := 942) (by decide +kernel)) rfl
theorem ml_L_85 : Cond.methodLink RL 85 yX6_change ∈ TB := mT (List.mem_of_getElem? (i := 943) (by decide +kernel)) rfl
theorem im_X6_change : Cond.instanceMethod yX6_change ∈ TB := mT (List.mem_of_getElem? (i := 944) (by decide +kernel)) rfl
theorem se_X6_change : Cond.selects RX6 yX6_change yX6_change ∈ TB := mT (List.mem_of_getElem? (i := 945) (by decide +kernel)) rfl
theorem cd_X6_change : Cond.code yX6_change cX6_change 4 (some .int) ∈ TB := mT (List.mem_of_getElem? (i := 946) (by decide +kernel)) rfl
theorem kl_X6_219 : Cond.constantLong RX6 219 (99) ∈ TB := mT (List.mem_of_getElem? (i := 947) (by decide +kernel)) rfl
theorem ml_X6_221 : Cond.methodLink RX6 221 yX6_changeBy ∈ TB := mT (List.mem_of_getElem? (i := 948) (by decide +kernel)) rfl
theorem im_X6_changeBy : Cond.instanceMethod yX6_changeBy ∈ TB := mT (List.mem_of_getElem? (i := 950) (by decide +kernel)) rfl
theorem cd_X6_changeBy : Cond.code yX6_changeBy cX6_changeBy 7 (some .int) ∈ TB := mT (List.mem_of_getElem? (i := 951) (by decide +kernel)) rfl
theorem ml_L_89 : Cond.methodLink RL 89 yX6_allowed ∈ TB := mT (List.mem_of_getElem? (i := 952) (by decide +kernel)) rfl
theorem im_X6_allowed : Cond.instanceMethod yX6_allowed ∈ TB := mT (List.mem_of_getElem? (i := 953) (by decide +kernel)) rfl
theorem se_X6_allowed : Cond.selects RX6 yX6_allowed yX6_allowed ∈ TB := mT (List.mem_of_getElem? (i := 954) (by decide +kernel)) rfl
theorem cd_X6_allowed : Cond.code yX6_allowed cX6_allowed 2 (some .int) ∈ TB := mT (List.mem_of_getElem? (i := 955) (by decide +kernel)) rfl
theorem ml_X6_224 : Cond.methodLink RX6 224 yX6_allowedIn ∈ TB := mT (List.mem_of_getElem? (i := 956) (by decide +kernel)) rfl
theorem im_X6_allowedIn : Cond.instanceMethod yX6_allowedIn ∈ TB := mT (List.mem_of_getElem? (i := 958) (by decide +kernel)) rfl
theorem cd_X6_allowedIn : Cond.code yX6_allowedIn cX6_allowedIn 4 (some .int) ∈ TB := mT (List.mem_of_getElem? (i := 959) (by decide +kernel)) rfl
theorem ml_L_93 : Cond.methodLink RL 93 yX6_first ∈ TB := mT (List.mem_of_getElem? (i := 960) (by decide +kernel)) rfl
theorem im_X6_first : Cond.instanceMethod yX6_first ∈ TB := mT (List.mem_of_getElem? (i := 961) (by decide +kernel)) rfl
theorem se_X6_first : Cond.selects RX6 yX6_first yX6_first ∈ TB := mT (List.mem_of_getElem? (i := 962) (by decide +kernel)) rfl
theorem cd_X6_first : Cond.code yX6_first cX6_first 2 (some .int) ∈ TB := mT (List.mem_of_getElem? (i := 963) (by decide +kernel)) rfl
theorem ml_X6_227 : Cond.methodLink RX6 227 yX6_firstBy ∈ TB := mT (List.mem_of_getElem? (i := 964) (by decide +kernel)) rfl
theorem im_X6_firstBy : Cond.instanceMethod yX6_firstBy ∈ TB := mT (List.mem_of_getElem? (i := 966) (by decide +kernel)) rfl
theorem cd_X6_firstBy : Cond.code yX6_firstBy cX6_firstBy 4 (some .int) ∈ TB := mT (List.mem_of_getElem? (i := 967) (by decide +kernel)) rfl
theorem ml_L_97 : Cond.methodLink RL 97 yX6_holding ∈ TB := mT (List.mem_of_getElem? (i := 968) (by decide +kernel)) rfl
theorem im_X6_holding : Cond.instanceMethod yX6_holding ∈ TB := mT (List.mem_of_getElem? (i := 969) (by decide +kernel)) rfl
theorem se_X6_holding : Cond.selects RX6 yX6_holding yX6_holding ∈ TB := mT (List.mem_of_getElem? (i := 970) (by decide +kernel)) rfl
theorem cd_X6_holding : Cond.code yX6_holding cX6_holding 2 (some .int) ∈ TB := mT (List.mem_of_getElem? (i := 971) (by decide +kernel)) rfl
theorem ml_X6_239 : Cond.methodLink RX6 239 yX6_holdingBy ∈ TB := mT (List.mem_of_getElem? (i := 972) (by decide +kernel)) rfl
theorem im_X6_holdingBy : Cond.instanceMethod yX6_holdingBy ∈ TB := mT (List.mem_of_getElem? (i := 974) (by decide +kernel)) rfl
theorem cd_X6_holdingBy : Cond.code yX6_holdingBy cX6_holdingBy 2 (some .int) ∈ TB := mT (List.mem_of_getElem? (i := 975) (by decide +kernel)) rfl
theorem ml_X6_230 : Cond.methodLink RX6 230 yX6_looks ∈ TB := mT (List.mem_of_getElem? (i := 976) (by decide +kernel)) rfl
theorem im_X6_looks : Cond.instanceMethod yX6_looks ∈ TB := mT (List.mem_of_getElem? (i := 978) (by decide +kernel)) rfl
theorem cd_X6_looks : Cond.code yX6_looks cX6_looks 2 none ∈ TB := mT (List.mem_of_getElem? (i := 979) (by decide +kernel)) rfl
theorem ml_X6_233 : Cond.methodLink RX6 233 yX6_manyHold ∈ TB := mT (List.mem_of_getElem? (i := 980) (by decide +kernel)) rfl
theorem im_X6_manyHold : Cond.instanceMethod yX6_manyHold ∈ TB := mT (List.mem_of_getElem? (i := 982) (by decide +kernel)) rfl
theorem cd_X6_manyHold : Cond.code yX6_manyHold cX6_manyHold 3 (some .int) ∈ TB := mT (List.mem_of_getElem? (i := 983) (by decide +kernel)) rfl
theorem ml_X6_236 : Cond.methodLink RX6 236 yX6_manySeals ∈ TB := mT (List.mem_of_getElem? (i := 984) (by decide +kernel)) rfl
theorem im_X6_manySeals : Cond.instanceMethod yX6_manySeals ∈ TB := mT (List.mem_of_getElem? (i := 986) (by decide +kernel)) rfl
theorem cd_X6_manySeals : Cond.code yX6_manySeals cX6_manySeals 3 (some .int) ∈ TB := mT (List.mem_of_getElem? (i := 987) (by decide +kernel)) rfl
theorem ml_L_101 : Cond.methodLink RL 101 yX6_better ∈ TB := mT (List.mem_of_getElem? (i := 988) (by decide +kernel)) rfl
theorem im_X6_better : Cond.instanceMethod yX6_better ∈ TB := mT (List.mem_of_getElem? (i := 989) (by decide +kernel)) rfl
theorem se_X6_better : Cond.selects RX6 yX6_better yX6_better ∈ TB := mT (List.mem_of_getElem? (i := 990) (by decide +kernel)) rfl
theorem cd_X6_better : Cond.code yX6_better cX6_better 2 (some .int) ∈ TB := mT (List.mem_of_getElem? (i := 991) (by decide +kernel)) rfl
theorem ml_X6_242 : Cond.methodLink RX6 242 yX6_betterBy ∈ TB := mT (List.mem_of_getElem? (i := 992) (by decide +kernel)) rfl
theorem im_X6_betterBy : Cond.instanceMethod yX6_betterBy ∈ TB := mT (List.mem_of_getElem? (i := 994) (by decide +kernel)) rfl
theorem cd_X6_betterBy : Cond.code yX6_betterBy cX6_betterBy 6 (some .int) ∈ TB := mT (List.mem_of_getElem? (i := 995) (by decide +kernel)) rfl
theorem ml_L_126 : Cond.methodLink RL 126 yX6_tell ∈ TB := mT (List.mem_of_getElem? (i := 996) (by decide +kernel)) rfl
theorem im_X6_tell : Cond.instanceMethod yX6_tell ∈ TB := mT (List.mem_of_getElem? (i := 997) (by decide +kernel)) rfl
theorem se_X6_tell : Cond.selects RX6 yX6_tell yX6_tell ∈ TB := mT (List.mem_of_getElem? (i := 998) (by decide +kernel)) rfl
theorem cd_X6_tell : Cond.code yX6_tell cX6_tell 5 (some .int) ∈ TB := mT (List.mem_of_getElem? (i := 999) (by decide +kernel)) rfl
theorem ml_L_130 : Cond.methodLink RL 130 yX6_count ∈ TB := mT (List.mem_of_getElem? (i := 1000) (by decide +kernel)) rfl
theorem im_X6_count : Cond.instanceMethod yX6_count ∈ TB := mT (List.mem_of_getElem? (i := 1001) (by decide +kernel)) rfl
theorem se_X6_count : Cond.selects RX6 yX6_count yX6_count ∈ TB := mT (List.mem_of_getElem? (i := 1002) (by decide +kernel)) rfl
theorem cd_X6_count : Cond.code yX6_count cX6_count 2 (some .int) ∈ TB := mT (List.mem_of_getElem? (i := 1003) (by decide +kernel)) rfl
theorem ml_X6_245 : Cond.methodLink RX6 245 yX6_manyThere ∈ TB := mT (List.mem_of_getElem? (i := 1004) (by decide +kernel)) rfl
theorem im_X6_manyThere : Cond.instanceMethod yX6_manyThere ∈ TB := mT (List.mem_of_getElem? (i := 1006) (by decide +kernel)) rfl
theorem cd_X6_manyThere : Cond.code yX6_manyThere cX6_manyThere 3 (some .int) ∈ TB := mT (List.mem_of_getElem? (i := 1007) (by decide +kernel)) rfl
theorem ml_X6_248 : Cond.methodLink RX6 248 yX6_manyShadowed ∈ TB := mT (List.mem_of_getElem? (i := 1008) (by decide +kernel)) rfl
theorem im_X6_manyShadowed : Cond.instanceMethod yX6_manyShadowed ∈ TB := mT (List.mem_of_getElem? (i := 1010) (by decide +kernel)) rfl
theorem cd_X6_manyShadowed : Cond.code yX6_manyShadowed cX6_manyShadowed 3 (some .int) ∈ TB := mT (List.mem_of_getElem? (i := 1011) (by decide +kernel)) rfl
theorem ml_L_135 : Cond.methodLink RL 135 yX6_digest ∈ TB := mT (List.mem_of_getElem? (i := 1012) (by decide +kernel)) rfl
theorem im_X6_digest : Cond.instanceMethod yX6_digest ∈ TB := mT (List.mem_of_getElem? (i := 1013) (by decide +kernel)) rfl
theorem se_X6_digest : Cond.selects RX6 yX6_digest yX6_digest ∈ TB := mT (List.mem_of_getElem? (i := 1014) (by decide +kernel)) rfl
theorem cd_X6_digest : Cond.code yX6_digest cX6_digest 5 (some .long) ∈ TB := mT (List.mem_of_getElem? (i := 1015) (by decide +kernel)) rfl
theorem kl_X6_268 : Cond.constantLong RX6 268 (17) ∈ TB := mT (List.mem_of_getElem? (i := 1016) (by decide +kernel)) rfl
theorem kl_X6_251 : Cond.constantLong RX6 251 (31) ∈ TB := mT (List.mem_of_getElem? (i := 1017) (by decide +kernel)) rfl
theorem ml_X6_270 : Cond.methodLink RX6 270 yX6_count ∈ TB := mT (List.mem_of_getElem? (i := 1018) (by decide +kernel)) rfl
theorem ml_X6_273 : Cond.methodLink RX6 273 yX6_revision ∈ TB := mT (List.mem_of_getElem? (i := 1019) (by decide +kernel)) rfl
theorem ml_X6_275 : Cond.methodLink RX6 275 yX6_shadows ∈ TB := mT (List.mem_of_getElem? (i := 1020) (by decide +kernel)) rfl
theorem ml_X6_278 : Cond.methodLink RX6 278 yX6_allowed ∈ TB := mT (List.mem_of_getElem? (i := 1021) (by decide +kernel)) rfl
theorem ml_X6_281 : Cond.methodLink RX6 281 yX6_thing ∈ TB := mT (List.mem_of_getElem? (i := 1022) (by decide +kernel)) rfl
theorem ml_X6_283 : Cond.methodLink RX6 283 yX6_tellsWrite ∈ TB := mT (List.mem_of_getElem? (i := 1023) (by decide +kernel)) rfl
theorem im_X6_tellsWrite : Cond.instanceMethod yX6_tellsWrite ∈ TB := mT (List.mem_of_getElem? (i := 1025) (by decide +kernel)) rfl
theorem cd_X6_tellsWrite : Cond.code yX6_tellsWrite cX6_tellsWrite 8 (some .long) ∈ TB := mT (List.mem_of_getElem? (i := 1026) (by decide +kernel)) rfl
theorem ml_X6_253 : Cond.methodLink RX6 253 yX6_covers ∈ TB := mT (List.mem_of_getElem? (i := 1027) (by decide +kernel)) rfl
theorem ml_X6_256 : Cond.methodLink RX6 256 yX6_covered ∈ TB := mT (List.mem_of_getElem? (i := 1028) (by decide +kernel)) rfl
theorem ml_X6_259 : Cond.methodLink RX6 259 yX6_flaws ∈ TB := mT (List.mem_of_getElem? (i := 1029) (by decide +kernel)) rfl
theorem ml_X6_262 : Cond.methodLink RX6 262 yX6_judge ∈ TB := mT (List.mem_of_getElem? (i := 1030) (by decide +kernel)) rfl
theorem ml_X6_265 : Cond.methodLink RX6 265 yX6_change ∈ TB := mT (List.mem_of_getElem? (i := 1031) (by decide +kernel)) rfl
theorem ml_X6_287 : Cond.methodLink RX6 287 yX6_bytes ∈ TB := mT (List.mem_of_getElem? (i := 1032) (by decide +kernel)) rfl
theorem se_X2_startRow : Cond.selects RX2 yX2_startRow yX2_startRow ∈ TB := mS (List.mem_of_getElem? (i := 0) (by decide +kernel)) rfl
theorem se_X2_takeWrites : Cond.selects RX2 yX2_takeWrites yX2_takeWrites ∈ TB := mS (List.mem_of_getElem? (i := 1) (by decide +kernel)) rfl
theorem se_X2_thingsThere : Cond.selects RX2 yX2_thingsThere yX2_thingsThere ∈ TB := mS (List.mem_of_getElem? (i := 2) (by decide +kernel)) rfl
theorem se_X2_noteChanges : Cond.selects RX2 yX2_noteChanges yX2_noteChanges ∈ TB := mS (List.mem_of_getElem? (i := 3) (by decide +kernel)) rfl
theorem se_X2_isOther : Cond.selects RX2 yX2_isOther yX2_isOther ∈ TB := mS (List.mem_of_getElem? (i := 4) (by decide +kernel)) rfl
theorem se_X2_judgeBehind : Cond.selects RX2 yX2_judgeBehind yX2_judgeBehind ∈ TB := mS (List.mem_of_getElem? (i := 5) (by decide +kernel)) rfl
theorem se_X5_takeWrite : Cond.selects RX5 yX5_takeWrite yX5_takeWrite ∈ TB := mS (List.mem_of_getElem? (i := 6) (by decide +kernel)) rfl
theorem se_X5_reckon : Cond.selects RX5 yX5_reckon yX5_reckon ∈ TB := mS (List.mem_of_getElem? (i := 7) (by decide +kernel)) rfl
theorem se_X1_numberNow : Cond.selects RX1 yX1_numberNow yX1_numberNow ∈ TB := mS (List.mem_of_getElem? (i := 8) (by decide +kernel)) rfl
theorem se_X1_edgeIfUntold : Cond.selects RX1 yX1_edgeIfUntold yX1_edgeIfUntold ∈ TB := mS (List.mem_of_getElem? (i := 9) (by decide +kernel)) rfl
theorem se_X1_flawsOfEdges : Cond.selects RX1 yX1_flawsOfEdges yX1_flawsOfEdges ∈ TB := mS (List.mem_of_getElem? (i := 10) (by decide +kernel)) rfl
theorem se_X5_find : Cond.selects RX5 yX5_find yX5_find ∈ TB := mS (List.mem_of_getElem? (i := 11) (by decide +kernel)) rfl
theorem se_X5_holds : Cond.selects RX5 yX5_holds yX5_holds ∈ TB := mS (List.mem_of_getElem? (i := 12) (by decide +kernel)) rfl
theorem se_X5_firstSealAgainst : Cond.selects RX5 yX5_firstSealAgainst yX5_firstSealAgainst ∈ TB := mS (List.mem_of_getElem? (i := 13) (by decide +kernel)) rfl
theorem se_X5_howManyHold : Cond.selects RX5 yX5_howManyHold yX5_howManyHold ∈ TB := mS (List.mem_of_getElem? (i := 14) (by decide +kernel)) rfl
theorem se_X5_howManyClosedSeals : Cond.selects RX5 yX5_howManyClosedSeals yX5_howManyClosedSeals ∈ TB := mS (List.mem_of_getElem? (i := 15) (by decide +kernel)) rfl
theorem se_X5_howManyShadowed : Cond.selects RX5 yX5_howManyShadowed yX5_howManyShadowed ∈ TB := mS (List.mem_of_getElem? (i := 16) (by decide +kernel)) rfl
theorem se_X5_digestRevision : Cond.selects RX5 yX5_digestRevision yX5_digestRevision ∈ TB := mS (List.mem_of_getElem? (i := 17) (by decide +kernel)) rfl
theorem se_X5_digestThing : Cond.selects RX5 yX5_digestThing yX5_digestThing ∈ TB := mS (List.mem_of_getElem? (i := 18) (by decide +kernel)) rfl
theorem se_X5_digestWrite : Cond.selects RX5 yX5_digestWrite yX5_digestWrite ∈ TB := mS (List.mem_of_getElem? (i := 19) (by decide +kernel)) rfl
theorem se_X5_digestChanges : Cond.selects RX5 yX5_digestChanges yX5_digestChanges ∈ TB := mS (List.mem_of_getElem? (i := 20) (by decide +kernel)) rfl
theorem se_X5_digestFile : Cond.selects RX5 yX5_digestFile yX5_digestFile ∈ TB := mS (List.mem_of_getElem? (i := 21) (by decide +kernel)) rfl
theorem se_X6_finds : Cond.selects RX6 yX6_finds yX6_finds ∈ TB := mS (List.mem_of_getElem? (i := 22) (by decide +kernel)) rfl
theorem se_X6_lacks : Cond.selects RX6 yX6_lacks yX6_lacks ∈ TB := mS (List.mem_of_getElem? (i := 23) (by decide +kernel)) rfl
theorem se_X6_manyOf : Cond.selects RX6 yX6_manyOf yX6_manyOf ∈ TB := mS (List.mem_of_getElem? (i := 24) (by decide +kernel)) rfl
theorem se_X6_numberOf : Cond.selects RX6 yX6_numberOf yX6_numberOf ∈ TB := mS (List.mem_of_getElem? (i := 25) (by decide +kernel)) rfl
theorem se_X6_coverOf : Cond.selects RX6 yX6_coverOf yX6_coverOf ∈ TB := mS (List.mem_of_getElem? (i := 26) (by decide +kernel)) rfl
theorem se_X6_usual : Cond.selects RX6 yX6_usual yX6_usual ∈ TB := mS (List.mem_of_getElem? (i := 27) (by decide +kernel)) rfl
theorem se_X6_placeOf : Cond.selects RX6 yX6_placeOf yX6_placeOf ∈ TB := mS (List.mem_of_getElem? (i := 28) (by decide +kernel)) rfl
theorem se_X6_endOf : Cond.selects RX6 yX6_endOf yX6_endOf ∈ TB := mS (List.mem_of_getElem? (i := 29) (by decide +kernel)) rfl
theorem se_X6_beginOf : Cond.selects RX6 yX6_beginOf yX6_beginOf ∈ TB := mS (List.mem_of_getElem? (i := 30) (by decide +kernel)) rfl
theorem se_X6_firstOf : Cond.selects RX6 yX6_firstOf yX6_firstOf ∈ TB := mS (List.mem_of_getElem? (i := 31) (by decide +kernel)) rfl
theorem se_X6_allBytes : Cond.selects RX6 yX6_allBytes yX6_allBytes ∈ TB := mS (List.mem_of_getElem? (i := 32) (by decide +kernel)) rfl
theorem se_X6_byteAt : Cond.selects RX6 yX6_byteAt yX6_byteAt ∈ TB := mS (List.mem_of_getElem? (i := 33) (by decide +kernel)) rfl
theorem se_X6_byteOf : Cond.selects RX6 yX6_byteOf yX6_byteOf ∈ TB := mS (List.mem_of_getElem? (i := 34) (by decide +kernel)) rfl
theorem se_X6_isWrite : Cond.selects RX6 yX6_isWrite yX6_isWrite ∈ TB := mS (List.mem_of_getElem? (i := 35) (by decide +kernel)) rfl
theorem se_X6_isSeal : Cond.selects RX6 yX6_isSeal yX6_isSeal ∈ TB := mS (List.mem_of_getElem? (i := 36) (by decide +kernel)) rfl
theorem se_X6_isClosed : Cond.selects RX6 yX6_isClosed yX6_isClosed ∈ TB := mS (List.mem_of_getElem? (i := 37) (by decide +kernel)) rfl
theorem se_X6_writeBy : Cond.selects RX6 yX6_writeBy yX6_writeBy ∈ TB := mS (List.mem_of_getElem? (i := 38) (by decide +kernel)) rfl
theorem se_X6_isRevision : Cond.selects RX6 yX6_isRevision yX6_isRevision ∈ TB := mS (List.mem_of_getElem? (i := 39) (by decide +kernel)) rfl
theorem se_X6_revisionBy : Cond.selects RX6 yX6_revisionBy yX6_revisionBy ∈ TB := mS (List.mem_of_getElem? (i := 40) (by decide +kernel)) rfl
theorem se_X6_thingBy : Cond.selects RX6 yX6_thingBy yX6_thingBy ∈ TB := mS (List.mem_of_getElem? (i := 41) (by decide +kernel)) rfl
theorem se_X6_lastOf : Cond.selects RX6 yX6_lastOf yX6_lastOf ∈ TB := mS (List.mem_of_getElem? (i := 42) (by decide +kernel)) rfl
theorem se_X6_shadowsIn : Cond.selects RX6 yX6_shadowsIn yX6_shadowsIn ∈ TB := mS (List.mem_of_getElem? (i := 43) (by decide +kernel)) rfl
theorem se_X6_isShadowed : Cond.selects RX6 yX6_isShadowed yX6_isShadowed ∈ TB := mS (List.mem_of_getElem? (i := 44) (by decide +kernel)) rfl
theorem se_X6_coveredBy : Cond.selects RX6 yX6_coveredBy yX6_coveredBy ∈ TB := mS (List.mem_of_getElem? (i := 45) (by decide +kernel)) rfl
theorem se_X6_numberBy : Cond.selects RX6 yX6_numberBy yX6_numberBy ∈ TB := mS (List.mem_of_getElem? (i := 46) (by decide +kernel)) rfl
theorem se_X6_flawsOf : Cond.selects RX6 yX6_flawsOf yX6_flawsOf ∈ TB := mS (List.mem_of_getElem? (i := 47) (by decide +kernel)) rfl
theorem se_X6_judgeBy : Cond.selects RX6 yX6_judgeBy yX6_judgeBy ∈ TB := mS (List.mem_of_getElem? (i := 48) (by decide +kernel)) rfl
theorem se_X6_verdictOf : Cond.selects RX6 yX6_verdictOf yX6_verdictOf ∈ TB := mS (List.mem_of_getElem? (i := 49) (by decide +kernel)) rfl
theorem se_X6_sortOf : Cond.selects RX6 yX6_sortOf yX6_sortOf ∈ TB := mS (List.mem_of_getElem? (i := 50) (by decide +kernel)) rfl
theorem se_X6_kindAt : Cond.selects RX6 yX6_kindAt yX6_kindAt ∈ TB := mS (List.mem_of_getElem? (i := 51) (by decide +kernel)) rfl
theorem se_X6_isFree : Cond.selects RX6 yX6_isFree yX6_isFree ∈ TB := mS (List.mem_of_getElem? (i := 52) (by decide +kernel)) rfl
theorem se_X6_manyChanges : Cond.selects RX6 yX6_manyChanges yX6_manyChanges ∈ TB := mS (List.mem_of_getElem? (i := 53) (by decide +kernel)) rfl
theorem se_X6_isHolding : Cond.selects RX6 yX6_isHolding yX6_isHolding ∈ TB := mS (List.mem_of_getElem? (i := 54) (by decide +kernel)) rfl
theorem se_X6_changeBy : Cond.selects RX6 yX6_changeBy yX6_changeBy ∈ TB := mS (List.mem_of_getElem? (i := 55) (by decide +kernel)) rfl
theorem se_X6_allowedIn : Cond.selects RX6 yX6_allowedIn yX6_allowedIn ∈ TB := mS (List.mem_of_getElem? (i := 56) (by decide +kernel)) rfl
theorem se_X6_firstBy : Cond.selects RX6 yX6_firstBy yX6_firstBy ∈ TB := mS (List.mem_of_getElem? (i := 57) (by decide +kernel)) rfl
theorem se_X6_holdingBy : Cond.selects RX6 yX6_holdingBy yX6_holdingBy ∈ TB := mS (List.mem_of_getElem? (i := 58) (by decide +kernel)) rfl
theorem se_X6_looks : Cond.selects RX6 yX6_looks yX6_looks ∈ TB := mS (List.mem_of_getElem? (i := 59) (by decide +kernel)) rfl
theorem se_X6_manyHold : Cond.selects RX6 yX6_manyHold yX6_manyHold ∈ TB := mS (List.mem_of_getElem? (i := 60) (by decide +kernel)) rfl
theorem se_X6_manySeals : Cond.selects RX6 yX6_manySeals yX6_manySeals ∈ TB := mS (List.mem_of_getElem? (i := 61) (by decide +kernel)) rfl
theorem se_X6_betterBy : Cond.selects RX6 yX6_betterBy yX6_betterBy ∈ TB := mS (List.mem_of_getElem? (i := 62) (by decide +kernel)) rfl
theorem se_X6_manyThere : Cond.selects RX6 yX6_manyThere yX6_manyThere ∈ TB := mS (List.mem_of_getElem? (i := 63) (by decide +kernel)) rfl
theorem se_X6_manyShadowed : Cond.selects RX6 yX6_manyShadowed yX6_manyShadowed ∈ TB := mS (List.mem_of_getElem? (i := 64) (by decide +kernel)) rfl
theorem se_X6_tellsWrite : Cond.selects RX6 yX6_tellsWrite yX6_tellsWrite ∈ TB := mS (List.mem_of_getElem? (i := 65) (by decide +kernel)) rfl
theorem ly_X0_0 : u_lay RX0 TX0 0 ∈ TB := mT (List.mem_of_getElem? (i := 73) (by decide +kernel)) rfl
theorem ly_X0_1 : u_lay RX0 TX0 1 ∈ TB := mT (List.mem_of_getElem? (i := 75) (by decide +kernel)) rfl
theorem inX0 : ∀ w ∈ u_ws RX0 TX0 2, w ∈ TB := by
  intro w h
  obtain ⟨k, hk, rfl⟩ := List.mem_map.mp h
  have hk := List.mem_range.mp hk
  match k, hk with
  | 0, _ => exact ly_X0_0
  | 1, _ => exact ly_X0_1
  | k + 2, h => exact absurd h (by omega)
theorem ly_X1_0 : u_lay RX1 TX1 0 ∈ TB := mT (List.mem_of_getElem? (i := 94) (by decide +kernel)) rfl
theorem ly_X1_1 : u_lay RX1 TX1 1 ∈ TB := mT (List.mem_of_getElem? (i := 96) (by decide +kernel)) rfl
theorem ly_X1_2 : u_lay RX1 TX1 2 ∈ TB := mT (List.mem_of_getElem? (i := 98) (by decide +kernel)) rfl
theorem ly_X1_3 : u_lay RX1 TX1 3 ∈ TB := mT (List.mem_of_getElem? (i := 100) (by decide +kernel)) rfl
theorem ly_X1_4 : u_lay RX1 TX1 4 ∈ TB := mT (List.mem_of_getElem? (i := 102) (by decide +kernel)) rfl
theorem ly_X1_5 : u_lay RX1 TX1 5 ∈ TB := mT (List.mem_of_getElem? (i := 104) (by decide +kernel)) rfl
theorem ly_X1_6 : u_lay RX1 TX1 6 ∈ TB := mT (List.mem_of_getElem? (i := 106) (by decide +kernel)) rfl
theorem inX1 : ∀ w ∈ u_ws RX1 TX1 7, w ∈ TB := by
  intro w h
  obtain ⟨k, hk, rfl⟩ := List.mem_map.mp h
  have hk := List.mem_range.mp hk
  match k, hk with
  | 0, _ => exact ly_X1_0
  | 1, _ => exact ly_X1_1
  | 2, _ => exact ly_X1_2
  | 3, _ => exact ly_X1_3
  | 4, _ => exact ly_X1_4
  | 5, _ => exact ly_X1_5
  | 6, _ => exact ly_X1_6
  | k + 7, h => exact absurd h (by omega)
theorem ly_X2_0 : u_lay RX2 TX2 0 ∈ TB := mT (List.mem_of_getElem? (i := 134) (by decide +kernel)) rfl
theorem ly_X2_1 : u_lay RX2 TX2 1 ∈ TB := mT (List.mem_of_getElem? (i := 136) (by decide +kernel)) rfl
theorem ly_X2_2 : u_lay RX2 TX2 2 ∈ TB := mT (List.mem_of_getElem? (i := 138) (by decide +kernel)) rfl
theorem ly_X2_3 : u_lay RX2 TX2 3 ∈ TB := mT (List.mem_of_getElem? (i := 140) (by decide +kernel)) rfl
theorem ly_X2_4 : u_lay RX2 TX2 4 ∈ TB := mT (List.mem_of_getElem? (i := 142) (by decide +kernel)) rfl
theorem ly_X2_5 : u_lay RX2 TX2 5 ∈ TB := mT (List.mem_of_getElem? (i := 144) (by decide +kernel)) rfl
theorem ly_X2_6 : u_lay RX2 TX2 6 ∈ TB := mT (List.mem_of_getElem? (i := 146) (by decide +kernel)) rfl
theorem ly_X2_7 : u_lay RX2 TX2 7 ∈ TB := mT (List.mem_of_getElem? (i := 148) (by decide +kernel)) rfl
theorem ly_X2_8 : u_lay RX2 TX2 8 ∈ TB := mT (List.mem_of_getElem? (i := 150) (by decide +kernel)) rfl
theorem ly_X2_9 : u_lay RX2 TX2 9 ∈ TB := mT (List.mem_of_getElem? (i := 152) (by decide +kernel)) rfl
theorem inX2 : ∀ w ∈ u_ws RX2 TX2 10, w ∈ TB := by
  intro w h
  obtain ⟨k, hk, rfl⟩ := List.mem_map.mp h
  have hk := List.mem_range.mp hk
  match k, hk with
  | 0, _ => exact ly_X2_0
  | 1, _ => exact ly_X2_1
  | 2, _ => exact ly_X2_2
  | 3, _ => exact ly_X2_3
  | 4, _ => exact ly_X2_4
  | 5, _ => exact ly_X2_5
  | 6, _ => exact ly_X2_6
  | 7, _ => exact ly_X2_7
  | 8, _ => exact ly_X2_8
  | 9, _ => exact ly_X2_9
  | k + 10, h => exact absurd h (by omega)
theorem ly_X3_0 : u_lay RX3 TX3 0 ∈ TB := mT (List.mem_of_getElem? (i := 170) (by decide +kernel)) rfl
theorem ly_X3_1 : u_lay RX3 TX3 1 ∈ TB := mT (List.mem_of_getElem? (i := 172) (by decide +kernel)) rfl
theorem ly_X3_2 : u_lay RX3 TX3 2 ∈ TB := mT (List.mem_of_getElem? (i := 174) (by decide +kernel)) rfl
theorem ly_X3_3 : u_lay RX3 TX3 3 ∈ TB := mT (List.mem_of_getElem? (i := 176) (by decide +kernel)) rfl
theorem inX3 : ∀ w ∈ u_ws RX3 TX3 4, w ∈ TB := by
  intro w h
  obtain ⟨k, hk, rfl⟩ := List.mem_map.mp h
  have hk := List.mem_range.mp hk
  match k, hk with
  | 0, _ => exact ly_X3_0
  | 1, _ => exact ly_X3_1
  | 2, _ => exact ly_X3_2
  | 3, _ => exact ly_X3_3
  | k + 4, h => exact absurd h (by omega)
theorem ly_X4_0 : u_lay RX4 TX4 0 ∈ TB := mT (List.mem_of_getElem? (i := 47) (by decide +kernel)) rfl
theorem ly_X4_1 : u_lay RX4 TX4 1 ∈ TB := mT (List.mem_of_getElem? (i := 49) (by decide +kernel)) rfl
theorem ly_X4_2 : u_lay RX4 TX4 2 ∈ TB := mT (List.mem_of_getElem? (i := 51) (by decide +kernel)) rfl
theorem ly_X4_3 : u_lay RX4 TX4 3 ∈ TB := mT (List.mem_of_getElem? (i := 53) (by decide +kernel)) rfl
theorem ly_X4_4 : u_lay RX4 TX4 4 ∈ TB := mT (List.mem_of_getElem? (i := 55) (by decide +kernel)) rfl
theorem ly_X4_5 : u_lay RX4 TX4 5 ∈ TB := mT (List.mem_of_getElem? (i := 57) (by decide +kernel)) rfl
theorem ly_X4_6 : u_lay RX4 TX4 6 ∈ TB := mT (List.mem_of_getElem? (i := 59) (by decide +kernel)) rfl
theorem inX4 : ∀ w ∈ u_ws RX4 TX4 7, w ∈ TB := by
  intro w h
  obtain ⟨k, hk, rfl⟩ := List.mem_map.mp h
  have hk := List.mem_range.mp hk
  match k, hk with
  | 0, _ => exact ly_X4_0
  | 1, _ => exact ly_X4_1
  | 2, _ => exact ly_X4_2
  | 3, _ => exact ly_X4_3
  | 4, _ => exact ly_X4_4
  | 5, _ => exact ly_X4_5
  | 6, _ => exact ly_X4_6
  | k + 7, h => exact absurd h (by omega)
theorem ly_X5_0 : u_lay RX5 TX5 0 ∈ TB := mT (List.mem_of_getElem? (i := 255) (by decide +kernel)) rfl
theorem ly_X5_1 : u_lay RX5 TX5 1 ∈ TB := mT (List.mem_of_getElem? (i := 257) (by decide +kernel)) rfl
theorem ly_X5_2 : u_lay RX5 TX5 2 ∈ TB := mT (List.mem_of_getElem? (i := 259) (by decide +kernel)) rfl
theorem ly_X5_3 : u_lay RX5 TX5 3 ∈ TB := mT (List.mem_of_getElem? (i := 261) (by decide +kernel)) rfl
theorem ly_X5_4 : u_lay RX5 TX5 4 ∈ TB := mT (List.mem_of_getElem? (i := 263) (by decide +kernel)) rfl
theorem ly_X5_5 : u_lay RX5 TX5 5 ∈ TB := mT (List.mem_of_getElem? (i := 265) (by decide +kernel)) rfl
theorem ly_X5_6 : u_lay RX5 TX5 6 ∈ TB := mT (List.mem_of_getElem? (i := 267) (by decide +kernel)) rfl
theorem inX5 : ∀ w ∈ u_ws RX5 TX5 7, w ∈ TB := by
  intro w h
  obtain ⟨k, hk, rfl⟩ := List.mem_map.mp h
  have hk := List.mem_range.mp hk
  match k, hk with
  | 0, _ => exact ly_X5_0
  | 1, _ => exact ly_X5_1
  | 2, _ => exact ly_X5_2
  | 3, _ => exact ly_X5_3
  | 4, _ => exact ly_X5_4
  | 5, _ => exact ly_X5_5
  | 6, _ => exact ly_X5_6
  | k + 7, h => exact absurd h (by omega)
theorem ly_X6_0 : u_lay RX6 TX6 0 ∈ TB := mT (List.mem_of_getElem? (i := 652) (by decide +kernel)) rfl
theorem ly_X6_1 : u_lay RX6 TX6 1 ∈ TB := mT (List.mem_of_getElem? (i := 654) (by decide +kernel)) rfl
theorem ly_X6_2 : u_lay RX6 TX6 2 ∈ TB := mT (List.mem_of_getElem? (i := 656) (by decide +kernel)) rfl
theorem ly_X6_3 : u_lay RX6 TX6 3 ∈ TB := mT (List.mem_of_getElem? (i := 658) (by decide +kernel)) rfl
theorem ly_X6_4 : u_lay RX6 TX6 4 ∈ TB := mT (List.mem_of_getElem? (i := 660) (by decide +kernel)) rfl
theorem ly_X6_5 : u_lay RX6 TX6 5 ∈ TB := mT (List.mem_of_getElem? (i := 662) (by decide +kernel)) rfl
theorem ly_X6_6 : u_lay RX6 TX6 6 ∈ TB := mT (List.mem_of_getElem? (i := 664) (by decide +kernel)) rfl
theorem ly_X6_7 : u_lay RX6 TX6 7 ∈ TB := mT (List.mem_of_getElem? (i := 666) (by decide +kernel)) rfl
theorem ly_X6_8 : u_lay RX6 TX6 8 ∈ TB := mT (List.mem_of_getElem? (i := 668) (by decide +kernel)) rfl
theorem ly_X6_9 : u_lay RX6 TX6 9 ∈ TB := mT (List.mem_of_getElem? (i := 670) (by decide +kernel)) rfl
theorem ly_X6_10 : u_lay RX6 TX6 10 ∈ TB := mT (List.mem_of_getElem? (i := 672) (by decide +kernel)) rfl
theorem ly_X6_11 : u_lay RX6 TX6 11 ∈ TB := mT (List.mem_of_getElem? (i := 674) (by decide +kernel)) rfl
theorem ly_X6_12 : u_lay RX6 TX6 12 ∈ TB := mT (List.mem_of_getElem? (i := 676) (by decide +kernel)) rfl
theorem ly_X6_13 : u_lay RX6 TX6 13 ∈ TB := mT (List.mem_of_getElem? (i := 678) (by decide +kernel)) rfl
theorem ly_X6_14 : u_lay RX6 TX6 14 ∈ TB := mT (List.mem_of_getElem? (i := 680) (by decide +kernel)) rfl
theorem ly_X6_15 : u_lay RX6 TX6 15 ∈ TB := mT (List.mem_of_getElem? (i := 682) (by decide +kernel)) rfl
theorem inX6 : ∀ w ∈ u_ws RX6 TX6 16, w ∈ TB := by
  intro w h
  obtain ⟨k, hk, rfl⟩ := List.mem_map.mp h
  have hk := List.mem_range.mp hk
  match k, hk with
  | 0, _ => exact ly_X6_0
  | 1, _ => exact ly_X6_1
  | 2, _ => exact ly_X6_2
  | 3, _ => exact ly_X6_3
  | 4, _ => exact ly_X6_4
  | 5, _ => exact ly_X6_5
  | 6, _ => exact ly_X6_6
  | 7, _ => exact ly_X6_7
  | 8, _ => exact ly_X6_8
  | 9, _ => exact ly_X6_9
  | 10, _ => exact ly_X6_10
  | 11, _ => exact ly_X6_11
  | 12, _ => exact ly_X6_12
  | 13, _ => exact ly_X6_13
  | 14, _ => exact ly_X6_14
  | 15, _ => exact ly_X6_15
  | k + 16, h => exact absurd h (by omega)
