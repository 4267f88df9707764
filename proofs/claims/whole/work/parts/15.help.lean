theorem mi_L : Cond.initialized RL ∈ tp_W := tp_W_of (tm_1 (List.mem_of_getElem? (i := 0) rfl)) rfl
theorem ml_L_26 : Cond.methodLink RL 26 yX10_sign ∈ tp_W := tp_W_of (tm_2 (List.mem_of_getElem? (i := 87) rfl)) rfl
theorem ml_L_31 : Cond.methodLink RL 31 yX10_end ∈ tp_W := tp_W_of (tm_2 (List.mem_of_getElem? (i := 99) rfl)) rfl
theorem ml_L_36 : Cond.methodLink RL 36 yX10_net ∈ tp_W := tp_W_of (tm_2 (List.mem_of_getElem? (i := 107) rfl)) rfl
theorem ml_L_41 : Cond.methodLink RL 41 yX10_rule ∈ tp_W := tp_W_of (tm_2 (List.mem_of_getElem? (i := 147) rfl)) rfl
theorem ml_L_57 : Cond.methodLink RL 57 yX10_sheet ∈ tp_W := tp_W_of (tm_2 (List.mem_of_getElem? (i := 198) rfl)) rfl
theorem ml_L_62 : Cond.methodLink RL 62 yX10_comes ∈ tp_W := tp_W_of (tm_2 (List.mem_of_getElem? (i := 217) rfl)) rfl
theorem ml_L_66 : Cond.methodLink RL 66 yX10_goes ∈ tp_W := tp_W_of (tm_3 (List.mem_of_getElem? (i := 3) rfl)) rfl
theorem ml_L_70 : Cond.methodLink RL 70 yX10_walks ∈ tp_W := tp_W_of (tm_3 (List.mem_of_getElem? (i := 65) rfl)) rfl
theorem ml_L_74 : Cond.methodLink RL 74 yX10_bursts ∈ tp_W := tp_W_of (tm_3 (List.mem_of_getElem? (i := 78) rfl)) rfl
theorem ml_L_78 : Cond.methodLink RL 78 yX10_calms ∈ tp_W := tp_W_of (tm_3 (List.mem_of_getElem? (i := 100) rfl)) rfl
theorem ml_L_82 : Cond.methodLink RL 82 yX10_points ∈ tp_W := tp_W_of (tm_3 (List.mem_of_getElem? (i := 132) rfl)) rfl
theorem ml_L_86 : Cond.methodLink RL 86 yX10_day ∈ tp_W := tp_W_of (tm_3 (List.mem_of_getElem? (i := 141) rfl)) rfl
theorem ml_L_90 : Cond.methodLink RL 90 yX10_undo ∈ tp_W := tp_W_of (tm_3 (List.mem_of_getElem? (i := 164) rfl)) rfl
theorem ml_L_94 : Cond.methodLink RL 94 yX10_later ∈ tp_W := tp_W_of (tm_3 (List.mem_of_getElem? (i := 180) rfl)) rfl
theorem ml_L_98 : Cond.methodLink RL 98 yX10_home ∈ tp_W := tp_W_of (tm_3 (List.mem_of_getElem? (i := 184) rfl)) rfl
theorem ml_L_102 : Cond.methodLink RL 102 yX10_pass ∈ tp_W := tp_W_of (tm_3 (List.mem_of_getElem? (i := 188) rfl)) rfl
theorem ml_L_107 : Cond.methodLink RL 107 yX10_round ∈ tp_W := tp_W_of (tm_3 (List.mem_of_getElem? (i := 192) rfl)) rfl
theorem ml_L_111 : Cond.methodLink RL 111 yX10_follows ∈ tp_W := tp_W_of (tm_3 (List.mem_of_getElem? (i := 200) rfl)) rfl
theorem ml_L_115 : Cond.methodLink RL 115 yX10_tree ∈ tp_W := tp_W_of (tm_3 (List.mem_of_getElem? (i := 214) rfl)) rfl
theorem ml_L_119 : Cond.methodLink RL 119 yX10_trees ∈ tp_W := tp_W_of (tm_3 (List.mem_of_getElem? (i := 222) rfl)) rfl
theorem ml_L_123 : Cond.methodLink RL 123 yX10_plants ∈ tp_W := tp_W_of (tm_4 (List.mem_of_getElem? (i := 5) rfl)) rfl
theorem ml_L_127 : Cond.methodLink RL 127 yX10_grown ∈ tp_W := tp_W_of (tm_4 (List.mem_of_getElem? (i := 9) rfl)) rfl
theorem ml_L_131 : Cond.methodLink RL 131 yX10_mends ∈ tp_W := tp_W_of (tm_4 (List.mem_of_getElem? (i := 13) rfl)) rfl
theorem ml_L_135 : Cond.methodLink RL 135 yX10_route ∈ tp_W := tp_W_of (tm_4 (List.mem_of_getElem? (i := 30) rfl)) rfl
theorem ml_L_139 : Cond.methodLink RL 139 yX10_gates ∈ tp_W := tp_W_of (tm_4 (List.mem_of_getElem? (i := 45) rfl)) rfl
theorem ml_L_143 : Cond.methodLink RL 143 yX10_parish ∈ tp_W := tp_W_of (tm_4 (List.mem_of_getElem? (i := 53) rfl)) rfl
theorem ml_L_147 : Cond.methodLink RL 147 yX10_mean ∈ tp_W := tp_W_of (tm_4 (List.mem_of_getElem? (i := 62) rfl)) rfl
theorem ml_L_151 : Cond.methodLink RL 151 yX10_meets ∈ tp_W := tp_W_of (tm_4 (List.mem_of_getElem? (i := 77) rfl)) rfl
theorem ml_L_155 : Cond.methodLink RL 155 yX10_odds ∈ tp_W := tp_W_of (tm_4 (List.mem_of_getElem? (i := 81) rfl)) rfl
theorem ml_L_159 : Cond.methodLink RL 159 yX10_ready ∈ tp_W := tp_W_of (tm_4 (List.mem_of_getElem? (i := 95) rfl)) rfl
theorem ml_L_163 : Cond.methodLink RL 163 yX10_unit ∈ tp_W := tp_W_of (tm_4 (List.mem_of_getElem? (i := 99) rfl)) rfl
theorem ml_L_167 : Cond.methodLink RL 167 yX10_returns ∈ tp_W := tp_W_of (tm_4 (List.mem_of_getElem? (i := 112) rfl)) rfl
theorem ml_L_171 : Cond.methodLink RL 171 yX10_joins ∈ tp_W := tp_W_of (tm_4 (List.mem_of_getElem? (i := 128) rfl)) rfl
theorem ml_L_175 : Cond.methodLink RL 175 yX10_recurs ∈ tp_W := tp_W_of (tm_4 (List.mem_of_getElem? (i := 141) rfl)) rfl
theorem ml_L_179 : Cond.methodLink RL 179 yX10_trigger ∈ tp_W := tp_W_of (tm_4 (List.mem_of_getElem? (i := 145) rfl)) rfl
theorem ml_L_183 : Cond.methodLink RL 183 yX10_seen ∈ tp_W := tp_W_of (tm_4 (List.mem_of_getElem? (i := 149) rfl)) rfl
theorem ml_L_187 : Cond.methodLink RL 187 yX10_forget ∈ tp_W := tp_W_of (tm_4 (List.mem_of_getElem? (i := 161) rfl)) rfl
theorem ml_L_191 : Cond.methodLink RL 191 yX10_guess ∈ tp_W := tp_W_of (tm_4 (List.mem_of_getElem? (i := 165) rfl)) rfl
theorem ml_L_195 : Cond.methodLink RL 195 yX10_looks ∈ tp_W := tp_W_of (tm_4 (List.mem_of_getElem? (i := 189) rfl)) rfl
theorem ml_L_199 : Cond.methodLink RL 199 yX10_heard ∈ tp_W := tp_W_of (tm_4 (List.mem_of_getElem? (i := 201) rfl)) rfl
theorem ml_L_203 : Cond.methodLink RL 203 yX10_denies ∈ tp_W := tp_W_of (tm_4 (List.mem_of_getElem? (i := 216) rfl)) rfl
theorem ml_L_207 : Cond.methodLink RL 207 yX10_fits ∈ tp_W := tp_W_of (tm_4 (List.mem_of_getElem? (i := 220) rfl)) rfl
theorem ml_L_211 : Cond.methodLink RL 211 yX10_asks ∈ tp_W := tp_W_of (tm_5 (List.mem_of_getElem? (i := 9) rfl)) rfl
theorem ml_L_215 : Cond.methodLink RL 215 yX10_crowds ∈ tp_W := tp_W_of (tm_5 (List.mem_of_getElem? (i := 13) rfl)) rfl
theorem ml_L_219 : Cond.methodLink RL 219 yX10_law ∈ tp_W := tp_W_of (tm_5 (List.mem_of_getElem? (i := 21) rfl)) rfl
theorem ml_L_223 : Cond.methodLink RL 223 yX10_waits ∈ tp_W := tp_W_of (tm_5 (List.mem_of_getElem? (i := 29) rfl)) rfl
theorem ml_L_227 : Cond.methodLink RL 227 yX10_years ∈ tp_W := tp_W_of (tm_5 (List.mem_of_getElem? (i := 39) rfl)) rfl
theorem ml_L_231 : Cond.methodLink RL 231 yX10_keep ∈ tp_W := tp_W_of (tm_5 (List.mem_of_getElem? (i := 50) rfl)) rfl
theorem ml_L_235 : Cond.methodLink RL 235 yX10_again ∈ tp_W := tp_W_of (tm_5 (List.mem_of_getElem? (i := 58) rfl)) rfl
theorem ml_L_239 : Cond.methodLink RL 239 yX10_count ∈ tp_W := tp_W_of (tm_5 (List.mem_of_getElem? (i := 66) rfl)) rfl
theorem ml_L_45 : Cond.methodLink RL 45 yL_post ∈ tp_W := tp_W_of (tm_5 (List.mem_of_getElem? (i := 82) rfl)) rfl
theorem ml_L_7 : Cond.methodLink RL 7 yX10_post ∈ tp_W := tp_W_of (tm_5 (List.mem_of_getElem? (i := 86) rfl)) rfl
theorem ml_L_54 : Cond.methodLink RL 54 yL_way ∈ tp_W := tp_W_of (tm_5 (List.mem_of_getElem? (i := 155) rfl)) rfl
theorem ml_L_15 : Cond.methodLink RL 15 yX10_way ∈ tp_W := tp_W_of (tm_5 (List.mem_of_getElem? (i := 158) rfl)) rfl
theorem ml_L_243 : Cond.methodLink RL 243 yL_row ∈ tp_W := tp_W_of (tm_5 (List.mem_of_getElem? (i := 162) rfl)) rfl
theorem ml_L_18 : Cond.methodLink RL 18 yX10_row ∈ tp_W := tp_W_of (tm_5 (List.mem_of_getElem? (i := 165) rfl)) rfl
theorem ml_L_51 : Cond.methodLink RL 51 yX11_thrown ∈ tp_W := tp_W_of (tm_5 (List.mem_of_getElem? (i := 173) rfl)) rfl
theorem ml_L_30 : Cond.methodLink RL 30 yX11_sign ∈ tp_W := tp_W_of (tm_6 (List.mem_of_getElem? (i := 100) rfl)) rfl
theorem ml_L_35 : Cond.methodLink RL 35 yX11_end ∈ tp_W := tp_W_of (tm_6 (List.mem_of_getElem? (i := 104) rfl)) rfl
theorem ml_L_40 : Cond.methodLink RL 40 yX11_net ∈ tp_W := tp_W_of (tm_6 (List.mem_of_getElem? (i := 111) rfl)) rfl
theorem ml_L_44 : Cond.methodLink RL 44 yX11_rule ∈ tp_W := tp_W_of (tm_6 (List.mem_of_getElem? (i := 152) rfl)) rfl
theorem ml_L_50 : Cond.methodLink RL 50 yX11_post ∈ tp_W := tp_W_of (tm_7 (List.mem_of_getElem? (i := 1) rfl)) rfl
theorem ml_L_56 : Cond.methodLink RL 56 yX11_way ∈ tp_W := tp_W_of (tm_7 (List.mem_of_getElem? (i := 35) rfl)) rfl
theorem ml_L_61 : Cond.methodLink RL 61 yX11_sheet ∈ tp_W := tp_W_of (tm_7 (List.mem_of_getElem? (i := 43) rfl)) rfl
theorem ml_L_93 : Cond.methodLink RL 93 yX11_undo ∈ tp_W := tp_W_of (tm_7 (List.mem_of_getElem? (i := 52) rfl)) rfl
theorem ml_L_65 : Cond.methodLink RL 65 yX11_comes ∈ tp_W := tp_W_of (tm_7 (List.mem_of_getElem? (i := 60) rfl)) rfl
theorem ml_L_69 : Cond.methodLink RL 69 yX11_goes ∈ tp_W := tp_W_of (tm_7 (List.mem_of_getElem? (i := 81) rfl)) rfl
theorem ml_L_73 : Cond.methodLink RL 73 yX11_walks ∈ tp_W := tp_W_of (tm_7 (List.mem_of_getElem? (i := 105) rfl)) rfl
theorem ml_L_77 : Cond.methodLink RL 77 yX11_bursts ∈ tp_W := tp_W_of (tm_7 (List.mem_of_getElem? (i := 116) rfl)) rfl
theorem ml_L_81 : Cond.methodLink RL 81 yX11_calms ∈ tp_W := tp_W_of (tm_7 (List.mem_of_getElem? (i := 128) rfl)) rfl
theorem ml_L_85 : Cond.methodLink RL 85 yX11_points ∈ tp_W := tp_W_of (tm_7 (List.mem_of_getElem? (i := 140) rfl)) rfl
theorem ml_L_89 : Cond.methodLink RL 89 yX11_day ∈ tp_W := tp_W_of (tm_7 (List.mem_of_getElem? (i := 148) rfl)) rfl
theorem ml_L_97 : Cond.methodLink RL 97 yX11_later ∈ tp_W := tp_W_of (tm_7 (List.mem_of_getElem? (i := 161) rfl)) rfl
theorem ml_L_101 : Cond.methodLink RL 101 yX11_home ∈ tp_W := tp_W_of (tm_7 (List.mem_of_getElem? (i := 173) rfl)) rfl
theorem ml_L_106 : Cond.methodLink RL 106 yX11_pass ∈ tp_W := tp_W_of (tm_7 (List.mem_of_getElem? (i := 181) rfl)) rfl
theorem ml_L_110 : Cond.methodLink RL 110 yX11_round ∈ tp_W := tp_W_of (tm_7 (List.mem_of_getElem? (i := 186) rfl)) rfl
theorem ml_L_114 : Cond.methodLink RL 114 yX11_follows ∈ tp_W := tp_W_of (tm_7 (List.mem_of_getElem? (i := 194) rfl)) rfl
theorem ml_L_118 : Cond.methodLink RL 118 yX11_tree ∈ tp_W := tp_W_of (tm_7 (List.mem_of_getElem? (i := 198) rfl)) rfl
theorem ml_L_122 : Cond.methodLink RL 122 yX11_trees ∈ tp_W := tp_W_of (tm_7 (List.mem_of_getElem? (i := 210) rfl)) rfl
theorem ml_L_126 : Cond.methodLink RL 126 yX11_plants ∈ tp_W := tp_W_of (tm_7 (List.mem_of_getElem? (i := 222) rfl)) rfl
theorem ml_L_130 : Cond.methodLink RL 130 yX11_grown ∈ tp_W := tp_W_of (tm_7 (List.mem_of_getElem? (i := 231) rfl)) rfl
theorem ml_L_134 : Cond.methodLink RL 134 yX11_mends ∈ tp_W := tp_W_of (tm_7 (List.mem_of_getElem? (i := 235) rfl)) rfl
theorem ml_L_138 : Cond.methodLink RL 138 yX11_route ∈ tp_W := tp_W_of (tm_7 (List.mem_of_getElem? (i := 239) rfl)) rfl
theorem ml_L_142 : Cond.methodLink RL 142 yX11_gates ∈ tp_W := tp_W_of (tm_8 (List.mem_of_getElem? (i := 3) rfl)) rfl
theorem ml_L_146 : Cond.methodLink RL 146 yX11_parish ∈ tp_W := tp_W_of (tm_8 (List.mem_of_getElem? (i := 12) rfl)) rfl
theorem ml_L_150 : Cond.methodLink RL 150 yX11_mean ∈ tp_W := tp_W_of (tm_8 (List.mem_of_getElem? (i := 24) rfl)) rfl
theorem ml_L_154 : Cond.methodLink RL 154 yX11_meets ∈ tp_W := tp_W_of (tm_8 (List.mem_of_getElem? (i := 50) rfl)) rfl
theorem ml_L_158 : Cond.methodLink RL 158 yX11_odds ∈ tp_W := tp_W_of (tm_8 (List.mem_of_getElem? (i := 54) rfl)) rfl
theorem ml_L_162 : Cond.methodLink RL 162 yX11_ready ∈ tp_W := tp_W_of (tm_8 (List.mem_of_getElem? (i := 60) rfl)) rfl
theorem ml_L_166 : Cond.methodLink RL 166 yX11_unit ∈ tp_W := tp_W_of (tm_8 (List.mem_of_getElem? (i := 64) rfl)) rfl
theorem ml_L_170 : Cond.methodLink RL 170 yX11_returns ∈ tp_W := tp_W_of (tm_8 (List.mem_of_getElem? (i := 76) rfl)) rfl
theorem ml_L_174 : Cond.methodLink RL 174 yX11_joins ∈ tp_W := tp_W_of (tm_8 (List.mem_of_getElem? (i := 88) rfl)) rfl
theorem ml_L_178 : Cond.methodLink RL 178 yX11_recurs ∈ tp_W := tp_W_of (tm_8 (List.mem_of_getElem? (i := 93) rfl)) rfl
theorem ml_L_182 : Cond.methodLink RL 182 yX11_trigger ∈ tp_W := tp_W_of (tm_8 (List.mem_of_getElem? (i := 97) rfl)) rfl
theorem ml_L_186 : Cond.methodLink RL 186 yX11_seen ∈ tp_W := tp_W_of (tm_8 (List.mem_of_getElem? (i := 101) rfl)) rfl
theorem ml_L_190 : Cond.methodLink RL 190 yX11_forget ∈ tp_W := tp_W_of (tm_8 (List.mem_of_getElem? (i := 106) rfl)) rfl
theorem ml_L_194 : Cond.methodLink RL 194 yX11_guess ∈ tp_W := tp_W_of (tm_8 (List.mem_of_getElem? (i := 110) rfl)) rfl
theorem ml_L_198 : Cond.methodLink RL 198 yX11_looks ∈ tp_W := tp_W_of (tm_8 (List.mem_of_getElem? (i := 122) rfl)) rfl
theorem ml_L_202 : Cond.methodLink RL 202 yX11_heard ∈ tp_W := tp_W_of (tm_8 (List.mem_of_getElem? (i := 126) rfl)) rfl
theorem ml_L_206 : Cond.methodLink RL 206 yX11_denies ∈ tp_W := tp_W_of (tm_8 (List.mem_of_getElem? (i := 136) rfl)) rfl
theorem ml_L_210 : Cond.methodLink RL 210 yX11_fits ∈ tp_W := tp_W_of (tm_8 (List.mem_of_getElem? (i := 140) rfl)) rfl
theorem ml_L_214 : Cond.methodLink RL 214 yX11_asks ∈ tp_W := tp_W_of (tm_8 (List.mem_of_getElem? (i := 152) rfl)) rfl
theorem ml_L_218 : Cond.methodLink RL 218 yX11_crowds ∈ tp_W := tp_W_of (tm_8 (List.mem_of_getElem? (i := 156) rfl)) rfl
theorem ml_L_222 : Cond.methodLink RL 222 yX11_law ∈ tp_W := tp_W_of (tm_8 (List.mem_of_getElem? (i := 169) rfl)) rfl
theorem ml_L_226 : Cond.methodLink RL 226 yX11_waits ∈ tp_W := tp_W_of (tm_8 (List.mem_of_getElem? (i := 177) rfl)) rfl
theorem ml_L_230 : Cond.methodLink RL 230 yX11_years ∈ tp_W := tp_W_of (tm_8 (List.mem_of_getElem? (i := 188) rfl)) rfl
theorem ml_L_234 : Cond.methodLink RL 234 yX11_keep ∈ tp_W := tp_W_of (tm_8 (List.mem_of_getElem? (i := 201) rfl)) rfl
theorem ml_L_238 : Cond.methodLink RL 238 yX11_again ∈ tp_W := tp_W_of (tm_8 (List.mem_of_getElem? (i := 205) rfl)) rfl
theorem ml_L_242 : Cond.methodLink RL 242 yX11_count ∈ tp_W := tp_W_of (tm_8 (List.mem_of_getElem? (i := 209) rfl)) rfl
theorem ml_L_246 : Cond.methodLink RL 246 yX11_row ∈ tp_W := tp_W_of (tm_8 (List.mem_of_getElem? (i := 213) rfl)) rfl
theorem mc_L_post : Cond.codeWith yL_post cL_post 5 (some .int) [(0, 10, 13, 13)] ∈ tp_W := tp_W_of (tm_5 (List.mem_of_getElem? (i := 84) rfl)) rfl
theorem ms_L_post : Cond.static yL_post ∈ tp_W := tp_W_of (tm_5 (List.mem_of_getElem? (i := 83) rfl)) rfl
theorem mc_L_way : Cond.codeWith yL_way cL_way 5 (some .int) [(0, 10, 13, 13)] ∈ tp_W := tp_W_of (tm_5 (List.mem_of_getElem? (i := 157) rfl)) rfl
theorem ms_L_way : Cond.static yL_way ∈ tp_W := tp_W_of (tm_5 (List.mem_of_getElem? (i := 156) rfl)) rfl
theorem mc_L_row : Cond.codeWith yL_row cL_row 4 (some .int) [(0, 8, 11, 13)] ∈ tp_W := tp_W_of (tm_5 (List.mem_of_getElem? (i := 164) rfl)) rfl
theorem ms_L_row : Cond.static yL_row ∈ tp_W := tp_W_of (tm_5 (List.mem_of_getElem? (i := 163) rfl)) rfl
theorem cl_L_13 : Cond.classLink RL 13 "java/util/NoSuchElementException" ∈ tp_W := tp_W_of (tm_5 (List.mem_of_getElem? (i := 85) rfl)) rfl
def tp_out (X : tp_X) (o : Nat) (v : Int) : va_W := [(o, .inl (X.2.2.1 1, 1, .inr (.inl (fun _ => Int64.ofInt v))))]
def tp_Ao (X : tp_X) (o : Nat) : Nat → Prop := fun q => tp_A X.2.2.2.2 64 q ∨ q = o
/-- a helper's contract: its answer k, the class's memory, what stands in the one long -/
def tp_RetH (X : tp_X) (y : MethodName) (cw : Cond) (dep : Nat) (o : Nat) (av : List Value) (M : tp_M) (v k : Int) (M1 : tp_M) (v1 : Int) : Prop :=
  Met X.1 y (cw :: tp_W) (tp_rmX dep) (va_Pc av (fun U => tp_B X LC 64 M U ∧ va_P X.2.1 tp_cl (tp_out X o v) U.heap)) (va_Qi (fun r (_ : Unit) => r = Int32.ofInt k) (fun _ t => tp_P X LC 64 M1 t.heap ∧ va_P X.2.1 tp_cl (tp_out X o v1) t.heap) (tp_Ao X o)) 1 6 (tp_Ao X o)
theorem tp_out_D {X : tp_X} {o : Nat} {v : Int} : va_D (tp_Ao X o) (tp_out X o v) := by
  refine ⟨fun i j p q hi hj _ => ?_, fun k q hk => ?_⟩
  · have h1 : i < 1 := (List.getElem?_eq_some_iff.mp hi).1
    have h2 : j < 1 := (List.getElem?_eq_some_iff.mp hj).1
    omega
  · have h1 : k < 1 := (List.getElem?_eq_some_iff.mp hk).1
    obtain rfl : k = 0 := by omega
    cases hk
    exact Or.inr rfl
theorem tp_out_kept {X : tp_X} {o : Nat} {v : Int} {H H1 : Heap} (h : va_P X.2.1 tp_cl (tp_out X o v) H) (hq : H1[o]? = H[o]?) : va_P X.2.1 tp_cl (tp_out X o v) H1 := fun k q hk => by
  have h1 : k < 1 := (List.getElem?_eq_some_iff.mp hk).1
  obtain rfl : k = 0 := by omega
  have h8 := h 0 q hk
  cases hk
  exact h8.kept hq
theorem tp_P_kept {X : tp_X} {L : Nat → tp_K} {N : Nat} {M : tp_M} {H H1 : Heap} (h : tp_P X L N M H) (hq : ∀ q, tp_A X.2.2.2.2 N q → q < H.size → H1[q]? = H[q]?) : tp_P X L N M H1 := fun k q hk => by
  have h8 := h k q hk
  have h9 := tp_ws_ge hk
  refine h8.kept (hq q.1 ?_ h8.lt)
  rw [h9.2]
  exact ⟨by simp, by simp; exact h9.1⟩
theorem tp_out_lt {X : tp_X} {o : Nat} {v : Int} {H : Heap} (h : va_P X.2.1 tp_cl (tp_out X o v) H) : o < H.size := (h 0 _ rfl).lt
set_option maxRecDepth 100000 in
set_option maxHeartbeats 4000000 in
theorem help_post (X : tp_X) (hTX : tp_TX X 64) {o : Nat} (hoA : ¬ tp_A X.2.2.2.2 64 o) {p0 p1 v : Int} {M : tp_M} {res : Int × tp_M} (h : fx_X10_post p0 p1 M = some res) : tp_RetH X yL_post (Cond.codeWith yL_post cL_post 5 (some .int) [(0, 10, 13, 13)]) 13 o [vR X 0, vI p0, vI p1, .ref o] M v (if res.1 = tp_TH then 1 else 0) res.2 (if res.1 = tp_TH then v else w32 res.1) := by
  refine va_MetW (cc := cL_post) (maxL := 5) (ret := some .int) (hh := [(0, 10, 13, 13)]) (by decide +kernel) rfl ?_
  intro p e s m args below meth c s₁ B hml hv
  obtain ⟨rfl, ⟨hP, hK, hNW, hE, hst⟩, hPo⟩ := hv
  have hx := B.exec
  have hb := B.bytes
  have hr := B.returns
  have hlk := B.notSynchronized
  have hts0 := atoms_spec (ws := (Cond.codeWith yL_post cL_post 5 (some .int) [(0, 10, 13, 13)]) :: tp_W) B.pre
  have hts : ∀ w ∈ tp_W, w.before _ s = true := fun w hw => hts0 w (List.mem_cons_of_mem _ hw)
  have hown : s.vm.findClass RL = some m.cls := findClass_of_methodNamed B.named
  have htab : c.exceptionTable.toList = tableOf [(0, 10, 13, 13)] := vx_table (x := yL_post) B (hts0 _ List.mem_cons_self)
  have hl := lv_entry ([vR X 0, vI p0, vI p1, .ref o]) (n := 5) (Nat.le_of_ble_eq_true rfl)
  rw [lg_entry_eq]
  generalize (lg_sl ([vR X 0, vI p0, vI p1, .ref o]) ++ List.replicate (5 - (lg_sl ([vR X 0, vI p0, vI p1, .ref o])).length) Slot.unset).toArray = ls at hl ⊢
  have hl : lv_has ls 5 [(0, vR X 0), (1, vI p0), (2, vI p1), (3, .ref o)] := hl
  have hS : va_S (tp_Ao X o) s.heap s.heap [] := va_S.rf
  refine lv_aload_n hx hb dL_post_0 rfl (lv_at hl 3 rfl) ?_
  refine lv_iconst (v := 0) hx hb dL_post_1 (by decide) ?_
  refine lv_aload_n hx hb dL_post_2 rfl (lv_at hl 0 rfl) ?_
  refine lv_iload_n hx hb dL_post_3 rfl (lv_at hl 1 rfl) ?_
  refine lv_iload_n hx hb dL_post_4 rfl (lv_at hl 2 rfl) ?_
  refine vx_calli (vx_runV (As := [vI p0, vI p1]) (rest := [.int 0, .ref o]) ⟨hx, hb, hml, hown, hts⟩ (ok_X10_post X hTX h) (cwV (Ts := tp_W) 2 hts (tp_Gd (fun w hwm => by
      rcases List.mem_append.mp hwm with q | q
      · simp only [List.mem_cons, List.not_mem_nil, or_false] at q
        rcases q with q | q | q | q
        · rw [q]; exact ml_L_7
        · rw [q]; exact mn_X10_post
        · rw [q]; exact mse_X10_post
        · rw [q]; exact mi_X10
      · rcases List.mem_cons.mp q with q | q
        · rw [q]; exact mc_X10_post
        · exact q)) rfl rfl rfl ⟨rfl, by decide +kernel⟩ (by decide)) ⟨tp_blind, va_recv hK hP (ci := 10) (q0 := 0) rfl (by rw [tp_ws_at (by decide)]; rfl), fun U hU hW => ⟨rfl, tp_pre hP va_S.rf hK hNW hE hst hU hW⟩⟩ rfl rfl hl.1 rfl (lv_room (Nat.le_of_ble_eq_true rfl)) dL_post_5 ⟨Nat.le_refl _, Nat.le_refl _⟩) hS (fun q _ h => Or.inl h) (fun q h => Or.inl h) (fun q _ h => Or.inl h) ?_ ?_
  · intro E ce q9 u t H1 locs1 ht hvm hpx hBX hz1 hk1 hS1 hce hcv hcl
    obtain ⟨rfl, hPx⟩ := hBX
    have hpx : res.1 = tp_TH := hpx
    rw [ht] at hPx
    have hPo1 := tp_out_kept hPo (hk1 o (tp_out_lt hPo) hoA)
    refine vx_catch (name := "java/util/NoSuchElementException") hown [] { startPc := 0, endPc := 10, handlerPc := 13, catchType := 13 } [] (by rw [htab]; rfl) (fun z hz => by cases hz) (by decide) (by decide) (hts _ cl_L_13) (va_Nw.use rfl (((hTX.2 s hE).1) _ (by simp [tp_thw]))) hce hcv hcl ?_
    refine lv_astore (lv' := [(4, .ref q9), (0, vR X 0), (1, vI p0), (2, vI p1), (3, .ref o)]) hx hb dL_post_13 hl (by decide) rfl (fun ls hl => ?_)
    refine lv_iconst (v := 1) hx hb dL_post_15 (by decide) ?_
    refine W.widen (k := 1) (n := 6) (by decide) (by decide) ?_
    exact W.iret hx hb hr (fun t ht _ => ⟨⟨_, (), rfl, by rw [if_pos hpx]; rfl, by show tp_P X LC 64 res.2 t.heap ∧ _; rw [ht, if_pos hpx]; exact ⟨hPx, hPo1⟩⟩, by rw [va_F]; exact ⟨by rw [ht]; exact hS1.1, fun q h1 h2 => by rw [ht]; exact hS1.2.1 q h1 h2⟩⟩) (fun q hq => hS1.2.2 q hq) dL_post_16 hlk
  · intro r u t H1 locs1 ht hvm hpr hB hz1 hk1 hS2
    obtain ⟨rfl, hne⟩ := hpr
    have hPx : tp_P X LC 64 res.2 t.heap := hB
    rw [ht] at hPx
    have hPo2 := tp_out_kept hPo (hk1 o (tp_out_lt hPo) hoA)
    refine lv_i2l hx hb dL_post_8 (wi_l res.1) ?_
    refine W.last hx hb (hPo2 0 _ rfl) ((hK.2 1 _ rfl).1 1 (fun _ => .long (Int64.ofInt v))) (fun q => by cases q) (by show ¬ ((0 : Int32) < 0 ∨ (arrV _ _ _).slots.size ≤ _); rw [arrV_size]; exact (by decide : ¬ ((0 : Int32) < 0 ∨ 1 ≤ Int32.toNatClampNeg 0))) rfl rfl dL_post_9 fun H3 e3 z3 oq3 => ?_
    have oq3 : ∀ q : Nat, q ≠ o → H3[q]? = H1[q]? := oq3
    have hS3 := hS2.put z3 oq3 (Or.inr rfl : tp_Ao X o o) (k := (0 : Int32).toNatClampNeg)
    have hPx3 : tp_P X LC 64 res.2 H3 := tp_P_kept hPx (fun q hq _ => oq3 q (fun e9 => hoA (e9 ▸ hq)))
    have hPo3 : va_P X.2.1 tp_cl (tp_out X o (w32 res.1)) H3 := fun k q hk => by
      have h1 : k < 1 := (List.getElem?_eq_some_iff.mp hk).1
      obtain rfl : k = 0 := by omega
      cases hk
      show H3[o]? = some (vp_cell (X.2.2.1 1) (1, .inr (.inl (fun _ => Int64.ofInt (w32 res.1)))))
      rw [e3]
      show some ((arrV (X.2.2.1 1) 1 (fun _ => .long (Int64.ofInt v))).setSlot 0 (.long (Int64.ofInt (w32 res.1)))) = some (arrV (X.2.2.1 1) 1 (fun _ => .long (Int64.ofInt (w32 res.1))))
      simp only [arrV, Cell.setSlot]
      congr 2
    refine W.eq (g2 := F0 m 10 ls []) rfl ?_
    refine lv_goto (tgt := 17) hx hb dL_post_10 (by decide) ?_
    refine lv_iconst (v := 0) hx hb dL_post_17 (by decide) ?_
    refine W.widen (k := 1) (n := 6) (by decide) (by decide) ?_
    exact W.iret hx hb hr (fun t ht _ => ⟨⟨_, (), rfl, by rw [if_neg hne]; rfl, by show tp_P X LC 64 res.2 t.heap ∧ _; rw [ht, if_neg hne]; exact ⟨hPx3, hPo3⟩⟩, by rw [va_F]; exact ⟨by rw [ht]; exact hS3.1, fun q h1 h2 => by rw [ht]; exact hS3.2.1 q h1 h2⟩⟩) (fun q hq => hS3.2.2 q hq) dL_post_18 hlk
set_option maxRecDepth 100000 in
set_option maxHeartbeats 4000000 in
theorem help_way (X : tp_X) (hTX : tp_TX X 64) {o : Nat} (hoA : ¬ tp_A X.2.2.2.2 64 o) {p0 p1 v : Int} {M : tp_M} {res : Int × tp_M} (h : fx_X10_way p0 p1 M = some res) : tp_RetH X yL_way (Cond.codeWith yL_way cL_way 5 (some .int) [(0, 10, 13, 13)]) 12 o [vR X 0, vI p0, vI p1, .ref o] M v (if res.1 = tp_TH then 1 else 0) res.2 (if res.1 = tp_TH then v else w32 res.1) := by
  refine va_MetW (cc := cL_way) (maxL := 5) (ret := some .int) (hh := [(0, 10, 13, 13)]) (by decide +kernel) rfl ?_
  intro p e s m args below meth c s₁ B hml hv
  obtain ⟨rfl, ⟨hP, hK, hNW, hE, hst⟩, hPo⟩ := hv
  have hx := B.exec
  have hb := B.bytes
  have hr := B.returns
  have hlk := B.notSynchronized
  have hts0 := atoms_spec (ws := (Cond.codeWith yL_way cL_way 5 (some .int) [(0, 10, 13, 13)]) :: tp_W) B.pre
  have hts : ∀ w ∈ tp_W, w.before _ s = true := fun w hw => hts0 w (List.mem_cons_of_mem _ hw)
  have hown : s.vm.findClass RL = some m.cls := findClass_of_methodNamed B.named
  have htab : c.exceptionTable.toList = tableOf [(0, 10, 13, 13)] := vx_table (x := yL_way) B (hts0 _ List.mem_cons_self)
  have hl := lv_entry ([vR X 0, vI p0, vI p1, .ref o]) (n := 5) (Nat.le_of_ble_eq_true rfl)
  rw [lg_entry_eq]
  generalize (lg_sl ([vR X 0, vI p0, vI p1, .ref o]) ++ List.replicate (5 - (lg_sl ([vR X 0, vI p0, vI p1, .ref o])).length) Slot.unset).toArray = ls at hl ⊢
  have hl : lv_has ls 5 [(0, vR X 0), (1, vI p0), (2, vI p1), (3, .ref o)] := hl
  have hS : va_S (tp_Ao X o) s.heap s.heap [] := va_S.rf
  refine lv_aload_n hx hb dL_way_0 rfl (lv_at hl 3 rfl) ?_
  refine lv_iconst (v := 0) hx hb dL_way_1 (by decide) ?_
  refine lv_aload_n hx hb dL_way_2 rfl (lv_at hl 0 rfl) ?_
  refine lv_iload_n hx hb dL_way_3 rfl (lv_at hl 1 rfl) ?_
  refine lv_iload_n hx hb dL_way_4 rfl (lv_at hl 2 rfl) ?_
  refine vx_calli (vx_runV (As := [vI p0, vI p1]) (rest := [.int 0, .ref o]) ⟨hx, hb, hml, hown, hts⟩ (ok_X10_way X hTX h) (cwV (Ts := tp_W) 2 hts (tp_Gd (fun w hwm => by
      rcases List.mem_append.mp hwm with q | q
      · simp only [List.mem_cons, List.not_mem_nil, or_false] at q
        rcases q with q | q | q | q
        · rw [q]; exact ml_L_15
        · rw [q]; exact mn_X10_way
        · rw [q]; exact mse_X10_way
        · rw [q]; exact mi_X10
      · rcases List.mem_cons.mp q with q | q
        · rw [q]; exact mc_X10_way
        · exact q)) rfl rfl rfl ⟨rfl, by decide +kernel⟩ (by decide)) ⟨tp_blind, va_recv hK hP (ci := 10) (q0 := 0) rfl (by rw [tp_ws_at (by decide)]; rfl), fun U hU hW => ⟨rfl, tp_pre hP va_S.rf hK hNW hE hst hU hW⟩⟩ rfl rfl hl.1 rfl (lv_room (Nat.le_of_ble_eq_true rfl)) dL_way_5 ⟨Nat.le_refl _, Nat.le_refl _⟩) hS (fun q _ h => Or.inl h) (fun q h => Or.inl h) (fun q _ h => Or.inl h) ?_ ?_
  · intro E ce q9 u t H1 locs1 ht hvm hpx hBX hz1 hk1 hS1 hce hcv hcl
    obtain ⟨rfl, hPx⟩ := hBX
    have hpx : res.1 = tp_TH := hpx
    rw [ht] at hPx
    have hPo1 := tp_out_kept hPo (hk1 o (tp_out_lt hPo) hoA)
    refine vx_catch (name := "java/util/NoSuchElementException") hown [] { startPc := 0, endPc := 10, handlerPc := 13, catchType := 13 } [] (by rw [htab]; rfl) (fun z hz => by cases hz) (by decide) (by decide) (hts _ cl_L_13) (va_Nw.use rfl (((hTX.2 s hE).1) _ (by simp [tp_thw]))) hce hcv hcl ?_
    refine lv_astore (lv' := [(4, .ref q9), (0, vR X 0), (1, vI p0), (2, vI p1), (3, .ref o)]) hx hb dL_way_13 hl (by decide) rfl (fun ls hl => ?_)
    refine lv_iconst (v := 1) hx hb dL_way_15 (by decide) ?_
    refine W.widen (k := 1) (n := 6) (by decide) (by decide) ?_
    exact W.iret hx hb hr (fun t ht _ => ⟨⟨_, (), rfl, by rw [if_pos hpx]; rfl, by show tp_P X LC 64 res.2 t.heap ∧ _; rw [ht, if_pos hpx]; exact ⟨hPx, hPo1⟩⟩, by rw [va_F]; exact ⟨by rw [ht]; exact hS1.1, fun q h1 h2 => by rw [ht]; exact hS1.2.1 q h1 h2⟩⟩) (fun q hq => hS1.2.2 q hq) dL_way_16 hlk
  · intro r u t H1 locs1 ht hvm hpr hB hz1 hk1 hS2
    obtain ⟨rfl, hne⟩ := hpr
    have hPx : tp_P X LC 64 res.2 t.heap := hB
    rw [ht] at hPx
    have hPo2 := tp_out_kept hPo (hk1 o (tp_out_lt hPo) hoA)
    refine lv_i2l hx hb dL_way_8 (wi_l res.1) ?_
    refine W.last hx hb (hPo2 0 _ rfl) ((hK.2 1 _ rfl).1 1 (fun _ => .long (Int64.ofInt v))) (fun q => by cases q) (by show ¬ ((0 : Int32) < 0 ∨ (arrV _ _ _).slots.size ≤ _); rw [arrV_size]; exact (by decide : ¬ ((0 : Int32) < 0 ∨ 1 ≤ Int32.toNatClampNeg 0))) rfl rfl dL_way_9 fun H3 e3 z3 oq3 => ?_
    have oq3 : ∀ q : Nat, q ≠ o → H3[q]? = H1[q]? := oq3
    have hS3 := hS2.put z3 oq3 (Or.inr rfl : tp_Ao X o o) (k := (0 : Int32).toNatClampNeg)
    have hPx3 : tp_P X LC 64 res.2 H3 := tp_P_kept hPx (fun q hq _ => oq3 q (fun e9 => hoA (e9 ▸ hq)))
    have hPo3 : va_P X.2.1 tp_cl (tp_out X o (w32 res.1)) H3 := fun k q hk => by
      have h1 : k < 1 := (List.getElem?_eq_some_iff.mp hk).1
      obtain rfl : k = 0 := by omega
      cases hk
      show H3[o]? = some (vp_cell (X.2.2.1 1) (1, .inr (.inl (fun _ => Int64.ofInt (w32 res.1)))))
      rw [e3]
      show some ((arrV (X.2.2.1 1) 1 (fun _ => .long (Int64.ofInt v))).setSlot 0 (.long (Int64.ofInt (w32 res.1)))) = some (arrV (X.2.2.1 1) 1 (fun _ => .long (Int64.ofInt (w32 res.1))))
      simp only [arrV, Cell.setSlot]
      congr 2
    refine W.eq (g2 := F0 m 10 ls []) rfl ?_
    refine lv_goto (tgt := 17) hx hb dL_way_10 (by decide) ?_
    refine lv_iconst (v := 0) hx hb dL_way_17 (by decide) ?_
    refine W.widen (k := 1) (n := 6) (by decide) (by decide) ?_
    exact W.iret hx hb hr (fun t ht _ => ⟨⟨_, (), rfl, by rw [if_neg hne]; rfl, by show tp_P X LC 64 res.2 t.heap ∧ _; rw [ht, if_neg hne]; exact ⟨hPx3, hPo3⟩⟩, by rw [va_F]; exact ⟨by rw [ht]; exact hS3.1, fun q h1 h2 => by rw [ht]; exact hS3.2.1 q h1 h2⟩⟩) (fun q hq => hS3.2.2 q hq) dL_way_18 hlk
set_option maxRecDepth 100000 in
set_option maxHeartbeats 4000000 in
theorem help_row (X : tp_X) (hTX : tp_TX X 64) {o : Nat} (hoA : ¬ tp_A X.2.2.2.2 64 o) {p0 v : Int} {M : tp_M} {res : Int × tp_M} (h : fx_X10_row p0 M = some res) : tp_RetH X yL_row (Cond.codeWith yL_row cL_row 4 (some .int) [(0, 8, 11, 13)]) 11 o [vR X 0, vI p0, .ref o] M v (if res.1 = tp_TH then 1 else 0) res.2 (if res.1 = tp_TH then v else res.1) := by
  refine va_MetW (cc := cL_row) (maxL := 4) (ret := some .int) (hh := [(0, 8, 11, 13)]) (by decide +kernel) rfl ?_
  intro p e s m args below meth c s₁ B hml hv
  obtain ⟨rfl, ⟨hP, hK, hNW, hE, hst⟩, hPo⟩ := hv
  have hx := B.exec
  have hb := B.bytes
  have hr := B.returns
  have hlk := B.notSynchronized
  have hts0 := atoms_spec (ws := (Cond.codeWith yL_row cL_row 4 (some .int) [(0, 8, 11, 13)]) :: tp_W) B.pre
  have hts : ∀ w ∈ tp_W, w.before _ s = true := fun w hw => hts0 w (List.mem_cons_of_mem _ hw)
  have hown : s.vm.findClass RL = some m.cls := findClass_of_methodNamed B.named
  have htab : c.exceptionTable.toList = tableOf [(0, 8, 11, 13)] := vx_table (x := yL_row) B (hts0 _ List.mem_cons_self)
  have hl := lv_entry ([vR X 0, vI p0, .ref o]) (n := 4) (Nat.le_of_ble_eq_true rfl)
  rw [lg_entry_eq]
  generalize (lg_sl ([vR X 0, vI p0, .ref o]) ++ List.replicate (4 - (lg_sl ([vR X 0, vI p0, .ref o])).length) Slot.unset).toArray = ls at hl ⊢
  have hl : lv_has ls 4 [(0, vR X 0), (1, vI p0), (2, .ref o)] := hl
  have hS : va_S (tp_Ao X o) s.heap s.heap [] := va_S.rf
  refine lv_aload_n hx hb dL_row_0 rfl (lv_at hl 2 rfl) ?_
  refine lv_iconst (v := 0) hx hb dL_row_1 (by decide) ?_
  refine lv_aload_n hx hb dL_row_2 rfl (lv_at hl 0 rfl) ?_
  refine lv_iload_n hx hb dL_row_3 rfl (lv_at hl 1 rfl) ?_
  refine vx_calll (vx_runV (As := [vI p0]) (rest := [.int 0, .ref o]) ⟨hx, hb, hml, hown, hts⟩ (ok_X10_row X hTX h) (cwV (Ts := tp_W) 1 hts (tp_Gd (fun w hwm => by
      rcases List.mem_append.mp hwm with q | q
      · simp only [List.mem_cons, List.not_mem_nil, or_false] at q
        rcases q with q | q | q | q
        · rw [q]; exact ml_L_18
        · rw [q]; exact mn_X10_row
        · rw [q]; exact mse_X10_row
        · rw [q]; exact mi_X10
      · rcases List.mem_cons.mp q with q | q
        · rw [q]; exact mc_X10_row
        · exact q)) rfl rfl rfl ⟨rfl, by decide +kernel⟩ (by decide)) ⟨tp_blind, va_recv hK hP (ci := 10) (q0 := 0) rfl (by rw [tp_ws_at (by decide)]; rfl), fun U hU hW => ⟨rfl, tp_pre hP va_S.rf hK hNW hE hst hU hW⟩⟩ rfl rfl hl.1 rfl (lv_room (Nat.le_of_ble_eq_true rfl)) dL_row_4 ⟨Nat.le_refl _, Nat.le_refl _⟩) hS (fun q _ h => Or.inl h) (fun q h => Or.inl h) (fun q _ h => Or.inl h) ?_ ?_
  · intro E ce q9 u t H1 locs1 ht hvm hpx hBX hz1 hk1 hS1 hce hcv hcl
    obtain ⟨rfl, hPx⟩ := hBX
    have hpx : res.1 = tp_TH := hpx
    rw [ht] at hPx
    have hPo1 := tp_out_kept hPo (hk1 o (tp_out_lt hPo) hoA)
    refine vx_catch (name := "java/util/NoSuchElementException") hown [] { startPc := 0, endPc := 8, handlerPc := 11, catchType := 13 } [] (by rw [htab]; rfl) (fun z hz => by cases hz) (by decide) (by decide) (hts _ cl_L_13) (va_Nw.use rfl (((hTX.2 s hE).1) _ (by simp [tp_thw]))) hce hcv hcl ?_
    refine lv_astore_n (lv' := [(3, .ref q9), (0, vR X 0), (1, vI p0), (2, .ref o)]) hx hb dL_row_11 rfl hl (by decide) rfl (fun ls hl => ?_)
    refine lv_iconst (v := 1) hx hb dL_row_12 (by decide) ?_
    refine W.widen (k := 1) (n := 6) (by decide) (by decide) ?_
    exact W.iret hx hb hr (fun t ht _ => ⟨⟨_, (), rfl, by rw [if_pos hpx]; rfl, by show tp_P X LC 64 res.2 t.heap ∧ _; rw [ht, if_pos hpx]; exact ⟨hPx, hPo1⟩⟩, by rw [va_F]; exact ⟨by rw [ht]; exact hS1.1, fun q h1 h2 => by rw [ht]; exact hS1.2.1 q h1 h2⟩⟩) (fun q hq => hS1.2.2 q hq) dL_row_13 hlk
  · intro r u t H1 locs1 ht hvm hpr hB hz1 hk1 hS2
    obtain ⟨rfl, hne⟩ := hpr
    have hPx : tp_P X LC 64 res.2 t.heap := hB
    rw [ht] at hPx
    have hPo2 := tp_out_kept hPo (hk1 o (tp_out_lt hPo) hoA)
    refine W.last hx hb (hPo2 0 _ rfl) ((hK.2 1 _ rfl).1 1 (fun _ => .long (Int64.ofInt v))) (fun q => by cases q) (by show ¬ ((0 : Int32) < 0 ∨ (arrV _ _ _).slots.size ≤ _); rw [arrV_size]; exact (by decide : ¬ ((0 : Int32) < 0 ∨ 1 ≤ Int32.toNatClampNeg 0))) rfl rfl dL_row_7 fun H3 e3 z3 oq3 => ?_
    have oq3 : ∀ q : Nat, q ≠ o → H3[q]? = H1[q]? := oq3
    have hS3 := hS2.put z3 oq3 (Or.inr rfl : tp_Ao X o o) (k := (0 : Int32).toNatClampNeg)
    have hPx3 : tp_P X LC 64 res.2 H3 := tp_P_kept hPx (fun q hq _ => oq3 q (fun e9 => hoA (e9 ▸ hq)))
    have hPo3 : va_P X.2.1 tp_cl (tp_out X o (res.1)) H3 := fun k q hk => by
      have h1 : k < 1 := (List.getElem?_eq_some_iff.mp hk).1
      obtain rfl : k = 0 := by omega
      cases hk
      show H3[o]? = some (vp_cell (X.2.2.1 1) (1, .inr (.inl (fun _ => Int64.ofInt (res.1)))))
      rw [e3]
      show some ((arrV (X.2.2.1 1) 1 (fun _ => .long (Int64.ofInt v))).setSlot 0 (.long (Int64.ofInt (res.1)))) = some (arrV (X.2.2.1 1) 1 (fun _ => .long (Int64.ofInt (res.1))))
      simp only [arrV, Cell.setSlot]
      congr 2
    refine W.eq (g2 := F0 m 8 ls []) rfl ?_
    refine lv_goto (tgt := 14) hx hb dL_row_8 (by decide) ?_
    refine lv_iconst (v := 0) hx hb dL_row_14 (by decide) ?_
    refine W.widen (k := 1) (n := 6) (by decide) (by decide) ?_
    exact W.iret hx hb hr (fun t ht _ => ⟨⟨_, (), rfl, by rw [if_neg hne]; rfl, by show tp_P X LC 64 res.2 t.heap ∧ _; rw [ht, if_neg hne]; exact ⟨hPx3, hPo3⟩⟩, by rw [va_F]; exact ⟨by rw [ht]; exact hS3.1, fun q h1 h2 => by rw [ht]; exact hS3.2.1 q h1 h2⟩⟩) (fun q hq => hS3.2.2 q hq) dL_row_15 hlk
